def F_Reader_takeGuest (Ld1 : Nat) (M : gM) (L : gL) : Option (gM × gL) :=
  nmI (M Ld1 2) (fun x1 => (if x1 < 4 then bI (F_Reader_take M) (fun M4 => bI2 (F_Reader_takeNewName (-1) M4 L) (fun M6 L7 => bI2 (F_Reader_takeInt 9 M6 L7) (fun r9 M10 => bI (F_Main_put (Ld1 + 6) 4 x1 r9 M10) (fun M12 => bI (F_Reader_need 59 M12) (fun M14 => nmM (uM M14 Ld1 2 (x1 + 1)) (fun M15 => some (M15, L7))))))) else bI (F_Reader_stop 2 M) (fun M17 => some (M17, L))))
set_option maxHeartbeats 4000000 in
set_option maxRecDepth 20000 in
theorem f_Reader_takeGuest {l : Launch} {ld : Nat} {M : gM} {L : gL} {Q : Option Value → gM → gL → gR → Prop} (hld : isLa ld) {Ld1 : Nat} (hLd1 : isLa Ld1) {q : gM × gL} (h : F_Reader_takeGuest Ld1 M L = some q) (hQ : Q none q.1 q.2 (rf ld)) : Tm l y_Reader_takeGuest (0, 0, 447) 447 [.ref 3, .ref Ld1] M L (rf ld) Q := by
  refine Tm.of (by decide) (Nat.le_of_ble_eq_true rfl) ?_
  show Wp l y_Reader_takeGuest (0, 0, 447) 447 0 0 0 [(0, .ref 3), (1, .ref Ld1)] [] M L (rf ld) Q
  unfold F_Reader_takeGuest at h
  refine g_aload_n (pc1 := 1) d_Reader_takeGuest_0 rfl 1 rfl ?_
  refine g_geti (pc1 := 4) d_Reader_takeGuest_1 rfl ⟨_, fo_Reader_165⟩ (shLa_0 hLd1) (ltLa_0 hLd1) ?_
  refine Wp.lI h (fun x1 h => ?_)
  refine g_istore_n (pc1 := 5) (lv' := [(0, .ref 3), (1, .ref Ld1), (2, .int x1)]) d_Reader_takeGuest_4 rfl rfl (by decide) [1, 2, 0] rfl ?_
  refine g_iload_n (pc1 := 6) d_Reader_takeGuest_5 rfl 2 rfl ?_
  refine g_iconst (pc1 := 7) (v := 4) d_Reader_takeGuest_6 rfl (by decide) ?_
  refine g_icmp_lt (pc1 := 10) (tgt := 16) d_Reader_takeGuest_7 (by decide) rfl (fun c2 => ?_) (fun c2 => ?_)
  · replace h := itp h c2
    refine g_aload_n (pc1 := 17) d_Reader_takeGuest_16 rfl 0 rfl ?_
    refine g_callV0 (pc1 := 20) (As := []) (rest := []) d_Reader_takeGuest_17 rfl mo_Reader_108 mi_Reader_take mv_Reader_take rfl sh_3 (by decide) (by decide) rfl rfl (Nat.le_of_ble_eq_true rfl) ?_
    obtain ⟨M4, hq3, h⟩ := bnd h
    refine f_Reader_take hld  hq3 ?_
    dsimp only [psh]
    refine g_aload_n (pc1 := 21) d_Reader_takeGuest_20 rfl 0 rfl ?_
    refine g_iconst (pc1 := 22) (v := (-1)) d_Reader_takeGuest_21 rfl (by decide) ?_
    refine g_callV0 (pc1 := 25) (As := [.int (-1)]) (rest := []) d_Reader_takeGuest_22 rfl mo_Reader_128 mi_Reader_takeNewName mv_Reader_takeNewName rfl sh_3 (by decide) (by decide) rfl rfl (Nat.le_of_ble_eq_true rfl) ?_
    obtain ⟨M6, L7, hq5, h⟩ := bnd2 h
    refine f_Reader_takeNewName hld  hq5 ?_
    dsimp only [psh]
    refine g_aload_n (pc1 := 26) d_Reader_takeGuest_25 rfl 1 rfl ?_
    refine g_getr (pc1 := 29) d_Reader_takeGuest_26 rfl ⟨_, fo_Reader_168⟩ (shLa_0 hLd1) (ltLa_0 hLd1) (rfLa_10 ld hLd1) ?_
    refine g_iload_n (pc1 := 30) d_Reader_takeGuest_29 rfl 2 rfl ?_
    refine g_aload_n (pc1 := 31) d_Reader_takeGuest_30 rfl 0 rfl ?_
    refine g_bipush (pc1 := 33) (v := 9) d_Reader_takeGuest_31 rfl (by decide) ?_
    refine g_callV0 (pc1 := 36) (As := [.int 9]) (rest := [.int x1, .ref (Ld1 + 6)]) d_Reader_takeGuest_33 rfl mo_Reader_134 mi_Reader_takeInt mv_Reader_takeInt rfl sh_3 (by decide) (by decide) rfl rfl (Nat.le_of_ble_eq_true rfl) ?_
    obtain ⟨r9, M10, hq8, h⟩ := bnd2 h
    refine f_Reader_takeInt hld  hq8 ?_
    dsimp only [psh]
    refine g_callS0 (pc1 := 39) (As := [.ref (Ld1 + 6), .int x1, .int r9]) (rest := []) d_Reader_takeGuest_36 rfl mo_Reader_138 ms_Main_put (by decide) rfl rfl (Nat.le_of_ble_eq_true rfl) ?_
    obtain ⟨M12, hq11, h⟩ := bnd h
    refine f_Main_put hld (shLa_6 hLd1) (ltLa_6 hLd1) (by decide) hq11 ?_
    dsimp only [psh]
    refine g_aload_n (pc1 := 40) d_Reader_takeGuest_39 rfl 0 rfl ?_
    refine g_bipush (pc1 := 42) (v := 59) d_Reader_takeGuest_40 rfl (by decide) ?_
    refine g_callV0 (pc1 := 45) (As := [.int 59]) (rest := []) d_Reader_takeGuest_42 rfl mo_Reader_118 mi_Reader_need mv_Reader_need rfl sh_3 (by decide) (by decide) rfl rfl (Nat.le_of_ble_eq_true rfl) ?_
    obtain ⟨M14, hq13, h⟩ := bnd h
    refine f_Reader_need hld  hq13 ?_
    dsimp only [psh]
    refine g_aload_n (pc1 := 46) d_Reader_takeGuest_45 rfl 1 rfl ?_
    refine g_iload_n (pc1 := 47) d_Reader_takeGuest_46 rfl 2 rfl ?_
    refine g_iconst (pc1 := 48) (v := 1) d_Reader_takeGuest_47 rfl (by decide) ?_
    refine g_iadd (pc1 := 49) d_Reader_takeGuest_48 rfl ?_
    refine g_puti (pc1 := 52) d_Reader_takeGuest_49 rfl fo_Reader_165 (po_4_2 _) (shLa_0 hLd1) (ltLa_0 hLd1) ?_
    refine Wp.lM h (fun M15 h => ?_)
    refine g_return rfl d_Reader_takeGuest_52 rfl ?_
    cases h; exact hQ
  · replace h := itn h c2
    refine g_aload_n (pc1 := 11) d_Reader_takeGuest_10 rfl 0 rfl ?_
    refine g_iconst (pc1 := 12) (v := 2) d_Reader_takeGuest_11 rfl (by decide) ?_
    refine g_callV0 (pc1 := 15) (As := [.int 2]) (rest := []) d_Reader_takeGuest_12 rfl mo_Reader_95 mi_Reader_stop mv_Reader_stop rfl sh_3 (by decide) (by decide) rfl rfl (Nat.le_of_ble_eq_true rfl) ?_
    obtain ⟨M17, hq16, h⟩ := bnd h
    refine f_Reader_stop hld  hq16 ?_
    dsimp only [psh]
    refine g_return rfl d_Reader_takeGuest_15 rfl ?_
    cases h; exact hQ

def J_Reader_takeLaw_106 (Wl1 : Nat) (M : gM) (L : gL) : Option (gM) :=
  bI (F_Reader_takeSum Wl1 M L) (fun M9 => bI (F_Reader_need 59 M9) (fun M11 => some M11))
set_option maxHeartbeats 4000000 in
set_option maxRecDepth 20000 in
theorem j_Reader_takeLaw_106 {l : Launch} {ld : Nat} {Q : Option Value → gM → gL → gR → Prop} (hld : isLa ld) {Wl1 : Nat} (hWl1 : isLw Wl1) {q : gM} {M : gM} {L : gL} (hQ : Q none q L (rf ld))    (h : J_Reader_takeLaw_106 Wl1 M L = some q) : Wp l y_Reader_takeLaw (0, 0, 447) 447 0 0 106 [(0, .ref 3), (1, .ref Wl1)] [] M L (rf ld) Q := by
  unfold J_Reader_takeLaw_106 at h
  refine g_aload_n (pc1 := 107) d_Reader_takeLaw_106 rfl 0 rfl ?_
  refine g_aload_n (pc1 := 108) d_Reader_takeLaw_107 rfl 1 rfl ?_
  refine g_callV0 (pc1 := 111) (As := [.ref Wl1]) (rest := []) d_Reader_takeLaw_108 rfl mo_Reader_186 mi_Reader_takeSum mv_Reader_takeSum rfl sh_3 (by decide) (by decide) rfl rfl (Nat.le_of_ble_eq_true rfl) ?_
  obtain ⟨M9, hq8, h⟩ := bnd h
  refine f_Reader_takeSum hld hWl1 hq8 ?_
  dsimp only [psh]
  refine g_aload_n (pc1 := 112) d_Reader_takeLaw_111 rfl 0 rfl ?_
  refine g_bipush (pc1 := 114) (v := 59) d_Reader_takeLaw_112 rfl (by decide) ?_
  refine g_callV0 (pc1 := 117) (As := [.int 59]) (rest := []) d_Reader_takeLaw_114 rfl mo_Reader_118 mi_Reader_need mv_Reader_need rfl sh_3 (by decide) (by decide) rfl rfl (Nat.le_of_ble_eq_true rfl) ?_
  obtain ⟨M11, hq10, h⟩ := bnd h
  refine f_Reader_need hld  hq10 ?_
  dsimp only [psh]
  refine g_return rfl d_Reader_takeLaw_117 rfl ?_
  cases h; exact hQ
def J_Reader_takeLaw_43 (Wl1 : Nat) (M : gM) (L : gL) : Option (gM) :=
  bI (F_Reader_stop 2 M) (fun M38 => J_Reader_takeLaw_106 Wl1 M38 L)
set_option maxHeartbeats 4000000 in
set_option maxRecDepth 20000 in
theorem j_Reader_takeLaw_43 {l : Launch} {ld : Nat} {Q : Option Value → gM → gL → gR → Prop} (hld : isLa ld) {Wl1 : Nat} (hWl1 : isLw Wl1) {q : gM} {M : gM} {L : gL} (hQ : Q none q L (rf ld))    (h : J_Reader_takeLaw_43 Wl1 M L = some q) : Wp l y_Reader_takeLaw (0, 0, 447) 447 0 0 43 [(0, .ref 3), (1, .ref Wl1)] [] M L (rf ld) Q := by
  unfold J_Reader_takeLaw_43 at h
  refine g_aload_n (pc1 := 44) d_Reader_takeLaw_43 rfl 0 rfl ?_
  refine g_iconst (pc1 := 45) (v := 2) d_Reader_takeLaw_44 rfl (by decide) ?_
  refine g_callV0 (pc1 := 48) (As := [.int 2]) (rest := []) d_Reader_takeLaw_45 rfl mo_Reader_95 mi_Reader_stop mv_Reader_stop rfl sh_3 (by decide) (by decide) rfl rfl (Nat.le_of_ble_eq_true rfl) ?_
  obtain ⟨M38, hq37, h⟩ := bnd h
  refine f_Reader_stop hld  hq37 ?_
  dsimp only [psh]
  refine g_goto (tgt := 106) d_Reader_takeLaw_48 (by decide) ?_
  exact j_Reader_takeLaw_106 hld hWl1 hQ  h
def B_Reader_takeLaw_16 (Wl1 : Nat) (L : gL) (K16 : Int32 → gM → Option (gM)) : Int32 → gM → Option (gM) := fun v2 M =>
  (if 4 < v2 then J_Reader_takeLaw_106 Wl1 M L else (if (M 3 2) = 0 then bI (F_Reader_is 137 M) (fun r14 => (if r14 = 0 then J_Reader_takeLaw_106 Wl1 M L else (if v2 = 4 then J_Reader_takeLaw_43 Wl1 M L else bI (F_Reader_take M) (fun M18 => bI (F_Reader_takeSum Wl1 M18 L) (fun M20 => bI (F_Reader_need 60 M20) (fun M22 => bI (F_Reader_takeSum Wl1 M22 L) (fun M24 => bI (F_Reader_need 138 M24) (fun M26 => bI2 (F_Law_openIf Wl1 M26) (fun r28 M29 => bI (F_Reader_takeSum Wl1 M29 L) (fun M31 => bI (F_Reader_need 139 M31) (fun M33 => bI (F_Law_closeIf Wl1 r28 M33) (fun M35 => nmI (v2 + 1) (fun x36 => K16 x36 M35))))))))))))) else J_Reader_takeLaw_106 Wl1 M L))
def H_Reader_takeLaw_16 (Wl1 : Nat) (L : gL) : Nat → Int32 → gM → Option (gM) := lpK (B_Reader_takeLaw_16 Wl1 L) (fun _ _ => none)
set_option maxHeartbeats 4000000 in
set_option maxRecDepth 20000 in
theorem h_Reader_takeLaw_16 {l : Launch} {ld : Nat} {Q : Option Value → gM → gL → gR → Prop} (hld : isLa ld) {Wl1 : Nat} (hWl1 : isLw Wl1) {q : gM} {L : gL} (hQ : Q none q L (rf ld))    : ∀ (f : Nat) (v2 : Int32) (M : gM), H_Reader_takeLaw_16 Wl1 L f v2 M = some q → Wp l y_Reader_takeLaw (0, 0, 447) 447 0 0 16 [(0, .ref 3), (1, .ref Wl1), (2, .int v2)] [] M L (rf ld) Q := by
  intro f
  induction f with
  | zero => intro v2 M h; cases h
  | succ f hK16 =>
    intro v2 M h
    replace h : B_Reader_takeLaw_16 Wl1 L (H_Reader_takeLaw_16 Wl1 L f) v2 M = some q := h
    unfold B_Reader_takeLaw_16 at h
    refine g_iload_n (pc1 := 17) d_Reader_takeLaw_16 rfl 2 rfl ?_
    refine g_iconst (pc1 := 18) (v := 4) d_Reader_takeLaw_17 rfl (by decide) ?_
    refine g_icmp_gt (pc1 := 21) (tgt := 106) d_Reader_takeLaw_18 (by decide) rfl (fun c7 => ?_) (fun c7 => ?_)
    · replace h := itp h c7
      refine Wp.loc (lv' := [(0, .ref 3), (1, .ref Wl1)]) [0, 1] rfl ?_
      exact j_Reader_takeLaw_106 hld hWl1 hQ  h
    · replace h := itn h c7
      refine g_aload_n (pc1 := 22) d_Reader_takeLaw_21 rfl 0 rfl ?_
      refine g_geti (pc1 := 25) d_Reader_takeLaw_22 rfl ⟨_, fo_Reader_42⟩ sh_3 (by decide) ?_
      refine g_if_ne (pc1 := 28) (tgt := 106) d_Reader_takeLaw_25 (by decide) rfl (fun c12 => ?_) (fun c12 => ?_)
      · replace h := itn h c12
        refine Wp.loc (lv' := [(0, .ref 3), (1, .ref Wl1)]) [0, 1] rfl ?_
        exact j_Reader_takeLaw_106 hld hWl1 hQ  h
      · replace h := itp h c12
        refine g_aload_n (pc1 := 29) d_Reader_takeLaw_28 rfl 0 rfl ?_
        refine g_sipush (pc1 := 32) (v := 137) d_Reader_takeLaw_29 rfl (by decide) ?_
        refine g_callV0 (pc1 := 35) (As := [.int 137]) (rest := []) d_Reader_takeLaw_32 rfl mo_Reader_51 mi_Reader_is mv_Reader_is rfl sh_3 (by decide) (by decide) rfl rfl (Nat.le_of_ble_eq_true rfl) ?_
        obtain ⟨r14, hq13, h⟩ := bnd h
        refine f_Reader_is hld  hq13 ?_
        dsimp only [psh]
        refine g_if_eq (pc1 := 38) (tgt := 106) d_Reader_takeLaw_35 (by decide) rfl (fun c15 => ?_) (fun c15 => ?_)
        · replace h := itp h c15
          refine Wp.loc (lv' := [(0, .ref 3), (1, .ref Wl1)]) [0, 1] rfl ?_
          exact j_Reader_takeLaw_106 hld hWl1 hQ  h
        · replace h := itn h c15
          refine g_iload_n (pc1 := 39) d_Reader_takeLaw_38 rfl 2 rfl ?_
          refine g_iconst (pc1 := 40) (v := 4) d_Reader_takeLaw_39 rfl (by decide) ?_
          refine g_icmp_ne (pc1 := 43) (tgt := 51) d_Reader_takeLaw_40 (by decide) rfl (fun c16 => ?_) (fun c16 => ?_)
          · replace h := itn h c16
            refine g_aload_n (pc1 := 52) d_Reader_takeLaw_51 rfl 0 rfl ?_
            refine g_callV0 (pc1 := 55) (As := []) (rest := []) d_Reader_takeLaw_52 rfl mo_Reader_108 mi_Reader_take mv_Reader_take rfl sh_3 (by decide) (by decide) rfl rfl (Nat.le_of_ble_eq_true rfl) ?_
            obtain ⟨M18, hq17, h⟩ := bnd h
            refine f_Reader_take hld  hq17 ?_
            dsimp only [psh]
            refine g_aload_n (pc1 := 56) d_Reader_takeLaw_55 rfl 0 rfl ?_
            refine g_aload_n (pc1 := 57) d_Reader_takeLaw_56 rfl 1 rfl ?_
            refine g_callV0 (pc1 := 60) (As := [.ref Wl1]) (rest := []) d_Reader_takeLaw_57 rfl mo_Reader_186 mi_Reader_takeSum mv_Reader_takeSum rfl sh_3 (by decide) (by decide) rfl rfl (Nat.le_of_ble_eq_true rfl) ?_
            obtain ⟨M20, hq19, h⟩ := bnd h
            refine f_Reader_takeSum hld hWl1 hq19 ?_
            dsimp only [psh]
            refine g_aload_n (pc1 := 61) d_Reader_takeLaw_60 rfl 0 rfl ?_
            refine g_bipush (pc1 := 63) (v := 60) d_Reader_takeLaw_61 rfl (by decide) ?_
            refine g_callV0 (pc1 := 66) (As := [.int 60]) (rest := []) d_Reader_takeLaw_63 rfl mo_Reader_118 mi_Reader_need mv_Reader_need rfl sh_3 (by decide) (by decide) rfl rfl (Nat.le_of_ble_eq_true rfl) ?_
            obtain ⟨M22, hq21, h⟩ := bnd h
            refine f_Reader_need hld  hq21 ?_
            dsimp only [psh]
            refine g_aload_n (pc1 := 67) d_Reader_takeLaw_66 rfl 0 rfl ?_
            refine g_aload_n (pc1 := 68) d_Reader_takeLaw_67 rfl 1 rfl ?_
            refine g_callV0 (pc1 := 71) (As := [.ref Wl1]) (rest := []) d_Reader_takeLaw_68 rfl mo_Reader_186 mi_Reader_takeSum mv_Reader_takeSum rfl sh_3 (by decide) (by decide) rfl rfl (Nat.le_of_ble_eq_true rfl) ?_
            obtain ⟨M24, hq23, h⟩ := bnd h
            refine f_Reader_takeSum hld hWl1 hq23 ?_
            dsimp only [psh]
            refine g_aload_n (pc1 := 72) d_Reader_takeLaw_71 rfl 0 rfl ?_
            refine g_sipush (pc1 := 75) (v := 138) d_Reader_takeLaw_72 rfl (by decide) ?_
            refine g_callV0 (pc1 := 78) (As := [.int 138]) (rest := []) d_Reader_takeLaw_75 rfl mo_Reader_118 mi_Reader_need mv_Reader_need rfl sh_3 (by decide) (by decide) rfl rfl (Nat.le_of_ble_eq_true rfl) ?_
            obtain ⟨M26, hq25, h⟩ := bnd h
            refine f_Reader_need hld  hq25 ?_
            dsimp only [psh]
            refine g_aload_n (pc1 := 79) d_Reader_takeLaw_78 rfl 1 rfl ?_
            refine g_callV0 (pc1 := 82) (As := []) (rest := []) d_Reader_takeLaw_79 rfl mo_Reader_189 mi_Law_openIf mv_Law_openIf rfl (shLw_0 hWl1) (ltLw_0 hWl1) (by decide) rfl rfl (Nat.le_of_ble_eq_true rfl) ?_
            obtain ⟨r28, M29, hq27, h⟩ := bnd2 h
            refine f_Law_openIf hld hWl1 hq27 ?_
            dsimp only [psh]
            refine g_istore_n (pc1 := 83) (lv' := [(0, .ref 3), (1, .ref Wl1), (2, .int v2), (3, .int r28)]) d_Reader_takeLaw_82 rfl rfl (by decide) [1, 2, 3, 0] rfl ?_
            refine g_aload_n (pc1 := 84) d_Reader_takeLaw_83 rfl 0 rfl ?_
            refine g_aload_n (pc1 := 85) d_Reader_takeLaw_84 rfl 1 rfl ?_
            refine g_callV0 (pc1 := 88) (As := [.ref Wl1]) (rest := []) d_Reader_takeLaw_85 rfl mo_Reader_186 mi_Reader_takeSum mv_Reader_takeSum rfl sh_3 (by decide) (by decide) rfl rfl (Nat.le_of_ble_eq_true rfl) ?_
            obtain ⟨M31, hq30, h⟩ := bnd h
            refine f_Reader_takeSum hld hWl1 hq30 ?_
            dsimp only [psh]
            refine g_aload_n (pc1 := 89) d_Reader_takeLaw_88 rfl 0 rfl ?_
            refine g_sipush (pc1 := 92) (v := 139) d_Reader_takeLaw_89 rfl (by decide) ?_
            refine g_callV0 (pc1 := 95) (As := [.int 139]) (rest := []) d_Reader_takeLaw_92 rfl mo_Reader_118 mi_Reader_need mv_Reader_need rfl sh_3 (by decide) (by decide) rfl rfl (Nat.le_of_ble_eq_true rfl) ?_
            obtain ⟨M33, hq32, h⟩ := bnd h
            refine f_Reader_need hld  hq32 ?_
            dsimp only [psh]
            refine g_aload_n (pc1 := 96) d_Reader_takeLaw_95 rfl 1 rfl ?_
            refine g_iload_n (pc1 := 97) d_Reader_takeLaw_96 rfl 3 rfl ?_
            refine g_callV0 (pc1 := 100) (As := [.int r28]) (rest := []) d_Reader_takeLaw_97 rfl mo_Reader_193 mi_Law_closeIf mv_Law_closeIf rfl (shLw_0 hWl1) (ltLw_0 hWl1) (by decide) rfl rfl (Nat.le_of_ble_eq_true rfl) ?_
            obtain ⟨M35, hq34, h⟩ := bnd h
            refine f_Law_closeIf hld hWl1 hq34 ?_
            dsimp only [psh]
            obtain ⟨x36, ex36, h⟩ := ltI h
            refine g_iinc (pc1 := 103) (v := x36) (lv' := [(0, .ref 3), (1, .ref Wl1), (2, .int x36), (3, .int r28)]) d_Reader_takeLaw_100 rfl 2 rfl (by rw [ex36]; rfl) (by decide) [1, 2, 0, 3] rfl ?_
            refine g_goto (tgt := 16) d_Reader_takeLaw_103 (by decide) ?_
            refine Wp.loc (lv' := [(0, .ref 3), (1, .ref Wl1), (2, .int x36)]) [0, 1, 2] rfl ?_
            exact hK16 x36 M35 h
          · replace h := itp h c16
            refine Wp.loc (lv' := [(0, .ref 3), (1, .ref Wl1)]) [0, 1] rfl ?_
            exact j_Reader_takeLaw_43 hld hWl1 hQ  h
def F_Reader_takeLaw (Wl1 : Nat) (M : gM) (L : gL) : Option (gM) :=
  bI (F_Law_clear Wl1 M) (fun M2 => bI (F_Reader_take M2) (fun M4 => bI (F_Reader_need 61 M4) (fun M6 => H_Reader_takeLaw_16 Wl1 L FU 0 M6)))
set_option maxHeartbeats 4000000 in
set_option maxRecDepth 20000 in
theorem f_Reader_takeLaw {l : Launch} {ld : Nat} {M : gM} {L : gL} {Q : Option Value → gM → gL → gR → Prop} (hld : isLa ld) {Wl1 : Nat} (hWl1 : isLw Wl1) {q : gM} (h : F_Reader_takeLaw Wl1 M L = some q) (hQ : Q none q L (rf ld)) : Tm l y_Reader_takeLaw (0, 0, 447) 447 [.ref 3, .ref Wl1] M L (rf ld) Q := by
  refine Tm.of (by decide) (Nat.le_of_ble_eq_true rfl) ?_
  show Wp l y_Reader_takeLaw (0, 0, 447) 447 0 0 0 [(0, .ref 3), (1, .ref Wl1)] [] M L (rf ld) Q
  unfold F_Reader_takeLaw at h
  refine g_aload_n (pc1 := 1) d_Reader_takeLaw_0 rfl 1 rfl ?_
  refine g_callV0 (pc1 := 4) (As := []) (rest := []) d_Reader_takeLaw_1 rfl mo_Reader_183 mi_Law_clear mv_Law_clear rfl (shLw_0 hWl1) (ltLw_0 hWl1) (by decide) rfl rfl (Nat.le_of_ble_eq_true rfl) ?_
  obtain ⟨M2, hq1, h⟩ := bnd h
  refine f_Law_clear hld hWl1 hq1 ?_
  dsimp only [psh]
  refine g_aload_n (pc1 := 5) d_Reader_takeLaw_4 rfl 0 rfl ?_
  refine g_callV0 (pc1 := 8) (As := []) (rest := []) d_Reader_takeLaw_5 rfl mo_Reader_108 mi_Reader_take mv_Reader_take rfl sh_3 (by decide) (by decide) rfl rfl (Nat.le_of_ble_eq_true rfl) ?_
  obtain ⟨M4, hq3, h⟩ := bnd h
  refine f_Reader_take hld  hq3 ?_
  dsimp only [psh]
  refine g_aload_n (pc1 := 9) d_Reader_takeLaw_8 rfl 0 rfl ?_
  refine g_bipush (pc1 := 11) (v := 61) d_Reader_takeLaw_9 rfl (by decide) ?_
  refine g_callV0 (pc1 := 14) (As := [.int 61]) (rest := []) d_Reader_takeLaw_11 rfl mo_Reader_118 mi_Reader_need mv_Reader_need rfl sh_3 (by decide) (by decide) rfl rfl (Nat.le_of_ble_eq_true rfl) ?_
  obtain ⟨M6, hq5, h⟩ := bnd h
  refine f_Reader_need hld  hq5 ?_
  dsimp only [psh]
  refine g_iconst (pc1 := 15) (v := 0) d_Reader_takeLaw_14 rfl (by decide) ?_
  refine g_istore_n (pc1 := 16) (lv' := [(0, .ref 3), (1, .ref Wl1), (2, .int 0)]) d_Reader_takeLaw_15 rfl rfl (by decide) [1, 2, 0] rfl ?_
  exact h_Reader_takeLaw_16 hld hWl1 hQ  _ 0 M6 h

def F_Reader_takeSeed (Ld1 : Nat) (M : gM) (L : gL) : Option (gM) :=
  bI (F_Reader_take M) (fun M2 => bI2 (F_Reader_takeInt 9999 M2 L) (fun r4 M5 => nmM (uM M5 Ld1 4 r4) (fun M6 => bI (F_Reader_need 59 M6) (fun M8 => some M8))))
set_option maxHeartbeats 4000000 in
set_option maxRecDepth 20000 in
theorem f_Reader_takeSeed {l : Launch} {ld : Nat} {M : gM} {L : gL} {Q : Option Value → gM → gL → gR → Prop} (hld : isLa ld) {Ld1 : Nat} (hLd1 : isLa Ld1) {q : gM} (h : F_Reader_takeSeed Ld1 M L = some q) (hQ : Q none q L (rf ld)) : Tm l y_Reader_takeSeed (0, 0, 447) 447 [.ref 3, .ref Ld1] M L (rf ld) Q := by
  refine Tm.of (by decide) (Nat.le_of_ble_eq_true rfl) ?_
  show Wp l y_Reader_takeSeed (0, 0, 447) 447 0 0 0 [(0, .ref 3), (1, .ref Ld1)] [] M L (rf ld) Q
  unfold F_Reader_takeSeed at h
  refine g_aload_n (pc1 := 1) d_Reader_takeSeed_0 rfl 0 rfl ?_
  refine g_callV0 (pc1 := 4) (As := []) (rest := []) d_Reader_takeSeed_1 rfl mo_Reader_108 mi_Reader_take mv_Reader_take rfl sh_3 (by decide) (by decide) rfl rfl (Nat.le_of_ble_eq_true rfl) ?_
  obtain ⟨M2, hq1, h⟩ := bnd h
  refine f_Reader_take hld  hq1 ?_
  dsimp only [psh]
  refine g_aload_n (pc1 := 5) d_Reader_takeSeed_4 rfl 1 rfl ?_
  refine g_aload_n (pc1 := 6) d_Reader_takeSeed_5 rfl 0 rfl ?_
  refine g_sipush (pc1 := 9) (v := 9999) d_Reader_takeSeed_6 rfl (by decide) ?_
  refine g_callV0 (pc1 := 12) (As := [.int 9999]) (rest := [.ref Ld1]) d_Reader_takeSeed_9 rfl mo_Reader_134 mi_Reader_takeInt mv_Reader_takeInt rfl sh_3 (by decide) (by decide) rfl rfl (Nat.le_of_ble_eq_true rfl) ?_
  obtain ⟨r4, M5, hq3, h⟩ := bnd2 h
  refine f_Reader_takeInt hld  hq3 ?_
  dsimp only [psh]
  refine g_puti (pc1 := 15) d_Reader_takeSeed_12 rfl fo_Reader_180 (po_4_4 _) (shLa_0 hLd1) (ltLa_0 hLd1) ?_
  refine Wp.lM h (fun M6 h => ?_)
  refine g_aload_n (pc1 := 16) d_Reader_takeSeed_15 rfl 0 rfl ?_
  refine g_bipush (pc1 := 18) (v := 59) d_Reader_takeSeed_16 rfl (by decide) ?_
  refine g_callV0 (pc1 := 21) (As := [.int 59]) (rest := []) d_Reader_takeSeed_18 rfl mo_Reader_118 mi_Reader_need mv_Reader_need rfl sh_3 (by decide) (by decide) rfl rfl (Nat.le_of_ble_eq_true rfl) ?_
  obtain ⟨M8, hq7, h⟩ := bnd h
  refine f_Reader_need hld  hq7 ?_
  dsimp only [psh]
  refine g_return rfl d_Reader_takeSeed_21 rfl ?_
  cases h; exact hQ

def B_State_freeOf_6 (X0 : Nat) (Ld1 : Nat) (v2 : Int32) (v3 : Int32) (K6 : Int32 → Int32 → gM → Option (Int32 × gM)) : Int32 → Int32 → gM → Option (Int32 × gM) := fun v4 v5 M =>
  (if 3 ≤ v5 then some (v4, M) else bI2 (F_State_boundOf X0 Ld1 v2 v5 v3 M) (fun r3 M4 => bI (F_Land_freeUnder Ld1 v5 r3 M4) (fun r6 => nmI (v4 ||| r6) (fun x7 => nmI (v5 + 1) (fun x8 => K6 x7 x8 M4)))))
def H_State_freeOf_6 (X0 : Nat) (Ld1 : Nat) (v2 : Int32) (v3 : Int32) : Nat → Int32 → Int32 → gM → Option (Int32 × gM) := lpK (B_State_freeOf_6 X0 Ld1 v2 v3) (fun _ _ _ => none)
set_option maxHeartbeats 4000000 in
set_option maxRecDepth 20000 in
theorem h_State_freeOf_6 {l : Launch} {ld : Nat} {Q : Option Value → gM → gL → gR → Prop} (hld : isLa ld) {X0 : Nat} {Ld1 : Nat} (hX0 : isSt X0) (hLd1 : isLa Ld1) {q : Int32 × gM} {L : gL} (hQ : Q (some (.int q.1)) q.2 L (rf ld))  {v2 : Int32} {v3 : Int32}  : ∀ (f : Nat) (v4 : Int32) (v5 : Int32) (M : gM), H_State_freeOf_6 X0 Ld1 v2 v3 f v4 v5 M = some q → Wp l y_State_freeOf (0, 0, 447) 447 0 0 6 [(0, .ref X0), (1, .ref Ld1), (2, .int v2), (3, .int v3), (4, .int v4), (5, .int v5)] [] M L (rf ld) Q := by
  intro f
  induction f with
  | zero => intro v4 v5 M h; cases h
  | succ f hK6 =>
    intro v4 v5 M h
    replace h : B_State_freeOf_6 X0 Ld1 v2 v3 (H_State_freeOf_6 X0 Ld1 v2 v3 f) v4 v5 M = some q := h
    unfold B_State_freeOf_6 at h
    refine g_iload (pc1 := 8) d_State_freeOf_6 rfl 5 rfl ?_
    refine g_iconst (pc1 := 9) (v := 3) d_State_freeOf_8 rfl (by decide) ?_
    refine g_icmp_ge (pc1 := 12) (tgt := 38) d_State_freeOf_9 (by decide) rfl (fun c1 => ?_) (fun c1 => ?_)
    · replace h := itp h c1
      refine g_iload (pc1 := 40) d_State_freeOf_38 rfl 4 rfl ?_
      refine g_ireturn (Or.inl rfl) d_State_freeOf_40 rfl ?_
      cases h; exact hQ
    · replace h := itn h c1
      refine g_iload (pc1 := 14) d_State_freeOf_12 rfl 4 rfl ?_
      refine g_aload_n (pc1 := 15) d_State_freeOf_14 rfl 1 rfl ?_
      refine g_iload (pc1 := 17) d_State_freeOf_15 rfl 5 rfl ?_
      refine g_aload_n (pc1 := 18) d_State_freeOf_17 rfl 0 rfl ?_
      refine g_aload_n (pc1 := 19) d_State_freeOf_18 rfl 1 rfl ?_
      refine g_iload_n (pc1 := 20) d_State_freeOf_19 rfl 2 rfl ?_
      refine g_iload (pc1 := 22) d_State_freeOf_20 rfl 5 rfl ?_
      refine g_iload_n (pc1 := 23) d_State_freeOf_22 rfl 3 rfl ?_
      refine g_callV0 (pc1 := 26) (As := [.ref Ld1, .int v2, .int v5, .int v3]) (rest := [.int v5, .ref Ld1, .int v4]) d_State_freeOf_23 rfl mo_State_108 mi_State_boundOf mv_State_boundOf rfl (shSt_0 hX0) (ltSt_0 hX0) (by decide) rfl rfl (Nat.le_of_ble_eq_true rfl) ?_
      obtain ⟨r3, M4, hq2, h⟩ := bnd2 h
      refine f_State_boundOf hld hX0 hLd1 hq2 ?_
      dsimp only [psh]
      refine g_callV0 (pc1 := 29) (As := [.int v5, .int r3]) (rest := [.int v4]) d_State_freeOf_26 rfl mo_State_112 mi_Land_freeUnder mv_Land_freeUnder rfl (shLa_0 hLd1) (ltLa_0 hLd1) (by decide) rfl rfl (Nat.le_of_ble_eq_true rfl) ?_
      obtain ⟨r6, hq5, h⟩ := bnd h
      refine f_Land_freeUnder hld hLd1 hq5 ?_
      dsimp only [psh]
      refine g_ior (pc1 := 30) d_State_freeOf_29 rfl ?_
      refine Wp.lI h (fun x7 h => ?_)
      refine g_istore (pc1 := 32) (lv' := [(0, .ref X0), (1, .ref Ld1), (2, .int v2), (3, .int v3), (4, .int x7), (5, .int v5)]) d_State_freeOf_30 rfl (by decide) [1, 2, 3, 4, 0, 5] rfl ?_
      obtain ⟨x8, ex8, h⟩ := ltI h
      refine g_iinc (pc1 := 35) (v := x8) (lv' := [(0, .ref X0), (1, .ref Ld1), (2, .int v2), (3, .int v3), (4, .int x7), (5, .int x8)]) d_State_freeOf_32 rfl 5 rfl (by rw [ex8]; rfl) (by decide) [1, 2, 3, 4, 5, 0] rfl ?_
      refine g_goto (tgt := 6) d_State_freeOf_35 (by decide) ?_
      exact hK6 x7 x8 M4 h
def F_State_freeOf (X0 : Nat) (Ld1 : Nat) (p2 : Int32) (p3 : Int32) (M : gM) : Option (Int32 × gM) :=
  H_State_freeOf_6 X0 Ld1 p2 p3 FU 0 0 M
set_option maxHeartbeats 4000000 in
set_option maxRecDepth 20000 in
theorem f_State_freeOf {l : Launch} {ld : Nat} {M : gM} {L : gL} {Q : Option Value → gM → gL → gR → Prop} (hld : isLa ld) {X0 : Nat} {Ld1 : Nat} {p2 : Int32} {p3 : Int32} (hX0 : isSt X0) (hLd1 : isLa Ld1) {q : Int32 × gM} (h : F_State_freeOf X0 Ld1 p2 p3 M = some q) (hQ : Q (some (.int q.1)) q.2 L (rf ld)) : Tm l y_State_freeOf (0, 0, 447) 447 [.ref X0, .ref Ld1, .int p2, .int p3] M L (rf ld) Q := by
  refine Tm.of (by decide) (Nat.le_of_ble_eq_true rfl) ?_
  show Wp l y_State_freeOf (0, 0, 447) 447 0 0 0 [(0, .ref X0), (1, .ref Ld1), (2, .int p2), (3, .int p3)] [] M L (rf ld) Q
  unfold F_State_freeOf at h
  refine g_iconst (pc1 := 1) (v := 0) d_State_freeOf_0 rfl (by decide) ?_
  refine g_istore (pc1 := 3) (lv' := [(0, .ref X0), (1, .ref Ld1), (2, .int p2), (3, .int p3), (4, .int 0)]) d_State_freeOf_1 rfl (by decide) [1, 2, 3, 4, 0] rfl ?_
  refine g_iconst (pc1 := 4) (v := 0) d_State_freeOf_3 rfl (by decide) ?_
  refine g_istore (pc1 := 6) (lv' := [(0, .ref X0), (1, .ref Ld1), (2, .int p2), (3, .int p3), (4, .int 0), (5, .int 0)]) d_State_freeOf_4 rfl (by decide) [1, 2, 3, 4, 5, 0] rfl ?_
  exact h_State_freeOf_6 hld hX0 hLd1 hQ  _ 0 0 M h

def F_State_slipInto (X0 : Nat) (Ld1 : Nat) (p2 : Int32) (p3 : Int32) (M : gM) : Option (Int32 × gM) :=
  nmI (8 * (M X0 2)) (fun x1 => bI (F_Land_lot 100 p3 x1) (fun r3 => bI2 (F_Land_slipsOf Ld1 p2 (M X0 0) M) (fun r5 M6 => (if r3 < r5 then bI (F_Land_lot (M6 Ld1 0) p3 (x1 + 1)) (fun r9 => bI (F_Main_at (X0 + 2) 6 r9 M6) (fun r11 => bI (F_Land_inDish Ld1 p2 r9 M6) (fun r13 => (if r11 ≤ r13 then some ((-2), M6) else some (r9, M6))))) else some ((-2), M6)))))
set_option maxHeartbeats 4000000 in
set_option maxRecDepth 20000 in
theorem f_State_slipInto {l : Launch} {ld : Nat} {M : gM} {L : gL} {Q : Option Value → gM → gL → gR → Prop} (hld : isLa ld) {X0 : Nat} {Ld1 : Nat} {p2 : Int32} {p3 : Int32} (hX0 : isSt X0) (hLd1 : isLa Ld1) {q : Int32 × gM} (h : F_State_slipInto X0 Ld1 p2 p3 M = some q) (hQ : Q (some (.int q.1)) q.2 L (rf ld)) : Tm l y_State_slipInto (0, 0, 447) 447 [.ref X0, .ref Ld1, .int p2, .int p3] M L (rf ld) Q := by
  refine Tm.of (by decide) (Nat.le_of_ble_eq_true rfl) ?_
  show Wp l y_State_slipInto (0, 0, 447) 447 0 0 0 [(0, .ref X0), (1, .ref Ld1), (2, .int p2), (3, .int p3)] [] M L (rf ld) Q
  unfold F_State_slipInto at h
  refine g_bipush (pc1 := 2) (v := 8) d_State_slipInto_0 rfl (by decide) ?_
  refine g_aload_n (pc1 := 3) d_State_slipInto_2 rfl 0 rfl ?_
  refine g_geti (pc1 := 6) d_State_slipInto_3 rfl ⟨_, fo_State_40⟩ (shSt_0 hX0) (ltSt_0 hX0) ?_
  refine g_imul (pc1 := 7) d_State_slipInto_6 rfl ?_
  refine Wp.lI h (fun x1 h => ?_)
  refine g_istore (pc1 := 9) (lv' := [(0, .ref X0), (1, .ref Ld1), (2, .int p2), (3, .int p3), (4, .int x1)]) d_State_slipInto_7 rfl (by decide) [1, 2, 3, 4, 0] rfl ?_
  refine g_bipush (pc1 := 11) (v := 100) d_State_slipInto_9 rfl (by decide) ?_
  refine g_iload_n (pc1 := 12) d_State_slipInto_11 rfl 3 rfl ?_
  refine g_iload (pc1 := 14) d_State_slipInto_12 rfl 4 rfl ?_
  refine g_callS0 (pc1 := 17) (As := [.int 100, .int p3, .int x1]) (rest := []) d_State_slipInto_14 rfl mo_State_69 ms_Land_lot (by decide) rfl rfl (Nat.le_of_ble_eq_true rfl) ?_
  obtain ⟨r3, hq2, h⟩ := bnd h
  refine f_Land_lot hld  hq2 ?_
  dsimp only [psh]
  refine g_aload_n (pc1 := 18) d_State_slipInto_17 rfl 1 rfl ?_
  refine g_iload_n (pc1 := 19) d_State_slipInto_18 rfl 2 rfl ?_
  refine g_aload_n (pc1 := 20) d_State_slipInto_19 rfl 0 rfl ?_
  refine g_geti (pc1 := 23) d_State_slipInto_20 rfl ⟨_, fo_State_34⟩ (shSt_0 hX0) (ltSt_0 hX0) ?_
  refine g_callV0 (pc1 := 26) (As := [.int p2, .int (M X0 0)]) (rest := [.int r3]) d_State_slipInto_23 rfl mo_State_73 mi_Land_slipsOf mv_Land_slipsOf rfl (shLa_0 hLd1) (ltLa_0 hLd1) (by decide) rfl rfl (Nat.le_of_ble_eq_true rfl) ?_
  obtain ⟨r5, M6, hq4, h⟩ := bnd2 h
  refine f_Land_slipsOf hld hLd1 hq4 ?_
  dsimp only [psh]
  refine g_icmp_lt (pc1 := 29) (tgt := 32) d_State_slipInto_26 (by decide) rfl (fun c7 => ?_) (fun c7 => ?_)
  · replace h := itp h c7
    refine g_aload_n (pc1 := 33) d_State_slipInto_32 rfl 1 rfl ?_
    refine g_geti (pc1 := 36) d_State_slipInto_33 rfl ⟨_, fo_State_47⟩ (shLa_0 hLd1) (ltLa_0 hLd1) ?_
    refine g_iload_n (pc1 := 37) d_State_slipInto_36 rfl 3 rfl ?_
    refine g_iload (pc1 := 39) d_State_slipInto_37 rfl 4 rfl ?_
    refine g_iconst (pc1 := 40) (v := 1) d_State_slipInto_39 rfl (by decide) ?_
    refine g_iadd (pc1 := 41) d_State_slipInto_40 rfl ?_
    refine g_callS0 (pc1 := 44) (As := [.int (M6 Ld1 0), .int p3, .int (x1 + 1)]) (rest := []) d_State_slipInto_41 rfl mo_State_69 ms_Land_lot (by decide) rfl rfl (Nat.le_of_ble_eq_true rfl) ?_
    obtain ⟨r9, hq8, h⟩ := bnd h
    refine f_Land_lot hld  hq8 ?_
    dsimp only [psh]
    refine g_istore (pc1 := 46) (lv' := [(0, .ref X0), (1, .ref Ld1), (2, .int p2), (3, .int p3), (4, .int x1), (5, .int r9)]) d_State_slipInto_44 rfl (by decide) [1, 2, 3, 4, 5, 0] rfl ?_
    refine g_aload_n (pc1 := 47) d_State_slipInto_46 rfl 0 rfl ?_
    refine g_getr (pc1 := 50) d_State_slipInto_47 rfl ⟨_, fo_State_19⟩ (shSt_0 hX0) (ltSt_0 hX0) (rfSt_5 ld hX0) ?_
    refine g_iload (pc1 := 52) d_State_slipInto_50 rfl 5 rfl ?_
    refine g_callS0 (pc1 := 55) (As := [.ref (X0 + 2), .int r9]) (rest := []) d_State_slipInto_52 rfl mo_State_53 ms_Main_at (by decide) rfl rfl (Nat.le_of_ble_eq_true rfl) ?_
    obtain ⟨r11, hq10, h⟩ := bnd h
    refine f_Main_at hld (shSt_2 hX0) (ltSt_2 hX0) (by decide) hq10 ?_
    dsimp only [psh]
    refine g_aload_n (pc1 := 56) d_State_slipInto_55 rfl 1 rfl ?_
    refine g_iload_n (pc1 := 57) d_State_slipInto_56 rfl 2 rfl ?_
    refine g_iload (pc1 := 59) d_State_slipInto_57 rfl 5 rfl ?_
    refine g_callV0 (pc1 := 62) (As := [.int p2, .int r9]) (rest := [.int r11]) d_State_slipInto_59 rfl mo_State_65 mi_Land_inDish mv_Land_inDish rfl (shLa_0 hLd1) (ltLa_0 hLd1) (by decide) rfl rfl (Nat.le_of_ble_eq_true rfl) ?_
    obtain ⟨r13, hq12, h⟩ := bnd h
    refine f_Land_inDish hld hLd1 hq12 ?_
    dsimp only [psh]
    refine g_icmp_le (pc1 := 65) (tgt := 70) d_State_slipInto_62 (by decide) rfl (fun c14 => ?_) (fun c14 => ?_)
    · replace h := itp h c14
      refine g_bipush (pc1 := 72) (v := (-2)) d_State_slipInto_70 rfl (by decide) ?_
      refine g_ireturn (Or.inl rfl) d_State_slipInto_72 rfl ?_
      cases h; exact hQ
    · replace h := itn h c14
      refine g_iload (pc1 := 67) d_State_slipInto_65 rfl 5 rfl ?_
      refine g_goto (tgt := 72) d_State_slipInto_67 (by decide) ?_
      refine g_ireturn (Or.inl rfl) d_State_slipInto_72 rfl ?_
      cases h; exact hQ
  · replace h := itn h c7
    refine g_bipush (pc1 := 31) (v := (-2)) d_State_slipInto_29 rfl (by decide) ?_
    refine g_ireturn (Or.inl rfl) d_State_slipInto_31 rfl ?_
    cases h; exact hQ

def B_Told_isAsKnown_3 (Ld1 : Nat) (v2 : Int32) (v3 : Int32) (K3 : Int32 → gM → Option (Int32 × gM)) : Int32 → gM → Option (Int32 × gM) := fun v4 M =>
  (if v3 ≤ v4 then some (1, M) else bI (F_Main_at 384 20 v4 M) (fun r3 => bI (F_Main_at 385 20 v4 M) (fun r5 => bI2 (F_Told_forceOf Ld1 v2 (M 383 7) r3 r5 M) (fun r7 M8 => bI (F_Main_at 386 20 v4 M8) (fun r10 => (if r7 = r10 then nmI (v4 + 1) (fun x12 => K3 x12 M8) else some (0, M8)))))))
def H_Told_isAsKnown_3 (Ld1 : Nat) (v2 : Int32) (v3 : Int32) : Nat → Int32 → gM → Option (Int32 × gM) := lpK (B_Told_isAsKnown_3 Ld1 v2 v3) (fun _ _ => none)
set_option maxHeartbeats 4000000 in
set_option maxRecDepth 20000 in
theorem h_Told_isAsKnown_3 {l : Launch} {ld : Nat} {Q : Option Value → gM → gL → gR → Prop} (hld : isLa ld) {Ld1 : Nat} (hLd1 : isLa Ld1) {q : Int32 × gM} {L : gL} (hQ : Q (some (.int q.1)) q.2 L (rf ld))  {v2 : Int32} {v3 : Int32}  : ∀ (f : Nat) (v4 : Int32) (M : gM), H_Told_isAsKnown_3 Ld1 v2 v3 f v4 M = some q → Wp l y_Told_isAsKnown (0, 0, 447) 447 0 0 3 [(0, .ref 383), (1, .ref Ld1), (2, .int v2), (3, .int v3), (4, .int v4)] [] M L (rf ld) Q := by
  intro f
  induction f with
  | zero => intro v4 M h; cases h
  | succ f hK3 =>
    intro v4 M h
    replace h : B_Told_isAsKnown_3 Ld1 v2 v3 (H_Told_isAsKnown_3 Ld1 v2 v3 f) v4 M = some q := h
    unfold B_Told_isAsKnown_3 at h
    refine g_iload (pc1 := 5) d_Told_isAsKnown_3 rfl 4 rfl ?_
    refine g_iload_n (pc1 := 6) d_Told_isAsKnown_5 rfl 3 rfl ?_
    refine g_icmp_ge (pc1 := 9) (tgt := 57) d_Told_isAsKnown_6 (by decide) rfl (fun c1 => ?_) (fun c1 => ?_)
    · replace h := itp h c1
      refine g_iconst (pc1 := 58) (v := 1) d_Told_isAsKnown_57 rfl (by decide) ?_
      refine g_ireturn (Or.inr ⟨rfl, rfl⟩) d_Told_isAsKnown_58 rfl ?_
      cases h; exact hQ
    · replace h := itn h c1
      refine g_aload_n (pc1 := 10) d_Told_isAsKnown_9 rfl 0 rfl ?_
      refine g_aload_n (pc1 := 11) d_Told_isAsKnown_10 rfl 1 rfl ?_
      refine g_iload_n (pc1 := 12) d_Told_isAsKnown_11 rfl 2 rfl ?_
      refine g_aload_n (pc1 := 13) d_Told_isAsKnown_12 rfl 0 rfl ?_
      refine g_geti (pc1 := 16) d_Told_isAsKnown_13 rfl ⟨_, fo_Told_41⟩ sh_383 (by decide) ?_
      refine g_aload_n (pc1 := 17) d_Told_isAsKnown_16 rfl 0 rfl ?_
      refine g_getr (pc1 := 20) d_Told_isAsKnown_17 rfl ⟨_, fo_Told_11⟩ sh_383 (by decide) (rf_383_0 ld) ?_
      refine g_iload (pc1 := 22) d_Told_isAsKnown_20 rfl 4 rfl ?_
      refine g_callS0 (pc1 := 25) (As := [.ref 384, .int v4]) (rest := [.int (M 383 7), .int v2, .ref Ld1, .ref 383]) d_Told_isAsKnown_22 rfl mo_Told_73 ms_Main_at (by decide) rfl rfl (Nat.le_of_ble_eq_true rfl) ?_
      obtain ⟨r3, hq2, h⟩ := bnd h
      refine f_Main_at hld sh_384 (by decide) (by decide) hq2 ?_
      dsimp only [psh]
      refine g_aload_n (pc1 := 26) d_Told_isAsKnown_25 rfl 0 rfl ?_
      refine g_getr (pc1 := 29) d_Told_isAsKnown_26 rfl ⟨_, fo_Told_15⟩ sh_383 (by decide) (rf_383_1 ld) ?_
      refine g_iload (pc1 := 31) d_Told_isAsKnown_29 rfl 4 rfl ?_
      refine g_callS0 (pc1 := 34) (As := [.ref 385, .int v4]) (rest := [.int r3, .int (M 383 7), .int v2, .ref Ld1, .ref 383]) d_Told_isAsKnown_31 rfl mo_Told_73 ms_Main_at (by decide) rfl rfl (Nat.le_of_ble_eq_true rfl) ?_
      obtain ⟨r5, hq4, h⟩ := bnd h
      refine f_Main_at hld sh_385 (by decide) (by decide) hq4 ?_
      dsimp only [psh]
      refine g_callV0 (pc1 := 37) (As := [.ref Ld1, .int v2, .int (M 383 7), .int r3, .int r5]) (rest := []) d_Told_isAsKnown_34 rfl mo_Told_77 mi_Told_forceOf mv_Told_forceOf rfl sh_383 (by decide) (by decide) rfl rfl (Nat.le_of_ble_eq_true rfl) ?_
      obtain ⟨r7, M8, hq6, h⟩ := bnd2 h
      refine f_Told_forceOf hld hLd1 hq6 ?_
      dsimp only [psh]
      refine g_aload_n (pc1 := 38) d_Told_isAsKnown_37 rfl 0 rfl ?_
      refine g_getr (pc1 := 41) d_Told_isAsKnown_38 rfl ⟨_, fo_Told_18⟩ sh_383 (by decide) (rf_383_2 ld) ?_
      refine g_iload (pc1 := 43) d_Told_isAsKnown_41 rfl 4 rfl ?_
      refine g_callS0 (pc1 := 46) (As := [.ref 386, .int v4]) (rest := [.int r7]) d_Told_isAsKnown_43 rfl mo_Told_73 ms_Main_at (by decide) rfl rfl (Nat.le_of_ble_eq_true rfl) ?_
      obtain ⟨r10, hq9, h⟩ := bnd h
      refine f_Main_at hld sh_386 (by decide) (by decide) hq9 ?_
      dsimp only [psh]
      refine g_icmp_eq (pc1 := 49) (tgt := 51) d_Told_isAsKnown_46 (by decide) rfl (fun c11 => ?_) (fun c11 => ?_)
      · replace h := itp h c11
        obtain ⟨x12, ex12, h⟩ := ltI h
        refine g_iinc (pc1 := 54) (v := x12) (lv' := [(0, .ref 383), (1, .ref Ld1), (2, .int v2), (3, .int v3), (4, .int x12)]) d_Told_isAsKnown_51 rfl 4 rfl (by rw [ex12]; rfl) (by decide) [1, 2, 3, 4, 0] rfl ?_
        refine g_goto (tgt := 3) d_Told_isAsKnown_54 (by decide) ?_
        exact hK3 x12 M8 h
      · replace h := itn h c11
        refine g_iconst (pc1 := 50) (v := 0) d_Told_isAsKnown_49 rfl (by decide) ?_
        refine g_ireturn (Or.inr ⟨rfl, rfl⟩) d_Told_isAsKnown_50 rfl ?_
        cases h; exact hQ
def F_Told_isAsKnown (Ld1 : Nat) (p2 : Int32) (p3 : Int32) (M : gM) : Option (Int32 × gM) :=
  H_Told_isAsKnown_3 Ld1 p2 p3 FU 0 M
set_option maxHeartbeats 4000000 in
set_option maxRecDepth 20000 in
theorem f_Told_isAsKnown {l : Launch} {ld : Nat} {M : gM} {L : gL} {Q : Option Value → gM → gL → gR → Prop} (hld : isLa ld) {Ld1 : Nat} {p2 : Int32} {p3 : Int32} (hLd1 : isLa Ld1) {q : Int32 × gM} (h : F_Told_isAsKnown Ld1 p2 p3 M = some q) (hQ : Q (some (.int q.1)) q.2 L (rf ld)) : Tm l y_Told_isAsKnown (0, 0, 447) 447 [.ref 383, .ref Ld1, .int p2, .int p3] M L (rf ld) Q := by
  refine Tm.of (by decide) (Nat.le_of_ble_eq_true rfl) ?_
  show Wp l y_Told_isAsKnown (0, 0, 447) 447 0 0 0 [(0, .ref 383), (1, .ref Ld1), (2, .int p2), (3, .int p3)] [] M L (rf ld) Q
  unfold F_Told_isAsKnown at h
  refine g_iconst (pc1 := 1) (v := 0) d_Told_isAsKnown_0 rfl (by decide) ?_
  refine g_istore (pc1 := 3) (lv' := [(0, .ref 383), (1, .ref Ld1), (2, .int p2), (3, .int p3), (4, .int 0)]) d_Told_isAsKnown_1 rfl (by decide) [1, 2, 3, 4, 0] rfl ?_
  exact h_Told_isAsKnown_3 hld hLd1 hQ  _ 0 M h

def B_Told_mostAlike_13 (Ld1 : Nat) (v2 : Int32) (v3 : Int32) (v4 : Int32) (K13 : Int32 → Int32 → gM → Option (Int32 × gM)) : Int32 → Int32 → gM → Option (Int32 × gM) := fun v5 v6 M =>
  (if (M 383 7) ≤ v6 then some (v5, M) else bI2 (F_Told_forceOf Ld1 v2 v6 v3 v4 M) (fun r5 M6 => bI (F_Main_at 390 100 r5 M6) (fun r8 => nmI (r8 + 1) (fun x9 => bI (F_Main_put 390 100 r5 x9 M6) (fun M11 => nmI (if v5 < x9 then x9 else v5) (fun x12 => nmI (v6 + 1) (fun x13 => K13 x12 x13 M11)))))))
def H_Told_mostAlike_13 (Ld1 : Nat) (v2 : Int32) (v3 : Int32) (v4 : Int32) : Nat → Int32 → Int32 → gM → Option (Int32 × gM) := lpK (B_Told_mostAlike_13 Ld1 v2 v3 v4) (fun _ _ _ => none)
set_option maxHeartbeats 4000000 in
set_option maxRecDepth 20000 in
theorem h_Told_mostAlike_13 {l : Launch} {ld : Nat} {Q : Option Value → gM → gL → gR → Prop} (hld : isLa ld) {Ld1 : Nat} (hLd1 : isLa Ld1) {q : Int32 × gM} {L : gL} (hQ : Q (some (.int q.1)) q.2 L (rf ld))  {v2 : Int32} {v3 : Int32} {v4 : Int32}  : ∀ (f : Nat) (v5 : Int32) (v6 : Int32) (M : gM), H_Told_mostAlike_13 Ld1 v2 v3 v4 f v5 v6 M = some q → Wp l y_Told_mostAlike (0, 0, 447) 447 0 0 13 [(0, .ref 383), (1, .ref Ld1), (2, .int v2), (3, .int v3), (4, .int v4), (5, .int v5), (6, .int v6)] [] M L (rf ld) Q := by
  intro f
  induction f with
  | zero => intro v5 v6 M h; cases h
  | succ f hK13 =>
    intro v5 v6 M h
    replace h : B_Told_mostAlike_13 Ld1 v2 v3 v4 (H_Told_mostAlike_13 Ld1 v2 v3 v4 f) v5 v6 M = some q := h
    unfold B_Told_mostAlike_13 at h
    refine g_iload (pc1 := 15) d_Told_mostAlike_13 rfl 6 rfl ?_
    refine g_aload_n (pc1 := 16) d_Told_mostAlike_15 rfl 0 rfl ?_
    refine g_geti (pc1 := 19) d_Told_mostAlike_16 rfl ⟨_, fo_Told_41⟩ sh_383 (by decide) ?_
    refine g_icmp_ge (pc1 := 22) (tgt := 74) d_Told_mostAlike_19 (by decide) rfl (fun c3 => ?_) (fun c3 => ?_)
    · replace h := itp h c3
      refine g_iload (pc1 := 76) d_Told_mostAlike_74 rfl 5 rfl ?_
      refine g_ireturn (Or.inl rfl) d_Told_mostAlike_76 rfl ?_
      cases h; exact hQ
    · replace h := itn h c3
      refine g_aload_n (pc1 := 23) d_Told_mostAlike_22 rfl 0 rfl ?_
      refine g_aload_n (pc1 := 24) d_Told_mostAlike_23 rfl 1 rfl ?_
      refine g_iload_n (pc1 := 25) d_Told_mostAlike_24 rfl 2 rfl ?_
      refine g_iload (pc1 := 27) d_Told_mostAlike_25 rfl 6 rfl ?_
      refine g_iload_n (pc1 := 28) d_Told_mostAlike_27 rfl 3 rfl ?_
      refine g_iload (pc1 := 30) d_Told_mostAlike_28 rfl 4 rfl ?_
      refine g_callV0 (pc1 := 33) (As := [.ref Ld1, .int v2, .int v6, .int v3, .int v4]) (rest := []) d_Told_mostAlike_30 rfl mo_Told_77 mi_Told_forceOf mv_Told_forceOf rfl sh_383 (by decide) (by decide) rfl rfl (Nat.le_of_ble_eq_true rfl) ?_
      obtain ⟨r5, M6, hq4, h⟩ := bnd2 h
      refine f_Told_forceOf hld hLd1 hq4 ?_
      dsimp only [psh]
      refine g_istore (pc1 := 35) (lv' := [(0, .ref 383), (1, .ref Ld1), (2, .int v2), (3, .int v3), (4, .int v4), (5, .int v5), (6, .int v6), (7, .int r5)]) d_Told_mostAlike_33 rfl (by decide) [1, 2, 3, 4, 5, 6, 7, 0] rfl ?_
      refine g_aload_n (pc1 := 36) d_Told_mostAlike_35 rfl 0 rfl ?_
      refine g_getr (pc1 := 39) d_Told_mostAlike_36 rfl ⟨_, fo_Told_30⟩ sh_383 (by decide) (rf_383_8 ld) ?_
      refine g_iload (pc1 := 41) d_Told_mostAlike_39 rfl 7 rfl ?_
      refine g_callS0 (pc1 := 44) (As := [.ref 390, .int r5]) (rest := []) d_Told_mostAlike_41 rfl mo_Told_73 ms_Main_at (by decide) rfl rfl (Nat.le_of_ble_eq_true rfl) ?_
      obtain ⟨r8, hq7, h⟩ := bnd h
      refine f_Main_at hld sh_390 (by decide) (by decide) hq7 ?_
      dsimp only [psh]
      refine g_iconst (pc1 := 45) (v := 1) d_Told_mostAlike_44 rfl (by decide) ?_
      refine g_iadd (pc1 := 46) d_Told_mostAlike_45 rfl ?_
      refine Wp.lI h (fun x9 h => ?_)
      refine g_istore (pc1 := 48) (lv' := [(0, .ref 383), (1, .ref Ld1), (2, .int v2), (3, .int v3), (4, .int v4), (5, .int v5), (6, .int v6), (7, .int r5), (8, .int x9)]) d_Told_mostAlike_46 rfl (by decide) [1, 2, 3, 4, 5, 6, 7, 8, 0] rfl ?_
      refine g_aload_n (pc1 := 49) d_Told_mostAlike_48 rfl 0 rfl ?_
      refine g_getr (pc1 := 52) d_Told_mostAlike_49 rfl ⟨_, fo_Told_30⟩ sh_383 (by decide) (rf_383_8 ld) ?_
      refine g_iload (pc1 := 54) d_Told_mostAlike_52 rfl 7 rfl ?_
      refine g_iload (pc1 := 56) d_Told_mostAlike_54 rfl 8 rfl ?_
      refine g_callS0 (pc1 := 59) (As := [.ref 390, .int r5, .int x9]) (rest := []) d_Told_mostAlike_56 rfl mo_Told_37 ms_Main_put (by decide) rfl rfl (Nat.le_of_ble_eq_true rfl) ?_
      obtain ⟨M11, hq10, h⟩ := bnd h
      refine f_Main_put hld sh_390 (by decide) (by decide) hq10 ?_
      dsimp only [psh]
      refine g_iload (pc1 := 61) d_Told_mostAlike_59 rfl 5 rfl ?_
      refine g_iload (pc1 := 63) d_Told_mostAlike_61 rfl 8 rfl ?_
      refine g_mmax (pc1 := 66) d_Told_mostAlike_63 rfl mm_Told_93 (by decide) ⟨Nat.le_refl 0, Nat.le_refl 0⟩ (Nat.le_of_ble_eq_true rfl) ?_
      refine Wp.lI h (fun x12 h => ?_)
      refine g_istore (pc1 := 68) (lv' := [(0, .ref 383), (1, .ref Ld1), (2, .int v2), (3, .int v3), (4, .int v4), (5, .int x12), (6, .int v6), (7, .int r5), (8, .int x9)]) d_Told_mostAlike_66 rfl (by decide) [1, 2, 3, 4, 5, 0, 6, 7, 8] rfl ?_
      obtain ⟨x13, ex13, h⟩ := ltI h
      refine g_iinc (pc1 := 71) (v := x13) (lv' := [(0, .ref 383), (1, .ref Ld1), (2, .int v2), (3, .int v3), (4, .int v4), (5, .int x12), (6, .int x13), (7, .int r5), (8, .int x9)]) d_Told_mostAlike_68 rfl 6 rfl (by rw [ex13]; rfl) (by decide) [1, 2, 3, 4, 5, 6, 0, 7, 8] rfl ?_
      refine g_goto (tgt := 13) d_Told_mostAlike_71 (by decide) ?_
      refine Wp.loc (lv' := [(0, .ref 383), (1, .ref Ld1), (2, .int v2), (3, .int v3), (4, .int v4), (5, .int x12), (6, .int x13)]) [0, 1, 2, 3, 4, 5, 6] rfl ?_
      exact hK13 x12 x13 M11 h
def F_Told_mostAlike (Ld1 : Nat) (p2 : Int32) (p3 : Int32) (p4 : Int32) (M : gM) : Option (Int32 × gM) :=
  bI (F_Main_wipe 390 100 M) (fun M2 => H_Told_mostAlike_13 Ld1 p2 p3 p4 FU 0 0 M2)
set_option maxHeartbeats 4000000 in
set_option maxRecDepth 20000 in
theorem f_Told_mostAlike {l : Launch} {ld : Nat} {M : gM} {L : gL} {Q : Option Value → gM → gL → gR → Prop} (hld : isLa ld) {Ld1 : Nat} {p2 : Int32} {p3 : Int32} {p4 : Int32} (hLd1 : isLa Ld1) {q : Int32 × gM} (h : F_Told_mostAlike Ld1 p2 p3 p4 M = some q) (hQ : Q (some (.int q.1)) q.2 L (rf ld)) : Tm l y_Told_mostAlike (0, 0, 447) 447 [.ref 383, .ref Ld1, .int p2, .int p3, .int p4] M L (rf ld) Q := by
  refine Tm.of (by decide) (Nat.le_of_ble_eq_true rfl) ?_
  show Wp l y_Told_mostAlike (0, 0, 447) 447 0 0 0 [(0, .ref 383), (1, .ref Ld1), (2, .int p2), (3, .int p3), (4, .int p4)] [] M L (rf ld) Q
  unfold F_Told_mostAlike at h
  refine g_aload_n (pc1 := 1) d_Told_mostAlike_0 rfl 0 rfl ?_
  refine g_getr (pc1 := 4) d_Told_mostAlike_1 rfl ⟨_, fo_Told_30⟩ sh_383 (by decide) (rf_383_8 ld) ?_
  refine g_callS0 (pc1 := 7) (As := [.ref 390]) (rest := []) d_Told_mostAlike_4 rfl mo_Told_89 ms_Main_wipe (by decide) rfl rfl (Nat.le_of_ble_eq_true rfl) ?_
  obtain ⟨M2, hq1, h⟩ := bnd h
  refine f_Main_wipe hld sh_390 (by decide) (by decide) hq1 ?_
  dsimp only [psh]
  refine g_iconst (pc1 := 8) (v := 0) d_Told_mostAlike_7 rfl (by decide) ?_
  refine g_istore (pc1 := 10) (lv' := [(0, .ref 383), (1, .ref Ld1), (2, .int p2), (3, .int p3), (4, .int p4), (5, .int 0)]) d_Told_mostAlike_8 rfl (by decide) [1, 2, 3, 4, 5, 0] rfl ?_
  refine g_iconst (pc1 := 11) (v := 0) d_Told_mostAlike_10 rfl (by decide) ?_
  refine g_istore (pc1 := 13) (lv' := [(0, .ref 383), (1, .ref Ld1), (2, .int p2), (3, .int p3), (4, .int p4), (5, .int 0), (6, .int 0)]) d_Told_mostAlike_11 rfl (by decide) [1, 2, 3, 4, 5, 6, 0] rfl ?_
  exact h_Told_mostAlike_13 hld hLd1 hQ  _ 0 0 M2 h

def F_Main_eat (ld : Nat) (p1 : Int32) (M : gM) : Option (Int32 × gM) :=
  bI (F_Main_isOne p1 (M ld 2)) (fun r2 => (if r2 = 0 then some ((-1), M) else (if 0 ≤ (M 64 3) then bI (F_Past_keep 64 M) (fun M6 => bI (F_State_eatServed 64 p1 M6) (fun M8 => bI2 (F_State_freeOf 64 ld p1 0 M8) (fun r10 M11 => some (r10, M11)))) else some ((-2), M))))
set_option maxHeartbeats 4000000 in
set_option maxRecDepth 20000 in
theorem f_Main_eat {l : Launch} {ld : Nat} {M : gM} {L : gL} {Q : Option Value → gM → gL → gR → Prop} (hld : isLa ld) {p1 : Int32}  {q : Int32 × gM} (h : F_Main_eat ld p1 M = some q) (hQ : Q (some (.int q.1)) q.2 L (rf ld)) : Tm l y_Main_eat (0, 0, 447) 447 [.ref 0, .int p1] M L (rf ld) Q := by
  refine Tm.of (by decide) (Nat.le_of_ble_eq_true rfl) ?_
  show Wp l y_Main_eat (0, 0, 447) 447 0 0 0 [(0, .ref 0), (1, .int p1)] [] M L (rf ld) Q
  unfold F_Main_eat at h
  refine g_iload_n (pc1 := 1) d_Main_eat_0 rfl 1 rfl ?_
  refine g_aload_n (pc1 := 2) d_Main_eat_1 rfl 0 rfl ?_
  refine g_getr (pc1 := 5) d_Main_eat_2 rfl ⟨_, fo_Main_26⟩ sh_0 (by decide) (rf_0_2 ld) ?_
  refine g_geti (pc1 := 8) d_Main_eat_5 rfl ⟨_, fo_Main_157⟩ (shLa_0 hld) (ltLa_0 hld) ?_
  refine g_callS0 (pc1 := 11) (As := [.int p1, .int (M ld 2)]) (rest := []) d_Main_eat_8 rfl mo_Main_112 ms_Main_isOne (by decide) rfl rfl (Nat.le_of_ble_eq_true rfl) ?_
  obtain ⟨r2, hq1, h⟩ := bnd h
  refine f_Main_isOne hld  hq1 ?_
  dsimp only [psh]
  refine g_if_ne (pc1 := 14) (tgt := 16) d_Main_eat_11 (by decide) rfl (fun c3 => ?_) (fun c3 => ?_)
  · replace h := itn h c3
    refine g_aload_n (pc1 := 17) d_Main_eat_16 rfl 0 rfl ?_
    refine g_getr (pc1 := 20) d_Main_eat_17 rfl ⟨_, fo_Main_36⟩ sh_0 (by decide) (rf_0_4 ld) ?_
    refine g_geti (pc1 := 23) d_Main_eat_20 rfl ⟨_, fo_Main_208⟩ (shSt_0 isSt_64) (ltSt_0 isSt_64) ?_
    refine g_if_ge (pc1 := 26) (tgt := 29) d_Main_eat_23 (by decide) rfl (fun c4 => ?_) (fun c4 => ?_)
    · replace h := itp h c4
      refine g_aload_n (pc1 := 30) d_Main_eat_29 rfl 0 rfl ?_
      refine g_getr (pc1 := 33) d_Main_eat_30 rfl ⟨_, fo_Main_46⟩ sh_0 (by decide) (rf_0_6 ld) ?_
      refine g_aload_n (pc1 := 34) d_Main_eat_33 rfl 0 rfl ?_
      refine g_getr (pc1 := 37) d_Main_eat_34 rfl ⟨_, fo_Main_36⟩ sh_0 (by decide) (rf_0_4 ld) ?_
      refine g_callV0 (pc1 := 40) (As := [.ref 64]) (rest := []) d_Main_eat_37 rfl mo_Main_200 mi_Past_keep mv_Past_keep rfl sh_78 (by decide) (by decide) rfl rfl (Nat.le_of_ble_eq_true rfl) ?_
      obtain ⟨M6, hq5, h⟩ := bnd h
      refine f_Past_keep hld isSt_64 hq5 ?_
      dsimp only [psh]
      refine g_aload_n (pc1 := 41) d_Main_eat_40 rfl 0 rfl ?_
      refine g_getr (pc1 := 44) d_Main_eat_41 rfl ⟨_, fo_Main_36⟩ sh_0 (by decide) (rf_0_4 ld) ?_
      refine g_iload_n (pc1 := 45) d_Main_eat_44 rfl 1 rfl ?_
      refine g_callV0 (pc1 := 48) (As := [.int p1]) (rest := []) d_Main_eat_45 rfl mo_Main_211 mi_State_eatServed mv_State_eatServed rfl (shSt_0 isSt_64) (ltSt_0 isSt_64) (by decide) rfl rfl (Nat.le_of_ble_eq_true rfl) ?_
      obtain ⟨M8, hq7, h⟩ := bnd h
      refine f_State_eatServed hld isSt_64 hq7 ?_
      dsimp only [psh]
      refine g_aload_n (pc1 := 49) d_Main_eat_48 rfl 0 rfl ?_
      refine g_getr (pc1 := 52) d_Main_eat_49 rfl ⟨_, fo_Main_36⟩ sh_0 (by decide) (rf_0_4 ld) ?_
      refine g_aload_n (pc1 := 53) d_Main_eat_52 rfl 0 rfl ?_
      refine g_getr (pc1 := 56) d_Main_eat_53 rfl ⟨_, fo_Main_26⟩ sh_0 (by decide) (rf_0_2 ld) ?_
      refine g_iload_n (pc1 := 57) d_Main_eat_56 rfl 1 rfl ?_
      refine g_iconst (pc1 := 58) (v := 0) d_Main_eat_57 rfl (by decide) ?_
      refine g_callV0 (pc1 := 61) (As := [.ref ld, .int p1, .int 0]) (rest := []) d_Main_eat_58 rfl mo_Main_189 mi_State_freeOf mv_State_freeOf rfl (shSt_0 isSt_64) (ltSt_0 isSt_64) (by decide) rfl rfl (Nat.le_of_ble_eq_true rfl) ?_
      obtain ⟨r10, M11, hq9, h⟩ := bnd2 h
      refine f_State_freeOf hld isSt_64 hld hq9 ?_
      dsimp only [psh]
      refine g_ireturn (Or.inl rfl) d_Main_eat_61 rfl ?_
      cases h; exact hQ
    · replace h := itn h c4
      refine g_bipush (pc1 := 28) (v := (-2)) d_Main_eat_26 rfl (by decide) ?_
      refine g_ireturn (Or.inl rfl) d_Main_eat_28 rfl ?_
      cases h; exact hQ
  · replace h := itp h c3
    refine g_iconst (pc1 := 15) (v := (-1)) d_Main_eat_14 rfl (by decide) ?_
    refine g_ireturn (Or.inl rfl) d_Main_eat_15 rfl ?_
    cases h; exact hQ

def F_Main_freeBehind (ld : Nat) (p1 : Int32) (p2 : Int32) (M : gM) : Option (Int32 × gM) :=
  bI2 (F_Land_freeByDish ld p1 p2 (M 64 0) 0 M) (fun r2 M3 => some (r2, M3))
set_option maxHeartbeats 4000000 in
set_option maxRecDepth 20000 in
theorem f_Main_freeBehind {l : Launch} {ld : Nat} {M : gM} {L : gL} {Q : Option Value → gM → gL → gR → Prop} (hld : isLa ld) {p1 : Int32} {p2 : Int32}  {q : Int32 × gM} (h : F_Main_freeBehind ld p1 p2 M = some q) (hQ : Q (some (.int q.1)) q.2 L (rf ld)) : Tm l y_Main_freeBehind (0, 0, 447) 447 [.ref 0, .int p1, .int p2] M L (rf ld) Q := by
  refine Tm.of (by decide) (Nat.le_of_ble_eq_true rfl) ?_
  show Wp l y_Main_freeBehind (0, 0, 447) 447 0 0 0 [(0, .ref 0), (1, .int p1), (2, .int p2)] [] M L (rf ld) Q
  unfold F_Main_freeBehind at h
  refine g_aload_n (pc1 := 1) d_Main_freeBehind_0 rfl 0 rfl ?_
  refine g_getr (pc1 := 4) d_Main_freeBehind_1 rfl ⟨_, fo_Main_26⟩ sh_0 (by decide) (rf_0_2 ld) ?_
  refine g_iload_n (pc1 := 5) d_Main_freeBehind_4 rfl 1 rfl ?_
  refine g_iload_n (pc1 := 6) d_Main_freeBehind_5 rfl 2 rfl ?_
  refine g_aload_n (pc1 := 7) d_Main_freeBehind_6 rfl 0 rfl ?_
  refine g_getr (pc1 := 10) d_Main_freeBehind_7 rfl ⟨_, fo_Main_36⟩ sh_0 (by decide) (rf_0_4 ld) ?_
  refine g_geti (pc1 := 13) d_Main_freeBehind_10 rfl ⟨_, fo_Main_144⟩ (shSt_0 isSt_64) (ltSt_0 isSt_64) ?_
  refine g_iconst (pc1 := 14) (v := 0) d_Main_freeBehind_13 rfl (by decide) ?_
  refine g_callV0 (pc1 := 17) (As := [.int p1, .int p2, .int (M 64 0), .int 0]) (rest := []) d_Main_freeBehind_14 rfl mo_Main_254 mi_Land_freeByDish mv_Land_freeByDish rfl (shLa_0 hld) (ltLa_0 hld) (by decide) rfl rfl (Nat.le_of_ble_eq_true rfl) ?_
  obtain ⟨r2, M3, hq1, h⟩ := bnd2 h
  refine f_Land_freeByDish hld hld hq1 ?_
  dsimp only [psh]
  refine g_ireturn (Or.inl rfl) d_Main_freeBehind_17 rfl ?_
  cases h; exact hQ

def J_Main_guestsFreeTo_41 (ld : Nat) (K4 : Int32 → Int32 → gM → Option (Int32 × gM)) (v1 : Int32) (v2 : Int32) (v3 : Int32) (M : gM) : Option (Int32 × gM) :=
  nmI (v3 + 1) (fun x8 => K4 v2 x8 M)
set_option maxHeartbeats 4000000 in
set_option maxRecDepth 20000 in
theorem j_Main_guestsFreeTo_41 {l : Launch} {ld : Nat} {Q : Option Value → gM → gL → gR → Prop} (hld : isLa ld)   {q : Int32 × gM} {M : gM} {L : gL} (hQ : Q (some (.int q.1)) q.2 L (rf ld)) {K4 : Int32 → Int32 → gM → Option (Int32 × gM)} {v1 : Int32} {v2 : Int32} {v3 : Int32} (hK4 : ∀ (w2 : Int32) (w3 : Int32) (M : gM), K4 w2 w3 M = some q → Wp l y_Main_guestsFreeTo (0, 0, 447) 447 0 0 4 [(0, .ref 0), (1, .int v1), (2, .int w2), (3, .int w3)] [] M L (rf ld) Q) (h : J_Main_guestsFreeTo_41 ld K4 v1 v2 v3 M = some q) : Wp l y_Main_guestsFreeTo (0, 0, 447) 447 0 0 41 [(0, .ref 0), (1, .int v1), (2, .int v2), (3, .int v3)] [] M L (rf ld) Q := by
  unfold J_Main_guestsFreeTo_41 at h
  obtain ⟨x8, ex8, h⟩ := ltI h
  refine g_iinc (pc1 := 44) (v := x8) (lv' := [(0, .ref 0), (1, .int v1), (2, .int v2), (3, .int x8)]) d_Main_guestsFreeTo_41 rfl 3 rfl (by rw [ex8]; rfl) (by decide) [1, 2, 3, 0] rfl ?_
  refine g_goto (tgt := 4) d_Main_guestsFreeTo_44 (by decide) ?_
  exact hK4 v2 x8 M h
def B_Main_guestsFreeTo_4 (ld : Nat) (v1 : Int32) (K4 : Int32 → Int32 → gM → Option (Int32 × gM)) : Int32 → Int32 → gM → Option (Int32 × gM) := fun v2 v3 M =>
  (if (M ld 2) ≤ v3 then some (v2, M) else bI2 (F_State_freeOf 64 ld v3 0 M) (fun r3 M4 => bI (F_Main_hasBit r3 v1) (fun r6 => (if r6 = 0 then J_Main_guestsFreeTo_41 ld K4 v1 v2 v3 M4 else nmI (v2 ||| (1 <<< (v3 &&& 31))) (fun x9 => J_Main_guestsFreeTo_41 ld K4 v1 x9 v3 M4)))))
def H_Main_guestsFreeTo_4 (ld : Nat) (v1 : Int32) : Nat → Int32 → Int32 → gM → Option (Int32 × gM) := lpK (B_Main_guestsFreeTo_4 ld v1) (fun _ _ _ => none)
set_option maxHeartbeats 4000000 in
set_option maxRecDepth 20000 in
theorem h_Main_guestsFreeTo_4 {l : Launch} {ld : Nat} {Q : Option Value → gM → gL → gR → Prop} (hld : isLa ld)   {q : Int32 × gM} {L : gL} (hQ : Q (some (.int q.1)) q.2 L (rf ld))  {v1 : Int32}  : ∀ (f : Nat) (v2 : Int32) (v3 : Int32) (M : gM), H_Main_guestsFreeTo_4 ld v1 f v2 v3 M = some q → Wp l y_Main_guestsFreeTo (0, 0, 447) 447 0 0 4 [(0, .ref 0), (1, .int v1), (2, .int v2), (3, .int v3)] [] M L (rf ld) Q := by
  intro f
  induction f with
  | zero => intro v2 v3 M h; cases h
  | succ f hK4 =>
    intro v2 v3 M h
    replace h : B_Main_guestsFreeTo_4 ld v1 (H_Main_guestsFreeTo_4 ld v1 f) v2 v3 M = some q := h
    unfold B_Main_guestsFreeTo_4 at h
    refine g_iload_n (pc1 := 5) d_Main_guestsFreeTo_4 rfl 3 rfl ?_
    refine g_aload_n (pc1 := 6) d_Main_guestsFreeTo_5 rfl 0 rfl ?_
    refine g_getr (pc1 := 9) d_Main_guestsFreeTo_6 rfl ⟨_, fo_Main_26⟩ sh_0 (by decide) (rf_0_2 ld) ?_
    refine g_geti (pc1 := 12) d_Main_guestsFreeTo_9 rfl ⟨_, fo_Main_157⟩ (shLa_0 hld) (ltLa_0 hld) ?_
    refine g_icmp_ge (pc1 := 15) (tgt := 47) d_Main_guestsFreeTo_12 (by decide) rfl (fun c1 => ?_) (fun c1 => ?_)
    · replace h := itp h c1
      refine g_iload_n (pc1 := 48) d_Main_guestsFreeTo_47 rfl 2 rfl ?_
      refine g_ireturn (Or.inl rfl) d_Main_guestsFreeTo_48 rfl ?_
      cases h; exact hQ
    · replace h := itn h c1
      refine g_aload_n (pc1 := 16) d_Main_guestsFreeTo_15 rfl 0 rfl ?_
      refine g_getr (pc1 := 19) d_Main_guestsFreeTo_16 rfl ⟨_, fo_Main_36⟩ sh_0 (by decide) (rf_0_4 ld) ?_
      refine g_aload_n (pc1 := 20) d_Main_guestsFreeTo_19 rfl 0 rfl ?_
      refine g_getr (pc1 := 23) d_Main_guestsFreeTo_20 rfl ⟨_, fo_Main_26⟩ sh_0 (by decide) (rf_0_2 ld) ?_
      refine g_iload_n (pc1 := 24) d_Main_guestsFreeTo_23 rfl 3 rfl ?_
      refine g_iconst (pc1 := 25) (v := 0) d_Main_guestsFreeTo_24 rfl (by decide) ?_
      refine g_callV0 (pc1 := 28) (As := [.ref ld, .int v3, .int 0]) (rest := []) d_Main_guestsFreeTo_25 rfl mo_Main_189 mi_State_freeOf mv_State_freeOf rfl (shSt_0 isSt_64) (ltSt_0 isSt_64) (by decide) rfl rfl (Nat.le_of_ble_eq_true rfl) ?_
      obtain ⟨r3, M4, hq2, h⟩ := bnd2 h
      refine f_State_freeOf hld isSt_64 hld hq2 ?_
      dsimp only [psh]
      refine g_iload_n (pc1 := 29) d_Main_guestsFreeTo_28 rfl 1 rfl ?_
      refine g_callS0 (pc1 := 32) (As := [.int r3, .int v1]) (rest := []) d_Main_guestsFreeTo_29 rfl mo_Main_193 ms_Main_hasBit (by decide) rfl rfl (Nat.le_of_ble_eq_true rfl) ?_
      obtain ⟨r6, hq5, h⟩ := bnd h
      refine f_Main_hasBit hld  hq5 ?_
      dsimp only [psh]
      refine g_if_eq (pc1 := 35) (tgt := 41) d_Main_guestsFreeTo_32 (by decide) rfl (fun c7 => ?_) (fun c7 => ?_)
      · replace h := itp h c7
        exact j_Main_guestsFreeTo_41 hld  hQ hK4 h
      · replace h := itn h c7
        refine g_iload_n (pc1 := 36) d_Main_guestsFreeTo_35 rfl 2 rfl ?_
        refine g_iconst (pc1 := 37) (v := 1) d_Main_guestsFreeTo_36 rfl (by decide) ?_
        refine g_iload_n (pc1 := 38) d_Main_guestsFreeTo_37 rfl 3 rfl ?_
        refine g_ishl (pc1 := 39) d_Main_guestsFreeTo_38 rfl ?_
        refine g_ior (pc1 := 40) d_Main_guestsFreeTo_39 rfl ?_
        refine Wp.lI h (fun x9 h => ?_)
        refine g_istore_n (pc1 := 41) (lv' := [(0, .ref 0), (1, .int v1), (2, .int x9), (3, .int v3)]) d_Main_guestsFreeTo_40 rfl rfl (by decide) [1, 2, 0, 3] rfl ?_
        exact j_Main_guestsFreeTo_41 hld  hQ hK4 h
def F_Main_guestsFreeTo (ld : Nat) (p1 : Int32) (M : gM) : Option (Int32 × gM) :=
  H_Main_guestsFreeTo_4 ld p1 FU 0 0 M
set_option maxHeartbeats 4000000 in
set_option maxRecDepth 20000 in
theorem f_Main_guestsFreeTo {l : Launch} {ld : Nat} {M : gM} {L : gL} {Q : Option Value → gM → gL → gR → Prop} (hld : isLa ld) {p1 : Int32}  {q : Int32 × gM} (h : F_Main_guestsFreeTo ld p1 M = some q) (hQ : Q (some (.int q.1)) q.2 L (rf ld)) : Tm l y_Main_guestsFreeTo (0, 0, 447) 447 [.ref 0, .int p1] M L (rf ld) Q := by
  refine Tm.of (by decide) (Nat.le_of_ble_eq_true rfl) ?_
  show Wp l y_Main_guestsFreeTo (0, 0, 447) 447 0 0 0 [(0, .ref 0), (1, .int p1)] [] M L (rf ld) Q
  unfold F_Main_guestsFreeTo at h
  refine g_iconst (pc1 := 1) (v := 0) d_Main_guestsFreeTo_0 rfl (by decide) ?_
  refine g_istore_n (pc1 := 2) (lv' := [(0, .ref 0), (1, .int p1), (2, .int 0)]) d_Main_guestsFreeTo_1 rfl rfl (by decide) [1, 2, 0] rfl ?_
  refine g_iconst (pc1 := 3) (v := 0) d_Main_guestsFreeTo_2 rfl (by decide) ?_
  refine g_istore_n (pc1 := 4) (lv' := [(0, .ref 0), (1, .int p1), (2, .int 0), (3, .int 0)]) d_Main_guestsFreeTo_3 rfl rfl (by decide) [1, 2, 3, 0] rfl ?_
  exact h_Main_guestsFreeTo_4 hld  hQ  _ 0 0 M h

def J_Main_pinch_72 (ld : Nat) (v2 : Int32) (v3 : Int32) (v4 : Int32) (M : gM) : Option (Int32 × gM) :=
  (if v2 = 0 then some (v4, M) else some (v3, M))
set_option maxHeartbeats 4000000 in
set_option maxRecDepth 20000 in
theorem j_Main_pinch_72 {l : Launch} {ld : Nat} {Q : Option Value → gM → gL → gR → Prop} (hld : isLa ld)   {q : Int32 × gM} {M : gM} {L : gL} (hQ : Q (some (.int q.1)) q.2 L (rf ld))  {v2 : Int32} {v3 : Int32} {v4 : Int32}  (h : J_Main_pinch_72 ld v2 v3 v4 M = some q) : Wp l y_Main_pinch (0, 0, 447) 447 0 0 72 [(2, .int v2), (3, .int v3), (4, .int v4)] [] M L (rf ld) Q := by
  unfold J_Main_pinch_72 at h
  refine g_iload_n (pc1 := 73) d_Main_pinch_72 rfl 0 rfl ?_
  refine g_if_ne (pc1 := 76) (tgt := 81) d_Main_pinch_73 (by decide) rfl (fun c8 => ?_) (fun c8 => ?_)
  · replace h := itn h c8
    refine g_iload_n (pc1 := 82) d_Main_pinch_81 rfl 1 rfl ?_
    refine g_ireturn (Or.inl rfl) d_Main_pinch_82 rfl ?_
    cases h; exact hQ
  · replace h := itp h c8
    refine g_iload (pc1 := 78) d_Main_pinch_76 rfl 2 rfl ?_
    refine g_goto (tgt := 82) d_Main_pinch_78 (by decide) ?_
    refine g_ireturn (Or.inl rfl) d_Main_pinch_82 rfl ?_
    cases h; exact hQ
def J_Main_pinch_66 (ld : Nat) (K32 : Int32 → Int32 → Int32 → gM → Option (Int32 × gM)) (v1 : Int32) (v2 : Int32) (v3 : Int32) (v4 : Int32) (v5 : Int32) (M : gM) : Option (Int32 × gM) :=
  nmI (v5 + 1) (fun x13 => K32 v3 v4 x13 M)
set_option maxHeartbeats 4000000 in
set_option maxRecDepth 20000 in
theorem j_Main_pinch_66 {l : Launch} {ld : Nat} {Q : Option Value → gM → gL → gR → Prop} (hld : isLa ld)   {q : Int32 × gM} {M : gM} {L : gL} (hQ : Q (some (.int q.1)) q.2 L (rf ld)) {K32 : Int32 → Int32 → Int32 → gM → Option (Int32 × gM)} {v1 : Int32} {v2 : Int32} {v3 : Int32} {v4 : Int32} {v5 : Int32} (hK32 : ∀ (w3 : Int32) (w4 : Int32) (w5 : Int32) (M : gM), K32 w3 w4 w5 M = some q → Wp l y_Main_pinch (0, 0, 447) 447 0 0 32 [(0, .ref 0), (1, .int v1), (2, .int v2), (3, .int w3), (4, .int w4), (5, .int w5)] [] M L (rf ld) Q) (h : J_Main_pinch_66 ld K32 v1 v2 v3 v4 v5 M = some q) : Wp l y_Main_pinch (0, 0, 447) 447 0 0 66 [(0, .ref 0), (1, .int v1), (2, .int v2), (3, .int v3), (4, .int v4), (5, .int v5)] [] M L (rf ld) Q := by
  unfold J_Main_pinch_66 at h
  obtain ⟨x13, ex13, h⟩ := ltI h
  refine g_iinc (pc1 := 69) (v := x13) (lv' := [(0, .ref 0), (1, .int v1), (2, .int v2), (3, .int v3), (4, .int v4), (5, .int x13)]) d_Main_pinch_66 rfl 5 rfl (by rw [ex13]; rfl) (by decide) [1, 2, 3, 4, 5, 0] rfl ?_
  refine g_goto (tgt := 32) d_Main_pinch_69 (by decide) ?_
  exact hK32 v3 v4 x13 M h
def B_Main_pinch_32 (ld : Nat) (v1 : Int32) (v2 : Int32) (K32 : Int32 → Int32 → Int32 → gM → Option (Int32 × gM)) : Int32 → Int32 → Int32 → gM → Option (Int32 × gM) := fun v3 v4 v5 M =>
  (if (M ld 0) ≤ v5 then J_Main_pinch_72 ld v2 v3 v4 M else bI2 (F_Main_changeBy ld v1 v5 M) (fun r10 M11 => (if r10 ≤ v3 then J_Main_pinch_66 ld K32 v1 v2 v3 v4 v5 M11 else J_Main_pinch_66 ld K32 v1 v2 r10 v5 v5 M11)))
def H_Main_pinch_32 (ld : Nat) (v1 : Int32) (v2 : Int32) : Nat → Int32 → Int32 → Int32 → gM → Option (Int32 × gM) := lpK (B_Main_pinch_32 ld v1 v2) (fun _ _ _ _ => none)
set_option maxHeartbeats 4000000 in
set_option maxRecDepth 20000 in
theorem h_Main_pinch_32 {l : Launch} {ld : Nat} {Q : Option Value → gM → gL → gR → Prop} (hld : isLa ld)   {q : Int32 × gM} {L : gL} (hQ : Q (some (.int q.1)) q.2 L (rf ld))  {v1 : Int32} {v2 : Int32}  : ∀ (f : Nat) (v3 : Int32) (v4 : Int32) (v5 : Int32) (M : gM), H_Main_pinch_32 ld v1 v2 f v3 v4 v5 M = some q → Wp l y_Main_pinch (0, 0, 447) 447 0 0 32 [(0, .ref 0), (1, .int v1), (2, .int v2), (3, .int v3), (4, .int v4), (5, .int v5)] [] M L (rf ld) Q := by
  intro f
  induction f with
  | zero => intro v3 v4 v5 M h; cases h
  | succ f hK32 =>
    intro v3 v4 v5 M h
    replace h : B_Main_pinch_32 ld v1 v2 (H_Main_pinch_32 ld v1 v2 f) v3 v4 v5 M = some q := h
    unfold B_Main_pinch_32 at h
    refine g_iload (pc1 := 34) d_Main_pinch_32 rfl 5 rfl ?_
    refine g_aload_n (pc1 := 35) d_Main_pinch_34 rfl 0 rfl ?_
    refine g_getr (pc1 := 38) d_Main_pinch_35 rfl ⟨_, fo_Main_26⟩ sh_0 (by decide) (rf_0_2 ld) ?_
    refine g_geti (pc1 := 41) d_Main_pinch_38 rfl ⟨_, fo_Main_109⟩ (shLa_0 hld) (ltLa_0 hld) ?_
    refine g_icmp_ge (pc1 := 44) (tgt := 72) d_Main_pinch_41 (by decide) rfl (fun c7 => ?_) (fun c7 => ?_)
    · replace h := itp h c7
      refine Wp.loc (lv' := [(2, .int v2), (3, .int v3), (4, .int v4)]) [2, 3, 4] rfl ?_
      exact j_Main_pinch_72 hld  hQ  h
    · replace h := itn h c7
      refine g_aload_n (pc1 := 45) d_Main_pinch_44 rfl 0 rfl ?_
      refine g_iload_n (pc1 := 46) d_Main_pinch_45 rfl 1 rfl ?_
      refine g_iload (pc1 := 48) d_Main_pinch_46 rfl 5 rfl ?_
      refine g_callV0 (pc1 := 51) (As := [.int v1, .int v5]) (rest := []) d_Main_pinch_48 rfl mo_Main_235 mi_Main_changeBy mv_Main_changeBy rfl sh_0 (by decide) (by decide) rfl rfl (Nat.le_of_ble_eq_true rfl) ?_
      obtain ⟨r10, M11, hq9, h⟩ := bnd2 h
      refine f_Main_changeBy hld  hq9 ?_
      dsimp only [psh]
      refine g_istore (pc1 := 53) (lv' := [(0, .ref 0), (1, .int v1), (2, .int v2), (3, .int v3), (4, .int v4), (5, .int v5), (6, .int r10)]) d_Main_pinch_51 rfl (by decide) [1, 2, 3, 4, 5, 6, 0] rfl ?_
      refine g_iload (pc1 := 55) d_Main_pinch_53 rfl 6 rfl ?_
      refine g_iload_n (pc1 := 56) d_Main_pinch_55 rfl 3 rfl ?_
      refine g_icmp_le (pc1 := 59) (tgt := 66) d_Main_pinch_56 (by decide) rfl (fun c12 => ?_) (fun c12 => ?_)
      · replace h := itp h c12
        refine Wp.loc (lv' := [(0, .ref 0), (1, .int v1), (2, .int v2), (3, .int v3), (4, .int v4), (5, .int v5)]) [0, 1, 2, 3, 4, 5] rfl ?_
        exact j_Main_pinch_66 hld  hQ hK32 h
      · replace h := itn h c12
        refine g_iload (pc1 := 61) d_Main_pinch_59 rfl 6 rfl ?_
        refine g_istore_n (pc1 := 62) (lv' := [(0, .ref 0), (1, .int v1), (2, .int v2), (3, .int r10), (4, .int v4), (5, .int v5), (6, .int r10)]) d_Main_pinch_61 rfl rfl (by decide) [1, 2, 3, 0, 4, 5, 6] rfl ?_
        refine g_iload (pc1 := 64) d_Main_pinch_62 rfl 5 rfl ?_
        refine g_istore (pc1 := 66) (lv' := [(0, .ref 0), (1, .int v1), (2, .int v2), (3, .int r10), (4, .int v5), (5, .int v5), (6, .int r10)]) d_Main_pinch_64 rfl (by decide) [1, 2, 3, 4, 0, 5, 6] rfl ?_
        refine Wp.loc (lv' := [(0, .ref 0), (1, .int v1), (2, .int v2), (3, .int r10), (4, .int v5), (5, .int v5)]) [0, 1, 2, 3, 4, 5] rfl ?_
        exact j_Main_pinch_66 hld  hQ hK32 h
def F_Main_pinch (ld : Nat) (p1 : Int32) (p2 : Int32) (M : gM) : Option (Int32 × gM) :=
  bI (F_Main_isOne p1 (M ld 1)) (fun r2 => (if r2 = 0 then some ((-1), M) else bI (F_Main_isOne p2 2) (fun r5 => (if r5 = 0 then some ((-1), M) else H_Main_pinch_32 ld p1 p2 FU (-1) (-1) 0 M))))
set_option maxHeartbeats 4000000 in
set_option maxRecDepth 20000 in
theorem f_Main_pinch {l : Launch} {ld : Nat} {M : gM} {L : gL} {Q : Option Value → gM → gL → gR → Prop} (hld : isLa ld) {p1 : Int32} {p2 : Int32}  {q : Int32 × gM} (h : F_Main_pinch ld p1 p2 M = some q) (hQ : Q (some (.int q.1)) q.2 L (rf ld)) : Tm l y_Main_pinch (0, 0, 447) 447 [.ref 0, .int p1, .int p2] M L (rf ld) Q := by
  refine Tm.of (by decide) (Nat.le_of_ble_eq_true rfl) ?_
  show Wp l y_Main_pinch (0, 0, 447) 447 0 0 0 [(0, .ref 0), (1, .int p1), (2, .int p2)] [] M L (rf ld) Q
  unfold F_Main_pinch at h
  refine g_iload_n (pc1 := 1) d_Main_pinch_0 rfl 1 rfl ?_
  refine g_aload_n (pc1 := 2) d_Main_pinch_1 rfl 0 rfl ?_
  refine g_getr (pc1 := 5) d_Main_pinch_2 rfl ⟨_, fo_Main_26⟩ sh_0 (by decide) (rf_0_2 ld) ?_
  refine g_geti (pc1 := 8) d_Main_pinch_5 rfl ⟨_, fo_Main_131⟩ (shLa_0 hld) (ltLa_0 hld) ?_
  refine g_callS0 (pc1 := 11) (As := [.int p1, .int (M ld 1)]) (rest := []) d_Main_pinch_8 rfl mo_Main_112 ms_Main_isOne (by decide) rfl rfl (Nat.le_of_ble_eq_true rfl) ?_
  obtain ⟨r2, hq1, h⟩ := bnd h
  refine f_Main_isOne hld  hq1 ?_
  dsimp only [psh]
  refine g_if_eq (pc1 := 14) (tgt := 22) d_Main_pinch_11 (by decide) rfl (fun c3 => ?_) (fun c3 => ?_)
  · replace h := itp h c3
    refine g_iconst (pc1 := 23) (v := (-1)) d_Main_pinch_22 rfl (by decide) ?_
    refine g_ireturn (Or.inl rfl) d_Main_pinch_23 rfl ?_
    cases h; exact hQ
  · replace h := itn h c3
    refine g_iload_n (pc1 := 15) d_Main_pinch_14 rfl 2 rfl ?_
    refine g_iconst (pc1 := 16) (v := 2) d_Main_pinch_15 rfl (by decide) ?_
    refine g_callS0 (pc1 := 19) (As := [.int p2, .int 2]) (rest := []) d_Main_pinch_16 rfl mo_Main_112 ms_Main_isOne (by decide) rfl rfl (Nat.le_of_ble_eq_true rfl) ?_
    obtain ⟨r5, hq4, h⟩ := bnd h
    refine f_Main_isOne hld  hq4 ?_
    dsimp only [psh]
    refine g_if_ne (pc1 := 22) (tgt := 24) d_Main_pinch_19 (by decide) rfl (fun c6 => ?_) (fun c6 => ?_)
    · replace h := itn h c6
      refine g_iconst (pc1 := 25) (v := (-1)) d_Main_pinch_24 rfl (by decide) ?_
      refine g_istore_n (pc1 := 26) (lv' := [(0, .ref 0), (1, .int p1), (2, .int p2), (3, .int (-1))]) d_Main_pinch_25 rfl rfl (by decide) [1, 2, 3, 0] rfl ?_
      refine g_iconst (pc1 := 27) (v := (-1)) d_Main_pinch_26 rfl (by decide) ?_
      refine g_istore (pc1 := 29) (lv' := [(0, .ref 0), (1, .int p1), (2, .int p2), (3, .int (-1)), (4, .int (-1))]) d_Main_pinch_27 rfl (by decide) [1, 2, 3, 4, 0] rfl ?_
      refine g_iconst (pc1 := 30) (v := 0) d_Main_pinch_29 rfl (by decide) ?_
      refine g_istore (pc1 := 32) (lv' := [(0, .ref 0), (1, .int p1), (2, .int p2), (3, .int (-1)), (4, .int (-1)), (5, .int 0)]) d_Main_pinch_30 rfl (by decide) [1, 2, 3, 4, 5, 0] rfl ?_
      exact h_Main_pinch_32 hld  hQ  _ (-1) (-1) 0 M h
    · replace h := itp h c6
      refine g_iconst (pc1 := 23) (v := (-1)) d_Main_pinch_22 rfl (by decide) ?_
      refine g_ireturn (Or.inl rfl) d_Main_pinch_23 rfl ?_
      cases h; exact hQ

def J_Main_year_126 (ld : Nat) (K70 : Int32 → Int32 → gM → Option (Int32 × gM)) (v1 : Int32) (v2 : Int32) (v3 : Int32) (v4 : Int32) (v5 : Int32) (v6 : Int32) (M : gM) : Option (Int32 × gM) :=
  nmI (v6 + 1) (fun x23 => K70 v5 x23 M)
set_option maxHeartbeats 4000000 in
set_option maxRecDepth 20000 in
theorem j_Main_year_126 {l : Launch} {ld : Nat} {Q : Option Value → gM → gL → gR → Prop} (hld : isLa ld)   {q : Int32 × gM} {M : gM} {L : gL} (hQ : Q (some (.int q.1)) q.2 L (rf ld)) {K70 : Int32 → Int32 → gM → Option (Int32 × gM)} {v1 : Int32} {v2 : Int32} {v3 : Int32} {v4 : Int32} {v5 : Int32} {v6 : Int32} (hK70 : ∀ (w5 : Int32) (w6 : Int32) (M : gM), K70 w5 w6 M = some q → Wp l y_Main_year (0, 0, 447) 447 0 0 70 [(0, .ref 0), (1, .int v1), (2, .int v2), (3, .int v3), (4, .int v4), (5, .int w5), (6, .int w6)] [] M L (rf ld) Q) (h : J_Main_year_126 ld K70 v1 v2 v3 v4 v5 v6 M = some q) : Wp l y_Main_year (0, 0, 447) 447 0 0 126 [(0, .ref 0), (1, .int v1), (2, .int v2), (3, .int v3), (4, .int v4), (5, .int v5), (6, .int v6)] [] M L (rf ld) Q := by
  unfold J_Main_year_126 at h
  obtain ⟨x23, ex23, h⟩ := ltI h
  refine g_iinc (pc1 := 129) (v := x23) (lv' := [(0, .ref 0), (1, .int v1), (2, .int v2), (3, .int v3), (4, .int v4), (5, .int v5), (6, .int x23)]) d_Main_year_126 rfl 6 rfl (by rw [ex23]; rfl) (by decide) [1, 2, 3, 4, 5, 6, 0] rfl ?_
  refine g_goto (tgt := 70) d_Main_year_129 (by decide) ?_
  exact hK70 v5 x23 M h
def B_Main_year_70 (ld : Nat) (v1 : Int32) (v2 : Int32) (v3 : Int32) (v4 : Int32) (K70 : Int32 → Int32 → gM → Option (Int32 × gM)) : Int32 → Int32 → gM → Option (Int32 × gM) := fun v5 v6 M =>
  (if v4 ≤ v6 then some (v5, M) else bI2 (F_State_slipInto 64 ld v1 ((M ld 4) + v6) M) (fun r17 M18 => bI2 (F_Land_dishForce ld v1 r17 v2 (M18 64 0) M18) (fun r20 M21 => (if r20 < v3 then J_Main_year_126 ld K70 v1 v2 v3 v4 v5 v6 M21 else nmI (v5 + 1) (fun x24 => J_Main_year_126 ld K70 v1 v2 v3 v4 x24 v6 M21)))))
def H_Main_year_70 (ld : Nat) (v1 : Int32) (v2 : Int32) (v3 : Int32) (v4 : Int32) : Nat → Int32 → Int32 → gM → Option (Int32 × gM) := lpK (B_Main_year_70 ld v1 v2 v3 v4) (fun _ _ _ => none)
set_option maxHeartbeats 4000000 in
set_option maxRecDepth 20000 in
theorem h_Main_year_70 {l : Launch} {ld : Nat} {Q : Option Value → gM → gL → gR → Prop} (hld : isLa ld)   {q : Int32 × gM} {L : gL} (hQ : Q (some (.int q.1)) q.2 L (rf ld))  {v1 : Int32} {v2 : Int32} {v3 : Int32} {v4 : Int32}  : ∀ (f : Nat) (v5 : Int32) (v6 : Int32) (M : gM), H_Main_year_70 ld v1 v2 v3 v4 f v5 v6 M = some q → Wp l y_Main_year (0, 0, 447) 447 0 0 70 [(0, .ref 0), (1, .int v1), (2, .int v2), (3, .int v3), (4, .int v4), (5, .int v5), (6, .int v6)] [] M L (rf ld) Q := by
  intro f
  induction f with
  | zero => intro v5 v6 M h; cases h
  | succ f hK70 =>
    intro v5 v6 M h
    replace h : B_Main_year_70 ld v1 v2 v3 v4 (H_Main_year_70 ld v1 v2 v3 v4 f) v5 v6 M = some q := h
    unfold B_Main_year_70 at h
    refine g_iload (pc1 := 72) d_Main_year_70 rfl 6 rfl ?_
    refine g_iload (pc1 := 74) d_Main_year_72 rfl 4 rfl ?_
    refine g_icmp_ge (pc1 := 77) (tgt := 132) d_Main_year_74 (by decide) rfl (fun c15 => ?_) (fun c15 => ?_)
    · replace h := itp h c15
      refine g_iload (pc1 := 134) d_Main_year_132 rfl 5 rfl ?_
      refine g_ireturn (Or.inl rfl) d_Main_year_134 rfl ?_
      cases h; exact hQ
    · replace h := itn h c15
      refine g_aload_n (pc1 := 78) d_Main_year_77 rfl 0 rfl ?_
      refine g_getr (pc1 := 81) d_Main_year_78 rfl ⟨_, fo_Main_36⟩ sh_0 (by decide) (rf_0_4 ld) ?_
      refine g_aload_n (pc1 := 82) d_Main_year_81 rfl 0 rfl ?_
      refine g_getr (pc1 := 85) d_Main_year_82 rfl ⟨_, fo_Main_26⟩ sh_0 (by decide) (rf_0_2 ld) ?_
      refine g_iload_n (pc1 := 86) d_Main_year_85 rfl 1 rfl ?_
      refine g_aload_n (pc1 := 87) d_Main_year_86 rfl 0 rfl ?_
      refine g_getr (pc1 := 90) d_Main_year_87 rfl ⟨_, fo_Main_26⟩ sh_0 (by decide) (rf_0_2 ld) ?_
      refine g_geti (pc1 := 93) d_Main_year_90 rfl ⟨_, fo_Main_265⟩ (shLa_0 hld) (ltLa_0 hld) ?_
      refine g_iload (pc1 := 95) d_Main_year_93 rfl 6 rfl ?_
      refine g_iadd (pc1 := 96) d_Main_year_95 rfl ?_
      refine g_callV0 (pc1 := 99) (As := [.ref ld, .int v1, .int ((M ld 4) + v6)]) (rest := []) d_Main_year_96 rfl mo_Main_268 mi_State_slipInto mv_State_slipInto rfl (shSt_0 isSt_64) (ltSt_0 isSt_64) (by decide) rfl rfl (Nat.le_of_ble_eq_true rfl) ?_
      obtain ⟨r17, M18, hq16, h⟩ := bnd2 h
      refine f_State_slipInto hld isSt_64 hld hq16 ?_
      dsimp only [psh]
      refine g_istore (pc1 := 101) (lv' := [(0, .ref 0), (1, .int v1), (2, .int v2), (3, .int v3), (4, .int v4), (5, .int v5), (6, .int v6), (7, .int r17)]) d_Main_year_99 rfl (by decide) [1, 2, 3, 4, 5, 6, 7, 0] rfl ?_
      refine g_aload_n (pc1 := 102) d_Main_year_101 rfl 0 rfl ?_
      refine g_getr (pc1 := 105) d_Main_year_102 rfl ⟨_, fo_Main_26⟩ sh_0 (by decide) (rf_0_2 ld) ?_
      refine g_iload_n (pc1 := 106) d_Main_year_105 rfl 1 rfl ?_
      refine g_iload (pc1 := 108) d_Main_year_106 rfl 7 rfl ?_
      refine g_iload_n (pc1 := 109) d_Main_year_108 rfl 2 rfl ?_
      refine g_aload_n (pc1 := 110) d_Main_year_109 rfl 0 rfl ?_
      refine g_getr (pc1 := 113) d_Main_year_110 rfl ⟨_, fo_Main_36⟩ sh_0 (by decide) (rf_0_4 ld) ?_
      refine g_geti (pc1 := 116) d_Main_year_113 rfl ⟨_, fo_Main_144⟩ (shSt_0 isSt_64) (ltSt_0 isSt_64) ?_
      refine g_callV0 (pc1 := 119) (As := [.int v1, .int r17, .int v2, .int (M18 64 0)]) (rest := []) d_Main_year_116 rfl mo_Main_147 mi_Land_dishForce mv_Land_dishForce rfl (shLa_0 hld) (ltLa_0 hld) (by decide) rfl rfl (Nat.le_of_ble_eq_true rfl) ?_
      obtain ⟨r20, M21, hq19, h⟩ := bnd2 h
      refine f_Land_dishForce hld hld hq19 ?_
      dsimp only [psh]
      refine g_iload_n (pc1 := 120) d_Main_year_119 rfl 3 rfl ?_
      refine g_icmp_lt (pc1 := 123) (tgt := 126) d_Main_year_120 (by decide) rfl (fun c22 => ?_) (fun c22 => ?_)
      · replace h := itp h c22
        refine Wp.loc (lv' := [(0, .ref 0), (1, .int v1), (2, .int v2), (3, .int v3), (4, .int v4), (5, .int v5), (6, .int v6)]) [0, 1, 2, 3, 4, 5, 6] rfl ?_
        exact j_Main_year_126 hld  hQ hK70 h
      · replace h := itn h c22
        obtain ⟨x24, ex24, h⟩ := ltI h
        refine g_iinc (pc1 := 126) (v := x24) (lv' := [(0, .ref 0), (1, .int v1), (2, .int v2), (3, .int v3), (4, .int v4), (5, .int x24), (6, .int v6), (7, .int r17)]) d_Main_year_123 rfl 5 rfl (by rw [ex24]; rfl) (by decide) [1, 2, 3, 4, 5, 0, 6, 7] rfl ?_
        refine Wp.loc (lv' := [(0, .ref 0), (1, .int v1), (2, .int v2), (3, .int v3), (4, .int v4), (5, .int x24), (6, .int v6)]) [0, 1, 2, 3, 4, 5, 6] rfl ?_
        exact j_Main_year_126 hld  hQ hK70 h
def F_Main_year (ld : Nat) (p1 : Int32) (p2 : Int32) (p3 : Int32) (p4 : Int32) (M : gM) : Option (Int32 × gM) :=
  bI (F_Main_isOne p1 (M ld 1)) (fun r2 => (if r2 = 0 then some ((-1), M) else bI (F_Main_isOne p2 3) (fun r5 => (if r5 = 0 then some ((-1), M) else bI (F_Main_isOne p3 100) (fun r8 => (if r8 = 0 then some ((-1), M) else (if p4 < 1 then some ((-1), M) else (if p4 ≤ 20 then bI (F_State_inStore 64 ld p1 M) (fun r13 => (if r13 = 0 then some ((-2), M) else H_Main_year_70 ld p1 p2 p3 p4 FU 0 0 M)) else some ((-1), M)))))))))
set_option maxHeartbeats 4000000 in
set_option maxRecDepth 20000 in
theorem f_Main_year {l : Launch} {ld : Nat} {M : gM} {L : gL} {Q : Option Value → gM → gL → gR → Prop} (hld : isLa ld) {p1 : Int32} {p2 : Int32} {p3 : Int32} {p4 : Int32}  {q : Int32 × gM} (h : F_Main_year ld p1 p2 p3 p4 M = some q) (hQ : Q (some (.int q.1)) q.2 L (rf ld)) : Tm l y_Main_year (0, 0, 447) 447 [.ref 0, .int p1, .int p2, .int p3, .int p4] M L (rf ld) Q := by
  refine Tm.of (by decide) (Nat.le_of_ble_eq_true rfl) ?_
  show Wp l y_Main_year (0, 0, 447) 447 0 0 0 [(0, .ref 0), (1, .int p1), (2, .int p2), (3, .int p3), (4, .int p4)] [] M L (rf ld) Q
  unfold F_Main_year at h
  refine g_iload_n (pc1 := 1) d_Main_year_0 rfl 1 rfl ?_
  refine g_aload_n (pc1 := 2) d_Main_year_1 rfl 0 rfl ?_
  refine g_getr (pc1 := 5) d_Main_year_2 rfl ⟨_, fo_Main_26⟩ sh_0 (by decide) (rf_0_2 ld) ?_
  refine g_geti (pc1 := 8) d_Main_year_5 rfl ⟨_, fo_Main_131⟩ (shLa_0 hld) (ltLa_0 hld) ?_
  refine g_callS0 (pc1 := 11) (As := [.int p1, .int (M ld 1)]) (rest := []) d_Main_year_8 rfl mo_Main_112 ms_Main_isOne (by decide) rfl rfl (Nat.le_of_ble_eq_true rfl) ?_
  obtain ⟨r2, hq1, h⟩ := bnd h
  refine f_Main_isOne hld  hq1 ?_
  dsimp only [psh]
  refine g_if_eq (pc1 := 14) (tgt := 44) d_Main_year_11 (by decide) rfl (fun c3 => ?_) (fun c3 => ?_)
  · replace h := itp h c3
    refine g_iconst (pc1 := 45) (v := (-1)) d_Main_year_44 rfl (by decide) ?_
    refine g_ireturn (Or.inl rfl) d_Main_year_45 rfl ?_
    cases h; exact hQ
  · replace h := itn h c3
    refine g_iload_n (pc1 := 15) d_Main_year_14 rfl 2 rfl ?_
    refine g_iconst (pc1 := 16) (v := 3) d_Main_year_15 rfl (by decide) ?_
    refine g_callS0 (pc1 := 19) (As := [.int p2, .int 3]) (rest := []) d_Main_year_16 rfl mo_Main_112 ms_Main_isOne (by decide) rfl rfl (Nat.le_of_ble_eq_true rfl) ?_
    obtain ⟨r5, hq4, h⟩ := bnd h
    refine f_Main_isOne hld  hq4 ?_
    dsimp only [psh]
    refine g_if_eq (pc1 := 22) (tgt := 44) d_Main_year_19 (by decide) rfl (fun c6 => ?_) (fun c6 => ?_)
    · replace h := itp h c6
      refine g_iconst (pc1 := 45) (v := (-1)) d_Main_year_44 rfl (by decide) ?_
      refine g_ireturn (Or.inl rfl) d_Main_year_45 rfl ?_
      cases h; exact hQ
    · replace h := itn h c6
      refine g_iload_n (pc1 := 23) d_Main_year_22 rfl 3 rfl ?_
      refine g_bipush (pc1 := 25) (v := 100) d_Main_year_23 rfl (by decide) ?_
      refine g_callS0 (pc1 := 28) (As := [.int p3, .int 100]) (rest := []) d_Main_year_25 rfl mo_Main_112 ms_Main_isOne (by decide) rfl rfl (Nat.le_of_ble_eq_true rfl) ?_
      obtain ⟨r8, hq7, h⟩ := bnd h
      refine f_Main_isOne hld  hq7 ?_
      dsimp only [psh]
      refine g_if_eq (pc1 := 31) (tgt := 44) d_Main_year_28 (by decide) rfl (fun c9 => ?_) (fun c9 => ?_)
      · replace h := itp h c9
        refine g_iconst (pc1 := 45) (v := (-1)) d_Main_year_44 rfl (by decide) ?_
        refine g_ireturn (Or.inl rfl) d_Main_year_45 rfl ?_
        cases h; exact hQ
      · replace h := itn h c9
        refine g_iload (pc1 := 33) d_Main_year_31 rfl 4 rfl ?_
        refine g_iconst (pc1 := 34) (v := 1) d_Main_year_33 rfl (by decide) ?_
        refine g_icmp_lt (pc1 := 37) (tgt := 44) d_Main_year_34 (by decide) rfl (fun c10 => ?_) (fun c10 => ?_)
        · replace h := itp h c10
          refine g_iconst (pc1 := 45) (v := (-1)) d_Main_year_44 rfl (by decide) ?_
          refine g_ireturn (Or.inl rfl) d_Main_year_45 rfl ?_
          cases h; exact hQ
        · replace h := itn h c10
          refine g_iload (pc1 := 39) d_Main_year_37 rfl 4 rfl ?_
          refine g_bipush (pc1 := 41) (v := 20) d_Main_year_39 rfl (by decide) ?_
          refine g_icmp_le (pc1 := 44) (tgt := 46) d_Main_year_41 (by decide) rfl (fun c11 => ?_) (fun c11 => ?_)
          · replace h := itp h c11
            refine g_aload_n (pc1 := 47) d_Main_year_46 rfl 0 rfl ?_
            refine g_getr (pc1 := 50) d_Main_year_47 rfl ⟨_, fo_Main_36⟩ sh_0 (by decide) (rf_0_4 ld) ?_
            refine g_aload_n (pc1 := 51) d_Main_year_50 rfl 0 rfl ?_
            refine g_getr (pc1 := 54) d_Main_year_51 rfl ⟨_, fo_Main_26⟩ sh_0 (by decide) (rf_0_2 ld) ?_
            refine g_iload_n (pc1 := 55) d_Main_year_54 rfl 1 rfl ?_
            refine g_callV0 (pc1 := 58) (As := [.ref ld, .int p1]) (rest := []) d_Main_year_55 rfl mo_Main_196 mi_State_inStore mv_State_inStore rfl (shSt_0 isSt_64) (ltSt_0 isSt_64) (by decide) rfl rfl (Nat.le_of_ble_eq_true rfl) ?_
            obtain ⟨r13, hq12, h⟩ := bnd h
            refine f_State_inStore hld isSt_64 hld hq12 ?_
            dsimp only [psh]
            refine g_if_ne (pc1 := 61) (tgt := 64) d_Main_year_58 (by decide) rfl (fun c14 => ?_) (fun c14 => ?_)
            · replace h := itn h c14
              refine g_iconst (pc1 := 65) (v := 0) d_Main_year_64 rfl (by decide) ?_
              refine g_istore (pc1 := 67) (lv' := [(0, .ref 0), (1, .int p1), (2, .int p2), (3, .int p3), (4, .int p4), (5, .int 0)]) d_Main_year_65 rfl (by decide) [1, 2, 3, 4, 5, 0] rfl ?_
              refine g_iconst (pc1 := 68) (v := 0) d_Main_year_67 rfl (by decide) ?_
              refine g_istore (pc1 := 70) (lv' := [(0, .ref 0), (1, .int p1), (2, .int p2), (3, .int p3), (4, .int p4), (5, .int 0), (6, .int 0)]) d_Main_year_68 rfl (by decide) [1, 2, 3, 4, 5, 6, 0] rfl ?_
              exact h_Main_year_70 hld  hQ  _ 0 0 M h
            · replace h := itp h c14
              refine g_bipush (pc1 := 63) (v := (-2)) d_Main_year_61 rfl (by decide) ?_
              refine g_ireturn (Or.inl rfl) d_Main_year_63 rfl ?_
              cases h; exact hQ
          · replace h := itn h c11
            refine g_iconst (pc1 := 45) (v := (-1)) d_Main_year_44 rfl (by decide) ?_
            refine g_ireturn (Or.inl rfl) d_Main_year_45 rfl ?_
            cases h; exact hQ

def J_MenuSearch_lookFed_111 (Ld1 : Nat) (K3 : Int32 → gM → Option (gM)) (v2 : Int32) (v3 : Int32) (v4 : Int32) (v5 : Int32) (v6 : Int32) (M : gM) : Option (gM) :=
  nmI (v6 + 1) (fun x3 => K3 x3 M)
set_option maxHeartbeats 4000000 in
set_option maxRecDepth 20000 in
theorem j_MenuSearch_lookFed_111 {l : Launch} {ld : Nat} {Q : Option Value → gM → gL → gR → Prop} (hld : isLa ld) {Ld1 : Nat} (hLd1 : isLa Ld1) {q : gM} {M : gM} {L : gL} (hQ : Q none q L (rf ld)) {K3 : Int32 → gM → Option (gM)} {v2 : Int32} {v3 : Int32} {v4 : Int32} {v5 : Int32} {v6 : Int32} (hK3 : ∀ (w6 : Int32) (M : gM), K3 w6 M = some q → Wp l y_MenuSearch_lookFed (0, 0, 447) 447 0 0 3 [(0, .ref 396), (1, .ref Ld1), (2, .int v2), (3, .int v3), (4, .int v4), (5, .int v5), (6, .int w6)] [] M L (rf ld) Q) (h : J_MenuSearch_lookFed_111 Ld1 K3 v2 v3 v4 v5 v6 M = some q) : Wp l y_MenuSearch_lookFed (0, 0, 447) 447 0 0 111 [(0, .ref 396), (1, .ref Ld1), (2, .int v2), (3, .int v3), (4, .int v4), (5, .int v5), (6, .int v6)] [] M L (rf ld) Q := by
  unfold J_MenuSearch_lookFed_111 at h
  obtain ⟨x3, ex3, h⟩ := ltI h
  refine g_iinc (pc1 := 114) (v := x3) (lv' := [(0, .ref 396), (1, .ref Ld1), (2, .int v2), (3, .int v3), (4, .int v4), (5, .int v5), (6, .int x3)]) d_MenuSearch_lookFed_111 rfl 6 rfl (by rw [ex3]; rfl) (by decide) [1, 2, 3, 4, 5, 6, 0] rfl ?_
  refine g_goto (tgt := 3) d_MenuSearch_lookFed_114 (by decide) ?_
  exact hK3 x3 M h
def J_MenuSearch_lookFed_105 (Ld1 : Nat) (K3 : Int32 → gM → Option (gM)) (K13 : Int32 → gM → Option (gM)) (v2 : Int32) (v3 : Int32) (v4 : Int32) (v5 : Int32) (v6 : Int32) (v7 : Int32) (M : gM) : Option (gM) :=
  nmI (v7 + 1) (fun x5 => K13 x5 M)
set_option maxHeartbeats 4000000 in
set_option maxRecDepth 20000 in
theorem j_MenuSearch_lookFed_105 {l : Launch} {ld : Nat} {Q : Option Value → gM → gL → gR → Prop} (hld : isLa ld) {Ld1 : Nat} (hLd1 : isLa Ld1) {q : gM} {M : gM} {L : gL} (hQ : Q none q L (rf ld)) {K3 : Int32 → gM → Option (gM)} {K13 : Int32 → gM → Option (gM)} {v2 : Int32} {v3 : Int32} {v4 : Int32} {v5 : Int32} {v6 : Int32} {v7 : Int32} (hK3 : ∀ (w6 : Int32) (M : gM), K3 w6 M = some q → Wp l y_MenuSearch_lookFed (0, 0, 447) 447 0 0 3 [(0, .ref 396), (1, .ref Ld1), (2, .int v2), (3, .int v3), (4, .int v4), (5, .int v5), (6, .int w6)] [] M L (rf ld) Q) (hK13 : ∀ (w7 : Int32) (M : gM), K13 w7 M = some q → Wp l y_MenuSearch_lookFed (0, 0, 447) 447 0 0 13 [(0, .ref 396), (1, .ref Ld1), (2, .int v2), (3, .int v3), (4, .int v4), (5, .int v5), (6, .int v6), (7, .int w7)] [] M L (rf ld) Q) (h : J_MenuSearch_lookFed_105 Ld1 K3 K13 v2 v3 v4 v5 v6 v7 M = some q) : Wp l y_MenuSearch_lookFed (0, 0, 447) 447 0 0 105 [(0, .ref 396), (1, .ref Ld1), (2, .int v2), (3, .int v3), (4, .int v4), (5, .int v5), (6, .int v6), (7, .int v7)] [] M L (rf ld) Q := by
  unfold J_MenuSearch_lookFed_105 at h
  obtain ⟨x5, ex5, h⟩ := ltI h
  refine g_iinc (pc1 := 108) (v := x5) (lv' := [(0, .ref 396), (1, .ref Ld1), (2, .int v2), (3, .int v3), (4, .int v4), (5, .int v5), (6, .int v6), (7, .int x5)]) d_MenuSearch_lookFed_105 rfl 7 rfl (by rw [ex5]; rfl) (by decide) [1, 2, 3, 4, 5, 6, 7, 0] rfl ?_
  refine g_goto (tgt := 13) d_MenuSearch_lookFed_108 (by decide) ?_
  exact hK13 x5 M h
def J_MenuSearch_lookFed_99 (Ld1 : Nat) (K3 : Int32 → gM → Option (gM)) (K13 : Int32 → gM → Option (gM)) (K26 : Int32 → gM → Option (gM)) (v2 : Int32) (v3 : Int32) (v4 : Int32) (v5 : Int32) (v6 : Int32) (v7 : Int32) (v8 : Int32) (M : gM) : Option (gM) :=
  nmI (v8 + 1) (fun x12 => K26 x12 M)
set_option maxHeartbeats 4000000 in
set_option maxRecDepth 20000 in
theorem j_MenuSearch_lookFed_99 {l : Launch} {ld : Nat} {Q : Option Value → gM → gL → gR → Prop} (hld : isLa ld) {Ld1 : Nat} (hLd1 : isLa Ld1) {q : gM} {M : gM} {L : gL} (hQ : Q none q L (rf ld)) {K3 : Int32 → gM → Option (gM)} {K13 : Int32 → gM → Option (gM)} {K26 : Int32 → gM → Option (gM)} {v2 : Int32} {v3 : Int32} {v4 : Int32} {v5 : Int32} {v6 : Int32} {v7 : Int32} {v8 : Int32} (hK3 : ∀ (w6 : Int32) (M : gM), K3 w6 M = some q → Wp l y_MenuSearch_lookFed (0, 0, 447) 447 0 0 3 [(0, .ref 396), (1, .ref Ld1), (2, .int v2), (3, .int v3), (4, .int v4), (5, .int v5), (6, .int w6)] [] M L (rf ld) Q) (hK13 : ∀ (w7 : Int32) (M : gM), K13 w7 M = some q → Wp l y_MenuSearch_lookFed (0, 0, 447) 447 0 0 13 [(0, .ref 396), (1, .ref Ld1), (2, .int v2), (3, .int v3), (4, .int v4), (5, .int v5), (6, .int v6), (7, .int w7)] [] M L (rf ld) Q) (hK26 : ∀ (w8 : Int32) (M : gM), K26 w8 M = some q → Wp l y_MenuSearch_lookFed (0, 0, 447) 447 0 0 26 [(0, .ref 396), (1, .ref Ld1), (2, .int v2), (3, .int v3), (4, .int v4), (5, .int v5), (6, .int v6), (7, .int v7), (8, .int w8)] [] M L (rf ld) Q) (h : J_MenuSearch_lookFed_99 Ld1 K3 K13 K26 v2 v3 v4 v5 v6 v7 v8 M = some q) : Wp l y_MenuSearch_lookFed (0, 0, 447) 447 0 0 99 [(0, .ref 396), (1, .ref Ld1), (2, .int v2), (3, .int v3), (4, .int v4), (5, .int v5), (6, .int v6), (7, .int v7), (8, .int v8)] [] M L (rf ld) Q := by
  unfold J_MenuSearch_lookFed_99 at h
  obtain ⟨x12, ex12, h⟩ := ltI h
  refine g_iinc (pc1 := 102) (v := x12) (lv' := [(0, .ref 396), (1, .ref Ld1), (2, .int v2), (3, .int v3), (4, .int v4), (5, .int v5), (6, .int v6), (7, .int v7), (8, .int x12)]) d_MenuSearch_lookFed_99 rfl 8 rfl (by rw [ex12]; rfl) (by decide) [1, 2, 3, 4, 5, 6, 7, 8, 0] rfl ?_
  refine g_goto (tgt := 26) d_MenuSearch_lookFed_102 (by decide) ?_
  exact hK26 x12 M h
def J_MenuSearch_lookFed_98 (Ld1 : Nat) (K3 : Int32 → gM → Option (gM)) (K13 : Int32 → gM → Option (gM)) (K26 : Int32 → gM → Option (gM)) (v2 : Int32) (v3 : Int32) (v4 : Int32) (v5 : Int32) (v6 : Int32) (v7 : Int32) (v8 : Int32) (s1 : Int32) (s2 : Int32) (M : gM) : Option (gM) :=
  (if (s1 : Int32) < 0 ∨ 80 ≤ (s1 : Int32).toNatClampNeg then none else nmM (uM M 398 (s1 : Int32).toNatClampNeg (vp_nar .boolean s2)) (fun M16 => J_MenuSearch_lookFed_99 Ld1 K3 K13 K26 v2 v3 v4 v5 v6 v7 v8 M16))
set_option maxHeartbeats 4000000 in
set_option maxRecDepth 20000 in
theorem j_MenuSearch_lookFed_98 {l : Launch} {ld : Nat} {Q : Option Value → gM → gL → gR → Prop} (hld : isLa ld) {Ld1 : Nat} (hLd1 : isLa Ld1) {q : gM} {M : gM} {L : gL} (hQ : Q none q L (rf ld)) {K3 : Int32 → gM → Option (gM)} {K13 : Int32 → gM → Option (gM)} {K26 : Int32 → gM → Option (gM)} {v2 : Int32} {v3 : Int32} {v4 : Int32} {v5 : Int32} {v6 : Int32} {v7 : Int32} {v8 : Int32} {s1 : Int32} {s2 : Int32} (hK3 : ∀ (w6 : Int32) (M : gM), K3 w6 M = some q → Wp l y_MenuSearch_lookFed (0, 0, 447) 447 0 0 3 [(0, .ref 396), (1, .ref Ld1), (2, .int v2), (3, .int v3), (4, .int v4), (5, .int v5), (6, .int w6)] [] M L (rf ld) Q) (hK13 : ∀ (w7 : Int32) (M : gM), K13 w7 M = some q → Wp l y_MenuSearch_lookFed (0, 0, 447) 447 0 0 13 [(0, .ref 396), (1, .ref Ld1), (2, .int v2), (3, .int v3), (4, .int v4), (5, .int v5), (6, .int v6), (7, .int w7)] [] M L (rf ld) Q) (hK26 : ∀ (w8 : Int32) (M : gM), K26 w8 M = some q → Wp l y_MenuSearch_lookFed (0, 0, 447) 447 0 0 26 [(0, .ref 396), (1, .ref Ld1), (2, .int v2), (3, .int v3), (4, .int v4), (5, .int v5), (6, .int v6), (7, .int v7), (8, .int w8)] [] M L (rf ld) Q) (h : J_MenuSearch_lookFed_98 Ld1 K3 K13 K26 v2 v3 v4 v5 v6 v7 v8 s1 s2 M = some q) : Wp l y_MenuSearch_lookFed (0, 0, 447) 447 0 0 98 [(0, .ref 396), (1, .ref Ld1), (2, .int v2), (3, .int v3), (4, .int v4), (5, .int v5), (6, .int v6), (7, .int v7), (8, .int v8)] [.int s2, .int s1, .ref 398] M L (rf ld) Q := by
  unfold J_MenuSearch_lookFed_98 at h
  obtain ⟨g15, h⟩ := gdn h
  refine g_zast (pc1 := 99) d_MenuSearch_lookFed_98 rfl sh_398 (by decide) g15 ?_
  refine Wp.lM h (fun M16 h => ?_)
  exact j_MenuSearch_lookFed_99 hld hLd1 hQ hK3 hK13 hK26 h
def B_MenuSearch_lookFed_26 (Ld1 : Nat) (K3 : Int32 → gM → Option (gM)) (K13 : Int32 → gM → Option (gM)) (v2 : Int32) (v3 : Int32) (v4 : Int32) (v5 : Int32) (v6 : Int32) (v7 : Int32) (K26 : Int32 → gM → Option (gM)) : Int32 → gM → Option (gM) := fun v8 M =>
  (if v4 ≤ v8 then J_MenuSearch_lookFed_105 Ld1 K3 K13 v2 v3 v4 v5 v6 v7 M else bI2 (F_Land_freeByDish Ld1 v3 v7 (v2 + v6) (v8 - v6) M) (fun r7 M8 => bI (F_MenuSearch_indexOf v8 v6 v7) (fun r10 => (if r10 < 0 then J_MenuSearch_lookFed_99 Ld1 K3 K13 K26 v2 v3 v4 v5 v6 v7 v8 M8 else (if 80 ≤ r10 then J_MenuSearch_lookFed_99 Ld1 K3 K13 K26 v2 v3 v4 v5 v6 v7 v8 M8 else (if (r7 &&& v5) = v5 then J_MenuSearch_lookFed_98 Ld1 K3 K13 K26 v2 v3 v4 v5 v6 v7 v8 r10 1 M8 else J_MenuSearch_lookFed_98 Ld1 K3 K13 K26 v2 v3 v4 v5 v6 v7 v8 r10 0 M8))))))
def H_MenuSearch_lookFed_26 (Ld1 : Nat) (K3 : Int32 → gM → Option (gM)) (K13 : Int32 → gM → Option (gM)) (v2 : Int32) (v3 : Int32) (v4 : Int32) (v5 : Int32) (v6 : Int32) (v7 : Int32) : Nat → Int32 → gM → Option (gM) := lpK (B_MenuSearch_lookFed_26 Ld1 K3 K13 v2 v3 v4 v5 v6 v7) (fun _ _ => none)
set_option maxHeartbeats 4000000 in
set_option maxRecDepth 20000 in
theorem h_MenuSearch_lookFed_26 {l : Launch} {ld : Nat} {Q : Option Value → gM → gL → gR → Prop} (hld : isLa ld) {Ld1 : Nat} (hLd1 : isLa Ld1) {q : gM} {L : gL} (hQ : Q none q L (rf ld)) {K3 : Int32 → gM → Option (gM)} {K13 : Int32 → gM → Option (gM)} {v2 : Int32} {v3 : Int32} {v4 : Int32} {v5 : Int32} {v6 : Int32} {v7 : Int32} (hK3 : ∀ (w6 : Int32) (M : gM), K3 w6 M = some q → Wp l y_MenuSearch_lookFed (0, 0, 447) 447 0 0 3 [(0, .ref 396), (1, .ref Ld1), (2, .int v2), (3, .int v3), (4, .int v4), (5, .int v5), (6, .int w6)] [] M L (rf ld) Q) (hK13 : ∀ (w7 : Int32) (M : gM), K13 w7 M = some q → Wp l y_MenuSearch_lookFed (0, 0, 447) 447 0 0 13 [(0, .ref 396), (1, .ref Ld1), (2, .int v2), (3, .int v3), (4, .int v4), (5, .int v5), (6, .int v6), (7, .int w7)] [] M L (rf ld) Q) : ∀ (f : Nat) (v8 : Int32) (M : gM), H_MenuSearch_lookFed_26 Ld1 K3 K13 v2 v3 v4 v5 v6 v7 f v8 M = some q → Wp l y_MenuSearch_lookFed (0, 0, 447) 447 0 0 26 [(0, .ref 396), (1, .ref Ld1), (2, .int v2), (3, .int v3), (4, .int v4), (5, .int v5), (6, .int v6), (7, .int v7), (8, .int v8)] [] M L (rf ld) Q := by
  intro f
  induction f with
  | zero => intro v8 M h; cases h
  | succ f hK26 =>
    intro v8 M h
    replace h : B_MenuSearch_lookFed_26 Ld1 K3 K13 v2 v3 v4 v5 v6 v7 (H_MenuSearch_lookFed_26 Ld1 K3 K13 v2 v3 v4 v5 v6 v7 f) v8 M = some q := h
    unfold B_MenuSearch_lookFed_26 at h
    refine g_iload (pc1 := 28) d_MenuSearch_lookFed_26 rfl 8 rfl ?_
    refine g_iload (pc1 := 30) d_MenuSearch_lookFed_28 rfl 4 rfl ?_
    refine g_icmp_ge (pc1 := 33) (tgt := 105) d_MenuSearch_lookFed_30 (by decide) rfl (fun c4 => ?_) (fun c4 => ?_)
    · replace h := itp h c4
      refine Wp.loc (lv' := [(0, .ref 396), (1, .ref Ld1), (2, .int v2), (3, .int v3), (4, .int v4), (5, .int v5), (6, .int v6), (7, .int v7)]) [0, 1, 2, 3, 4, 5, 6, 7] rfl ?_
      exact j_MenuSearch_lookFed_105 hld hLd1 hQ hK3 hK13 h
    · replace h := itn h c4
      refine g_aload_n (pc1 := 34) d_MenuSearch_lookFed_33 rfl 1 rfl ?_
      refine g_iload_n (pc1 := 35) d_MenuSearch_lookFed_34 rfl 3 rfl ?_
      refine g_iload (pc1 := 37) d_MenuSearch_lookFed_35 rfl 7 rfl ?_
      refine g_iload_n (pc1 := 38) d_MenuSearch_lookFed_37 rfl 2 rfl ?_
      refine g_iload (pc1 := 40) d_MenuSearch_lookFed_38 rfl 6 rfl ?_
      refine g_iadd (pc1 := 41) d_MenuSearch_lookFed_40 rfl ?_
      refine g_iload (pc1 := 43) d_MenuSearch_lookFed_41 rfl 8 rfl ?_
      refine g_iload (pc1 := 45) d_MenuSearch_lookFed_43 rfl 6 rfl ?_
      refine g_isub (pc1 := 46) d_MenuSearch_lookFed_45 rfl ?_
      refine g_callV0 (pc1 := 49) (As := [.int v3, .int v7, .int (v2 + v6), .int (v8 - v6)]) (rest := []) d_MenuSearch_lookFed_46 rfl mo_MenuSearch_67 mi_Land_freeByDish mv_Land_freeByDish rfl (shLa_0 hLd1) (ltLa_0 hLd1) (by decide) rfl rfl (Nat.le_of_ble_eq_true rfl) ?_
      obtain ⟨r7, M8, hq6, h⟩ := bnd2 h
      refine f_Land_freeByDish hld hLd1 hq6 ?_
      dsimp only [psh]
      refine g_istore (pc1 := 51) (lv' := [(0, .ref 396), (1, .ref Ld1), (2, .int v2), (3, .int v3), (4, .int v4), (5, .int v5), (6, .int v6), (7, .int v7), (8, .int v8), (9, .int r7)]) d_MenuSearch_lookFed_49 rfl (by decide) [1, 2, 3, 4, 5, 6, 7, 8, 9, 0] rfl ?_
      refine g_iload (pc1 := 53) d_MenuSearch_lookFed_51 rfl 8 rfl ?_
      refine g_iload (pc1 := 55) d_MenuSearch_lookFed_53 rfl 6 rfl ?_
      refine g_iload (pc1 := 57) d_MenuSearch_lookFed_55 rfl 7 rfl ?_
      refine g_callS0 (pc1 := 60) (As := [.int v8, .int v6, .int v7]) (rest := []) d_MenuSearch_lookFed_57 rfl mo_MenuSearch_71 ms_MenuSearch_indexOf (by decide) rfl rfl (Nat.le_of_ble_eq_true rfl) ?_
      obtain ⟨r10, hq9, h⟩ := bnd h
      refine f_MenuSearch_indexOf hld  hq9 ?_
      dsimp only [psh]
      refine g_istore (pc1 := 62) (lv' := [(0, .ref 396), (1, .ref Ld1), (2, .int v2), (3, .int v3), (4, .int v4), (5, .int v5), (6, .int v6), (7, .int v7), (8, .int v8), (9, .int r7), (10, .int r10)]) d_MenuSearch_lookFed_60 rfl (by decide) [1, 2, 3, 4, 5, 6, 7, 8, 9, 10, 0] rfl ?_
      refine g_iload (pc1 := 64) d_MenuSearch_lookFed_62 rfl 10 rfl ?_
      refine g_if_lt (pc1 := 67) (tgt := 99) d_MenuSearch_lookFed_64 (by decide) rfl (fun c11 => ?_) (fun c11 => ?_)
      · replace h := itp h c11
        refine Wp.loc (lv' := [(0, .ref 396), (1, .ref Ld1), (2, .int v2), (3, .int v3), (4, .int v4), (5, .int v5), (6, .int v6), (7, .int v7), (8, .int v8)]) [0, 1, 2, 3, 4, 5, 6, 7, 8] rfl ?_
        exact j_MenuSearch_lookFed_99 hld hLd1 hQ hK3 hK13 hK26 h
      · replace h := itn h c11
        refine g_iload (pc1 := 69) d_MenuSearch_lookFed_67 rfl 10 rfl ?_
        refine g_aload_n (pc1 := 70) d_MenuSearch_lookFed_69 rfl 0 rfl ?_
        refine g_getr (pc1 := 73) d_MenuSearch_lookFed_70 rfl ⟨_, fo_MenuSearch_15⟩ sh_396 (by decide) (rf_396_1 ld) ?_
        refine g_alen (pc1 := 74) (v := 80) d_MenuSearch_lookFed_73 rfl sh_398 (by decide) (by decide) (by decide) (by decide) ?_
        refine g_icmp_ge (pc1 := 77) (tgt := 99) d_MenuSearch_lookFed_74 (by decide) rfl (fun c13 => ?_) (fun c13 => ?_)
        · replace h := itp h c13
          refine Wp.loc (lv' := [(0, .ref 396), (1, .ref Ld1), (2, .int v2), (3, .int v3), (4, .int v4), (5, .int v5), (6, .int v6), (7, .int v7), (8, .int v8)]) [0, 1, 2, 3, 4, 5, 6, 7, 8] rfl ?_
          exact j_MenuSearch_lookFed_99 hld hLd1 hQ hK3 hK13 hK26 h
        · replace h := itn h c13
          refine g_aload_n (pc1 := 78) d_MenuSearch_lookFed_77 rfl 0 rfl ?_
          refine g_getr (pc1 := 81) d_MenuSearch_lookFed_78 rfl ⟨_, fo_MenuSearch_15⟩ sh_396 (by decide) (rf_396_1 ld) ?_
          refine g_iload (pc1 := 83) d_MenuSearch_lookFed_81 rfl 10 rfl ?_
          refine g_iload (pc1 := 85) d_MenuSearch_lookFed_83 rfl 9 rfl ?_
          refine g_iload (pc1 := 87) d_MenuSearch_lookFed_85 rfl 5 rfl ?_
          refine g_iand (pc1 := 88) d_MenuSearch_lookFed_87 rfl ?_
          refine g_iload (pc1 := 90) d_MenuSearch_lookFed_88 rfl 5 rfl ?_
          refine g_icmp_ne (pc1 := 93) (tgt := 97) d_MenuSearch_lookFed_90 (by decide) rfl (fun c14 => ?_) (fun c14 => ?_)
          · replace h := itn h c14
            refine g_iconst (pc1 := 98) (v := 0) d_MenuSearch_lookFed_97 rfl (by decide) ?_
            refine Wp.loc (lv' := [(0, .ref 396), (1, .ref Ld1), (2, .int v2), (3, .int v3), (4, .int v4), (5, .int v5), (6, .int v6), (7, .int v7), (8, .int v8)]) [0, 1, 2, 3, 4, 5, 6, 7, 8] rfl ?_
            exact j_MenuSearch_lookFed_98 hld hLd1 hQ hK3 hK13 hK26 h
          · replace h := itp h c14
            refine g_iconst (pc1 := 94) (v := 1) d_MenuSearch_lookFed_93 rfl (by decide) ?_
            refine g_goto (tgt := 98) d_MenuSearch_lookFed_94 (by decide) ?_
            refine Wp.loc (lv' := [(0, .ref 396), (1, .ref Ld1), (2, .int v2), (3, .int v3), (4, .int v4), (5, .int v5), (6, .int v6), (7, .int v7), (8, .int v8)]) [0, 1, 2, 3, 4, 5, 6, 7, 8] rfl ?_
            exact j_MenuSearch_lookFed_98 hld hLd1 hQ hK3 hK13 hK26 h
def B_MenuSearch_lookFed_13 (Ld1 : Nat) (K3 : Int32 → gM → Option (gM)) (v2 : Int32) (v3 : Int32) (v4 : Int32) (v5 : Int32) (v6 : Int32) (K13 : Int32 → gM → Option (gM)) : Int32 → gM → Option (gM) := fun v7 M =>
  (if (M Ld1 1) ≤ v7 then J_MenuSearch_lookFed_111 Ld1 K3 v2 v3 v4 v5 v6 M else H_MenuSearch_lookFed_26 Ld1 K3 K13 v2 v3 v4 v5 v6 v7 FU v6 M)
def H_MenuSearch_lookFed_13 (Ld1 : Nat) (K3 : Int32 → gM → Option (gM)) (v2 : Int32) (v3 : Int32) (v4 : Int32) (v5 : Int32) (v6 : Int32) : Nat → Int32 → gM → Option (gM) := lpK (B_MenuSearch_lookFed_13 Ld1 K3 v2 v3 v4 v5 v6) (fun _ _ => none)
set_option maxHeartbeats 4000000 in
set_option maxRecDepth 20000 in
theorem h_MenuSearch_lookFed_13 {l : Launch} {ld : Nat} {Q : Option Value → gM → gL → gR → Prop} (hld : isLa ld) {Ld1 : Nat} (hLd1 : isLa Ld1) {q : gM} {L : gL} (hQ : Q none q L (rf ld)) {K3 : Int32 → gM → Option (gM)} {v2 : Int32} {v3 : Int32} {v4 : Int32} {v5 : Int32} {v6 : Int32} (hK3 : ∀ (w6 : Int32) (M : gM), K3 w6 M = some q → Wp l y_MenuSearch_lookFed (0, 0, 447) 447 0 0 3 [(0, .ref 396), (1, .ref Ld1), (2, .int v2), (3, .int v3), (4, .int v4), (5, .int v5), (6, .int w6)] [] M L (rf ld) Q) : ∀ (f : Nat) (v7 : Int32) (M : gM), H_MenuSearch_lookFed_13 Ld1 K3 v2 v3 v4 v5 v6 f v7 M = some q → Wp l y_MenuSearch_lookFed (0, 0, 447) 447 0 0 13 [(0, .ref 396), (1, .ref Ld1), (2, .int v2), (3, .int v3), (4, .int v4), (5, .int v5), (6, .int v6), (7, .int v7)] [] M L (rf ld) Q := by
  intro f
  induction f with
  | zero => intro v7 M h; cases h
  | succ f hK13 =>
    intro v7 M h
    replace h : B_MenuSearch_lookFed_13 Ld1 K3 v2 v3 v4 v5 v6 (H_MenuSearch_lookFed_13 Ld1 K3 v2 v3 v4 v5 v6 f) v7 M = some q := h
    unfold B_MenuSearch_lookFed_13 at h
    refine g_iload (pc1 := 15) d_MenuSearch_lookFed_13 rfl 7 rfl ?_
    refine g_aload_n (pc1 := 16) d_MenuSearch_lookFed_15 rfl 1 rfl ?_
    refine g_geti (pc1 := 19) d_MenuSearch_lookFed_16 rfl ⟨_, fo_MenuSearch_54⟩ (shLa_0 hLd1) (ltLa_0 hLd1) ?_
    refine g_icmp_ge (pc1 := 22) (tgt := 111) d_MenuSearch_lookFed_19 (by decide) rfl (fun c2 => ?_) (fun c2 => ?_)
    · replace h := itp h c2
      refine Wp.loc (lv' := [(0, .ref 396), (1, .ref Ld1), (2, .int v2), (3, .int v3), (4, .int v4), (5, .int v5), (6, .int v6)]) [0, 1, 2, 3, 4, 5, 6] rfl ?_
      exact j_MenuSearch_lookFed_111 hld hLd1 hQ hK3 h
    · replace h := itn h c2
      refine g_iload (pc1 := 24) d_MenuSearch_lookFed_22 rfl 6 rfl ?_
      refine g_istore (pc1 := 26) (lv' := [(0, .ref 396), (1, .ref Ld1), (2, .int v2), (3, .int v3), (4, .int v4), (5, .int v5), (6, .int v6), (7, .int v7), (8, .int v6)]) d_MenuSearch_lookFed_24 rfl (by decide) [1, 2, 3, 4, 5, 6, 7, 8, 0] rfl ?_
      exact h_MenuSearch_lookFed_26 hld hLd1 hQ hK3 hK13 _ v6 M h
def B_MenuSearch_lookFed_3 (Ld1 : Nat) (v2 : Int32) (v3 : Int32) (v4 : Int32) (v5 : Int32) (K3 : Int32 → gM → Option (gM)) : Int32 → gM → Option (gM) := fun v6 M =>
  (if v4 ≤ v6 then some M else H_MenuSearch_lookFed_13 Ld1 K3 v2 v3 v4 v5 v6 FU 0 M)
def H_MenuSearch_lookFed_3 (Ld1 : Nat) (v2 : Int32) (v3 : Int32) (v4 : Int32) (v5 : Int32) : Nat → Int32 → gM → Option (gM) := lpK (B_MenuSearch_lookFed_3 Ld1 v2 v3 v4 v5) (fun _ _ => none)
set_option maxHeartbeats 4000000 in
set_option maxRecDepth 20000 in
theorem h_MenuSearch_lookFed_3 {l : Launch} {ld : Nat} {Q : Option Value → gM → gL → gR → Prop} (hld : isLa ld) {Ld1 : Nat} (hLd1 : isLa Ld1) {q : gM} {L : gL} (hQ : Q none q L (rf ld))  {v2 : Int32} {v3 : Int32} {v4 : Int32} {v5 : Int32}  : ∀ (f : Nat) (v6 : Int32) (M : gM), H_MenuSearch_lookFed_3 Ld1 v2 v3 v4 v5 f v6 M = some q → Wp l y_MenuSearch_lookFed (0, 0, 447) 447 0 0 3 [(0, .ref 396), (1, .ref Ld1), (2, .int v2), (3, .int v3), (4, .int v4), (5, .int v5), (6, .int v6)] [] M L (rf ld) Q := by
  intro f
  induction f with
  | zero => intro v6 M h; cases h
  | succ f hK3 =>
    intro v6 M h
    replace h : B_MenuSearch_lookFed_3 Ld1 v2 v3 v4 v5 (H_MenuSearch_lookFed_3 Ld1 v2 v3 v4 v5 f) v6 M = some q := h
    unfold B_MenuSearch_lookFed_3 at h
    refine g_iload (pc1 := 5) d_MenuSearch_lookFed_3 rfl 6 rfl ?_
    refine g_iload (pc1 := 7) d_MenuSearch_lookFed_5 rfl 4 rfl ?_
    refine g_icmp_ge (pc1 := 10) (tgt := 117) d_MenuSearch_lookFed_7 (by decide) rfl (fun c1 => ?_) (fun c1 => ?_)
    · replace h := itp h c1
      refine g_return rfl d_MenuSearch_lookFed_117 rfl ?_
      cases h; exact hQ
    · replace h := itn h c1
      refine g_iconst (pc1 := 11) (v := 0) d_MenuSearch_lookFed_10 rfl (by decide) ?_
      refine g_istore (pc1 := 13) (lv' := [(0, .ref 396), (1, .ref Ld1), (2, .int v2), (3, .int v3), (4, .int v4), (5, .int v5), (6, .int v6), (7, .int 0)]) d_MenuSearch_lookFed_11 rfl (by decide) [1, 2, 3, 4, 5, 6, 7, 0] rfl ?_
      exact h_MenuSearch_lookFed_13 hld hLd1 hQ hK3 _ 0 M h
def F_MenuSearch_lookFed (Ld1 : Nat) (p2 : Int32) (p3 : Int32) (p4 : Int32) (p5 : Int32) (M : gM) : Option (gM) :=
  H_MenuSearch_lookFed_3 Ld1 p2 p3 p4 p5 FU 0 M
set_option maxHeartbeats 4000000 in
set_option maxRecDepth 20000 in
theorem f_MenuSearch_lookFed {l : Launch} {ld : Nat} {M : gM} {L : gL} {Q : Option Value → gM → gL → gR → Prop} (hld : isLa ld) {Ld1 : Nat} {p2 : Int32} {p3 : Int32} {p4 : Int32} {p5 : Int32} (hLd1 : isLa Ld1) {q : gM} (h : F_MenuSearch_lookFed Ld1 p2 p3 p4 p5 M = some q) (hQ : Q none q L (rf ld)) : Tm l y_MenuSearch_lookFed (0, 0, 447) 447 [.ref 396, .ref Ld1, .int p2, .int p3, .int p4, .int p5] M L (rf ld) Q := by
  refine Tm.of (by decide) (Nat.le_of_ble_eq_true rfl) ?_
  show Wp l y_MenuSearch_lookFed (0, 0, 447) 447 0 0 0 [(0, .ref 396), (1, .ref Ld1), (2, .int p2), (3, .int p3), (4, .int p4), (5, .int p5)] [] M L (rf ld) Q
  unfold F_MenuSearch_lookFed at h
  refine g_iconst (pc1 := 1) (v := 0) d_MenuSearch_lookFed_0 rfl (by decide) ?_
  refine g_istore (pc1 := 3) (lv' := [(0, .ref 396), (1, .ref Ld1), (2, .int p2), (3, .int p3), (4, .int p4), (5, .int p5), (6, .int 0)]) d_MenuSearch_lookFed_1 rfl (by decide) [1, 2, 3, 4, 5, 6, 0] rfl ?_
  exact h_MenuSearch_lookFed_3 hld hLd1 hQ  _ 0 M h

def J_MenuSearch_lookUnfed_40 (Ld1 : Nat) (X2 : Nat) (K3 : Int32 → gM → Option (gM)) (v3 : Int32) (v4 : Int32) (v5 : Int32) (s1 : Int32) (s2 : Int32) (M : gM) : Option (gM) :=
  (if (s1 : Int32) < 0 ∨ 4 ≤ (s1 : Int32).toNatClampNeg then none else nmM (uM M 397 (s1 : Int32).toNatClampNeg (vp_nar .boolean s2)) (fun M7 => nmI (v5 + 1) (fun x8 => K3 x8 M7)))
set_option maxHeartbeats 4000000 in
set_option maxRecDepth 20000 in
theorem j_MenuSearch_lookUnfed_40 {l : Launch} {ld : Nat} {Q : Option Value → gM → gL → gR → Prop} (hld : isLa ld) {Ld1 : Nat} {X2 : Nat} (hLd1 : isLa Ld1) (hX2 : isSt X2) {q : gM} {M : gM} {L : gL} (hQ : Q none q L (rf ld)) {K3 : Int32 → gM → Option (gM)} {v3 : Int32} {v4 : Int32} {v5 : Int32} {s1 : Int32} {s2 : Int32} (hK3 : ∀ (w5 : Int32) (M : gM), K3 w5 M = some q → Wp l y_MenuSearch_lookUnfed (0, 0, 447) 447 0 0 3 [(0, .ref 396), (1, .ref Ld1), (2, .ref X2), (3, .int v3), (4, .int v4), (5, .int w5)] [] M L (rf ld) Q) (h : J_MenuSearch_lookUnfed_40 Ld1 X2 K3 v3 v4 v5 s1 s2 M = some q) : Wp l y_MenuSearch_lookUnfed (0, 0, 447) 447 0 0 40 [(0, .ref 396), (1, .ref Ld1), (2, .ref X2), (3, .int v3), (4, .int v4), (5, .int v5)] [.int s2, .int s1, .ref 397] M L (rf ld) Q := by
  unfold J_MenuSearch_lookUnfed_40 at h
  obtain ⟨g6, h⟩ := gdn h
  refine g_zast (pc1 := 41) d_MenuSearch_lookUnfed_40 rfl sh_397 (by decide) g6 ?_
  refine Wp.lM h (fun M7 h => ?_)
  obtain ⟨x8, ex8, h⟩ := ltI h
  refine g_iinc (pc1 := 44) (v := x8) (lv' := [(0, .ref 396), (1, .ref Ld1), (2, .ref X2), (3, .int v3), (4, .int v4), (5, .int x8)]) d_MenuSearch_lookUnfed_41 rfl 5 rfl (by rw [ex8]; rfl) (by decide) [1, 2, 3, 4, 5, 0] rfl ?_
  refine g_goto (tgt := 3) d_MenuSearch_lookUnfed_44 (by decide) ?_
  exact hK3 x8 M7 h
def B_MenuSearch_lookUnfed_3 (Ld1 : Nat) (X2 : Nat) (v3 : Int32) (v4 : Int32) (K3 : Int32 → gM → Option (gM)) : Int32 → gM → Option (gM) := fun v5 M =>
  (if 4 ≤ v5 then some M else bI2 (F_State_freeOf X2 Ld1 v3 v5 M) (fun r3 M4 => (if (r3 &&& v4) = v4 then J_MenuSearch_lookUnfed_40 Ld1 X2 K3 v3 v4 v5 v5 1 M4 else J_MenuSearch_lookUnfed_40 Ld1 X2 K3 v3 v4 v5 v5 0 M4)))
def H_MenuSearch_lookUnfed_3 (Ld1 : Nat) (X2 : Nat) (v3 : Int32) (v4 : Int32) : Nat → Int32 → gM → Option (gM) := lpK (B_MenuSearch_lookUnfed_3 Ld1 X2 v3 v4) (fun _ _ => none)
set_option maxHeartbeats 4000000 in
set_option maxRecDepth 20000 in
theorem h_MenuSearch_lookUnfed_3 {l : Launch} {ld : Nat} {Q : Option Value → gM → gL → gR → Prop} (hld : isLa ld) {Ld1 : Nat} {X2 : Nat} (hLd1 : isLa Ld1) (hX2 : isSt X2) {q : gM} {L : gL} (hQ : Q none q L (rf ld))  {v3 : Int32} {v4 : Int32}  : ∀ (f : Nat) (v5 : Int32) (M : gM), H_MenuSearch_lookUnfed_3 Ld1 X2 v3 v4 f v5 M = some q → Wp l y_MenuSearch_lookUnfed (0, 0, 447) 447 0 0 3 [(0, .ref 396), (1, .ref Ld1), (2, .ref X2), (3, .int v3), (4, .int v4), (5, .int v5)] [] M L (rf ld) Q := by
  intro f
  induction f with
  | zero => intro v5 M h; cases h
  | succ f hK3 =>
    intro v5 M h
    replace h : B_MenuSearch_lookUnfed_3 Ld1 X2 v3 v4 (H_MenuSearch_lookUnfed_3 Ld1 X2 v3 v4 f) v5 M = some q := h
    unfold B_MenuSearch_lookUnfed_3 at h
    refine g_iload (pc1 := 5) d_MenuSearch_lookUnfed_3 rfl 5 rfl ?_
    refine g_aload_n (pc1 := 6) d_MenuSearch_lookUnfed_5 rfl 0 rfl ?_
    refine g_getr (pc1 := 9) d_MenuSearch_lookUnfed_6 rfl ⟨_, fo_MenuSearch_9⟩ sh_396 (by decide) (rf_396_0 ld) ?_
    refine g_alen (pc1 := 10) (v := 4) d_MenuSearch_lookUnfed_9 rfl sh_397 (by decide) (by decide) (by decide) (by decide) ?_
    refine g_icmp_ge (pc1 := 13) (tgt := 47) d_MenuSearch_lookUnfed_10 (by decide) rfl (fun c1 => ?_) (fun c1 => ?_)
    · replace h := itp h c1
      refine g_return rfl d_MenuSearch_lookUnfed_47 rfl ?_
      cases h; exact hQ
    · replace h := itn h c1
      refine g_aload_n (pc1 := 14) d_MenuSearch_lookUnfed_13 rfl 0 rfl ?_
      refine g_getr (pc1 := 17) d_MenuSearch_lookUnfed_14 rfl ⟨_, fo_MenuSearch_9⟩ sh_396 (by decide) (rf_396_0 ld) ?_
      refine g_iload (pc1 := 19) d_MenuSearch_lookUnfed_17 rfl 5 rfl ?_
      refine g_aload_n (pc1 := 20) d_MenuSearch_lookUnfed_19 rfl 2 rfl ?_
      refine g_aload_n (pc1 := 21) d_MenuSearch_lookUnfed_20 rfl 1 rfl ?_
      refine g_iload_n (pc1 := 22) d_MenuSearch_lookUnfed_21 rfl 3 rfl ?_
      refine g_iload (pc1 := 24) d_MenuSearch_lookUnfed_22 rfl 5 rfl ?_
      refine g_callV0 (pc1 := 27) (As := [.ref Ld1, .int v3, .int v5]) (rest := [.int v5, .ref 397]) d_MenuSearch_lookUnfed_24 rfl mo_MenuSearch_63 mi_State_freeOf mv_State_freeOf rfl (shSt_0 hX2) (ltSt_0 hX2) (by decide) rfl rfl (Nat.le_of_ble_eq_true rfl) ?_
      obtain ⟨r3, M4, hq2, h⟩ := bnd2 h
      refine f_State_freeOf hld hX2 hLd1 hq2 ?_
      dsimp only [psh]
      refine g_iload (pc1 := 29) d_MenuSearch_lookUnfed_27 rfl 4 rfl ?_
      refine g_iand (pc1 := 30) d_MenuSearch_lookUnfed_29 rfl ?_
      refine g_iload (pc1 := 32) d_MenuSearch_lookUnfed_30 rfl 4 rfl ?_
      refine g_icmp_ne (pc1 := 35) (tgt := 39) d_MenuSearch_lookUnfed_32 (by decide) rfl (fun c5 => ?_) (fun c5 => ?_)
      · replace h := itn h c5
        refine g_iconst (pc1 := 40) (v := 0) d_MenuSearch_lookUnfed_39 rfl (by decide) ?_
        exact j_MenuSearch_lookUnfed_40 hld hLd1 hX2 hQ hK3 h
      · replace h := itp h c5
        refine g_iconst (pc1 := 36) (v := 1) d_MenuSearch_lookUnfed_35 rfl (by decide) ?_
        refine g_goto (tgt := 40) d_MenuSearch_lookUnfed_36 (by decide) ?_
        exact j_MenuSearch_lookUnfed_40 hld hLd1 hX2 hQ hK3 h
def F_MenuSearch_lookUnfed (Ld1 : Nat) (X2 : Nat) (p3 : Int32) (p4 : Int32) (M : gM) : Option (gM) :=
  H_MenuSearch_lookUnfed_3 Ld1 X2 p3 p4 FU 0 M
set_option maxHeartbeats 4000000 in
set_option maxRecDepth 20000 in
theorem f_MenuSearch_lookUnfed {l : Launch} {ld : Nat} {M : gM} {L : gL} {Q : Option Value → gM → gL → gR → Prop} (hld : isLa ld) {Ld1 : Nat} {X2 : Nat} {p3 : Int32} {p4 : Int32} (hLd1 : isLa Ld1) (hX2 : isSt X2) {q : gM} (h : F_MenuSearch_lookUnfed Ld1 X2 p3 p4 M = some q) (hQ : Q none q L (rf ld)) : Tm l y_MenuSearch_lookUnfed (0, 0, 447) 447 [.ref 396, .ref Ld1, .ref X2, .int p3, .int p4] M L (rf ld) Q := by
  refine Tm.of (by decide) (Nat.le_of_ble_eq_true rfl) ?_
  show Wp l y_MenuSearch_lookUnfed (0, 0, 447) 447 0 0 0 [(0, .ref 396), (1, .ref Ld1), (2, .ref X2), (3, .int p3), (4, .int p4)] [] M L (rf ld) Q
  unfold F_MenuSearch_lookUnfed at h
  refine g_iconst (pc1 := 1) (v := 0) d_MenuSearch_lookUnfed_0 rfl (by decide) ?_
  refine g_istore (pc1 := 3) (lv' := [(0, .ref 396), (1, .ref Ld1), (2, .ref X2), (3, .int p3), (4, .int p4), (5, .int 0)]) d_MenuSearch_lookUnfed_1 rfl (by decide) [1, 2, 3, 4, 5, 0] rfl ?_
  exact h_MenuSearch_lookUnfed_3 hld hLd1 hX2 hQ  _ 0 M h

def J_PotSearch_find_86 (Ld1 : Nat) (X2 : Nat) (M : gM) : Option (Int32 × gM) :=
  (if (b01 (M 391 9)) = 0 ∨ (b01 (M 391 9)) = 1 then some ((b01 (M 391 9)), M) else none)
set_option maxHeartbeats 4000000 in
set_option maxRecDepth 20000 in
theorem j_PotSearch_find_86 {l : Launch} {ld : Nat} {Q : Option Value → gM → gL → gR → Prop} (hld : isLa ld) {Ld1 : Nat} {X2 : Nat} (hLd1 : isLa Ld1) (hX2 : isSt X2) {q : Int32 × gM} {M : gM} {L : gL} (hQ : Q (some (.int q.1)) q.2 L (rf ld))    (h : J_PotSearch_find_86 Ld1 X2 M = some q) : Wp l y_PotSearch_find (0, 0, 447) 447 0 0 86 [(0, .ref 391)] [] M L (rf ld) Q := by
  unfold J_PotSearch_find_86 at h
  refine g_goto (tgt := 109) d_PotSearch_find_86 (by decide) ?_
  refine g_aload_n (pc1 := 110) d_PotSearch_find_109 rfl 0 rfl ?_
  refine g_getz (pc1 := 113) d_PotSearch_find_110 rfl ⟨_, fo_PotSearch_28⟩ sh_391 (by decide) ?_
  obtain ⟨g24, h⟩ := gdp h
  refine g_ireturn (Or.inr ⟨rfl, nar01 g24⟩) d_PotSearch_find_113 rfl ?_
  cases h; exact hQ
def B_PotSearch_find_66 (Ld1 : Nat) (X2 : Nat) (K66 : Int32 → gM → Option (Int32 × gM)) : Int32 → gM → Option (Int32 × gM) := fun v6 M =>
  (if 924 ≤ v6 then (if (b01 (M 391 9)) = 0 ∨ (b01 (M 391 9)) = 1 then some ((b01 (M 391 9)), M) else none) else bI (F_PotSearch_weigh Ld1 M) (fun M17 => (if (M17 391 3) = 0 then J_PotSearch_find_86 Ld1 X2 M17 else bI (F_PotSearch_tryHeats Ld1 (M17 X2 0) M17) (fun M20 => bI (F_PotSearch_stepDown X2 M20) (fun M22 => nmI (v6 + 1) (fun x23 => K66 x23 M22))))))
def H_PotSearch_find_66 (Ld1 : Nat) (X2 : Nat) : Nat → Int32 → gM → Option (Int32 × gM) := lpK (B_PotSearch_find_66 Ld1 X2) (fun _ _ => none)
set_option maxHeartbeats 4000000 in
set_option maxRecDepth 20000 in
theorem h_PotSearch_find_66 {l : Launch} {ld : Nat} {Q : Option Value → gM → gL → gR → Prop} (hld : isLa ld) {Ld1 : Nat} {X2 : Nat} (hLd1 : isLa Ld1) (hX2 : isSt X2) {q : Int32 × gM} {L : gL} (hQ : Q (some (.int q.1)) q.2 L (rf ld))    : ∀ (f : Nat) (v6 : Int32) (M : gM), H_PotSearch_find_66 Ld1 X2 f v6 M = some q → Wp l y_PotSearch_find (0, 0, 447) 447 0 0 66 [(0, .ref 391), (1, .ref Ld1), (2, .ref X2), (6, .int v6)] [] M L (rf ld) Q := by
  intro f
  induction f with
  | zero => intro v6 M h; cases h
  | succ f hK66 =>
    intro v6 M h
    replace h : B_PotSearch_find_66 Ld1 X2 (H_PotSearch_find_66 Ld1 X2 f) v6 M = some q := h
    unfold B_PotSearch_find_66 at h
    refine g_iload (pc1 := 68) d_PotSearch_find_66 rfl 3 rfl ?_
    refine g_sipush (pc1 := 71) (v := 924) d_PotSearch_find_68 rfl (by decide) ?_
    refine g_icmp_ge (pc1 := 74) (tgt := 109) d_PotSearch_find_71 (by decide) rfl (fun c14 => ?_) (fun c14 => ?_)
    · replace h := itp h c14
      refine g_aload_n (pc1 := 110) d_PotSearch_find_109 rfl 0 rfl ?_
      refine g_getz (pc1 := 113) d_PotSearch_find_110 rfl ⟨_, fo_PotSearch_28⟩ sh_391 (by decide) ?_
      obtain ⟨g15, h⟩ := gdp h
      refine g_ireturn (Or.inr ⟨rfl, nar01 g15⟩) d_PotSearch_find_113 rfl ?_
      cases h; exact hQ
    · replace h := itn h c14
      refine g_aload_n (pc1 := 75) d_PotSearch_find_74 rfl 0 rfl ?_
      refine g_aload_n (pc1 := 76) d_PotSearch_find_75 rfl 1 rfl ?_
      refine g_callV0 (pc1 := 79) (As := [.ref Ld1]) (rest := []) d_PotSearch_find_76 rfl mo_PotSearch_52 mi_PotSearch_weigh mv_PotSearch_weigh rfl sh_391 (by decide) (by decide) rfl rfl (Nat.le_of_ble_eq_true rfl) ?_
      obtain ⟨M17, hq16, h⟩ := bnd h
      refine f_PotSearch_weigh hld hLd1 hq16 ?_
      dsimp only [psh]
      refine g_aload_n (pc1 := 80) d_PotSearch_find_79 rfl 0 rfl ?_
      refine g_geti (pc1 := 83) d_PotSearch_find_80 rfl ⟨_, fo_PotSearch_56⟩ sh_391 (by decide) ?_
      refine g_if_ne (pc1 := 86) (tgt := 89) d_PotSearch_find_83 (by decide) rfl (fun c18 => ?_) (fun c18 => ?_)
      · replace h := itn h c18
        refine g_aload_n (pc1 := 90) d_PotSearch_find_89 rfl 0 rfl ?_
        refine g_aload_n (pc1 := 91) d_PotSearch_find_90 rfl 1 rfl ?_
        refine g_aload_n (pc1 := 92) d_PotSearch_find_91 rfl 2 rfl ?_
        refine g_geti (pc1 := 95) d_PotSearch_find_92 rfl ⟨_, fo_PotSearch_59⟩ (shSt_0 hX2) (ltSt_0 hX2) ?_
        refine g_callV0 (pc1 := 98) (As := [.ref Ld1, .int (M17 X2 0)]) (rest := []) d_PotSearch_find_95 rfl mo_PotSearch_64 mi_PotSearch_tryHeats mv_PotSearch_tryHeats rfl sh_391 (by decide) (by decide) rfl rfl (Nat.le_of_ble_eq_true rfl) ?_
        obtain ⟨M20, hq19, h⟩ := bnd h
        refine f_PotSearch_tryHeats hld hLd1 hq19 ?_
        dsimp only [psh]
        refine g_aload_n (pc1 := 99) d_PotSearch_find_98 rfl 0 rfl ?_
        refine g_aload_n (pc1 := 100) d_PotSearch_find_99 rfl 2 rfl ?_
        refine g_callV0 (pc1 := 103) (As := [.ref X2]) (rest := []) d_PotSearch_find_100 rfl mo_PotSearch_68 mi_PotSearch_stepDown mv_PotSearch_stepDown rfl sh_391 (by decide) (by decide) rfl rfl (Nat.le_of_ble_eq_true rfl) ?_
        obtain ⟨M22, hq21, h⟩ := bnd h
        refine f_PotSearch_stepDown hld hX2 hq21 ?_
        dsimp only [psh]
        obtain ⟨x23, ex23, h⟩ := ltI h
        refine g_iinc (pc1 := 106) (v := x23) (lv' := [(0, .ref 391), (1, .ref Ld1), (2, .ref X2), (6, .int x23)]) d_PotSearch_find_103 rfl 3 rfl (by rw [ex23]; rfl) (by decide) [1, 2, 3, 0] rfl ?_
        refine g_goto (tgt := 66) d_PotSearch_find_106 (by decide) ?_
        exact hK66 x23 M22 h
      · replace h := itp h c18
        refine Wp.loc (lv' := [(0, .ref 391)]) [0] rfl ?_
        exact j_PotSearch_find_86 hld hLd1 hX2 hQ  h
def J_PotSearch_find_52 (Ld1 : Nat) (X2 : Nat) (s1 : Int32) (M : gM) : Option (Int32 × gM) :=
  nmM (uM M 391 10 s1) (fun M11 => bI (F_PotSearch_fillFrom X2 0 6 M11) (fun M13 => H_PotSearch_find_66 Ld1 X2 FU 0 M13))
set_option maxHeartbeats 4000000 in
set_option maxRecDepth 20000 in
theorem j_PotSearch_find_52 {l : Launch} {ld : Nat} {Q : Option Value → gM → gL → gR → Prop} (hld : isLa ld) {Ld1 : Nat} {X2 : Nat} (hLd1 : isLa Ld1) (hX2 : isSt X2) {q : Int32 × gM} {M : gM} {L : gL} (hQ : Q (some (.int q.1)) q.2 L (rf ld))  {s1 : Int32}  (h : J_PotSearch_find_52 Ld1 X2 s1 M = some q) : Wp l y_PotSearch_find (0, 0, 447) 447 0 0 52 [(0, .ref 391), (1, .ref Ld1), (2, .ref X2)] [.int s1, .ref 391] M L (rf ld) Q := by
  unfold J_PotSearch_find_52 at h
  refine g_puti (pc1 := 55) d_PotSearch_find_52 rfl fo_PotSearch_44 (po_10_10 _) sh_391 (by decide) ?_
  refine Wp.lM h (fun M11 h => ?_)
  refine g_aload_n (pc1 := 56) d_PotSearch_find_55 rfl 0 rfl ?_
  refine g_aload_n (pc1 := 57) d_PotSearch_find_56 rfl 2 rfl ?_
  refine g_iconst (pc1 := 58) (v := 0) d_PotSearch_find_57 rfl (by decide) ?_
  refine g_bipush (pc1 := 60) (v := 6) d_PotSearch_find_58 rfl (by decide) ?_
  refine g_callV0 (pc1 := 63) (As := [.ref X2, .int 0, .int 6]) (rest := []) d_PotSearch_find_60 rfl mo_PotSearch_48 mi_PotSearch_fillFrom mv_PotSearch_fillFrom rfl sh_391 (by decide) (by decide) rfl rfl (Nat.le_of_ble_eq_true rfl) ?_
  obtain ⟨M13, hq12, h⟩ := bnd h
  refine f_PotSearch_fillFrom hld hX2 hq12 ?_
  dsimp only [psh]
  refine g_iconst (pc1 := 64) (v := 0) d_PotSearch_find_63 rfl (by decide) ?_
  refine g_istore (pc1 := 66) (lv' := [(0, .ref 391), (1, .ref Ld1), (2, .ref X2), (6, .int 0)]) d_PotSearch_find_64 rfl (by decide) [1, 2, 3, 0] rfl ?_
  exact h_PotSearch_find_66 hld hLd1 hX2 hQ  _ 0 M13 h
def F_PotSearch_find (Ld1 : Nat) (X2 : Nat) (p3 : Int32) (p4 : Int32) (p5 : Int32) (M : gM) : Option (Int32 × gM) :=
  bI (F_Main_put 392 3 0 p3 M) (fun M2 => bI (F_Main_put 392 3 1 p4 M2) (fun M4 => bI (F_Main_put 392 3 2 p5 M4) (fun M6 => nmM (uM M6 391 9 0) (fun M7 => bI (F_Law_looksAt (Ld1 + 9) 1 M7) (fun r9 => (if r9 = 0 then J_PotSearch_find_52 Ld1 X2 1 M7 else J_PotSearch_find_52 Ld1 X2 10 M7))))))
set_option maxHeartbeats 4000000 in
set_option maxRecDepth 20000 in
theorem f_PotSearch_find {l : Launch} {ld : Nat} {M : gM} {L : gL} {Q : Option Value → gM → gL → gR → Prop} (hld : isLa ld) {Ld1 : Nat} {X2 : Nat} {p3 : Int32} {p4 : Int32} {p5 : Int32} (hLd1 : isLa Ld1) (hX2 : isSt X2) {q : Int32 × gM} (h : F_PotSearch_find Ld1 X2 p3 p4 p5 M = some q) (hQ : Q (some (.int q.1)) q.2 L (rf ld)) : Tm l y_PotSearch_find (0, 0, 447) 447 [.ref 391, .ref Ld1, .ref X2, .int p3, .int p4, .int p5] M L (rf ld) Q := by
  refine Tm.of (by decide) (Nat.le_of_ble_eq_true rfl) ?_
  show Wp l y_PotSearch_find (0, 0, 447) 447 0 0 0 [(0, .ref 391), (1, .ref Ld1), (2, .ref X2), (3, .int p3), (4, .int p4), (5, .int p5)] [] M L (rf ld) Q
  unfold F_PotSearch_find at h
  refine g_aload_n (pc1 := 1) d_PotSearch_find_0 rfl 0 rfl ?_
  refine g_getr (pc1 := 4) d_PotSearch_find_1 rfl ⟨_, fo_PotSearch_9⟩ sh_391 (by decide) (rf_391_0 ld) ?_
  refine g_iconst (pc1 := 5) (v := 0) d_PotSearch_find_4 rfl (by decide) ?_
  refine g_iload_n (pc1 := 6) d_PotSearch_find_5 rfl 3 rfl ?_
  refine g_callS0 (pc1 := 9) (As := [.ref 392, .int 0, .int p3]) (rest := []) d_PotSearch_find_6 rfl mo_PotSearch_24 ms_Main_put (by decide) rfl rfl (Nat.le_of_ble_eq_true rfl) ?_
  obtain ⟨M2, hq1, h⟩ := bnd h
  refine f_Main_put hld sh_392 (by decide) (by decide) hq1 ?_
  dsimp only [psh]
  refine g_aload_n (pc1 := 10) d_PotSearch_find_9 rfl 0 rfl ?_
  refine g_getr (pc1 := 13) d_PotSearch_find_10 rfl ⟨_, fo_PotSearch_9⟩ sh_391 (by decide) (rf_391_0 ld) ?_
  refine g_iconst (pc1 := 14) (v := 1) d_PotSearch_find_13 rfl (by decide) ?_
  refine g_iload (pc1 := 16) d_PotSearch_find_14 rfl 4 rfl ?_
  refine g_callS0 (pc1 := 19) (As := [.ref 392, .int 1, .int p4]) (rest := []) d_PotSearch_find_16 rfl mo_PotSearch_24 ms_Main_put (by decide) rfl rfl (Nat.le_of_ble_eq_true rfl) ?_
  obtain ⟨M4, hq3, h⟩ := bnd h
  refine f_Main_put hld sh_392 (by decide) (by decide) hq3 ?_
  dsimp only [psh]
  refine g_aload_n (pc1 := 20) d_PotSearch_find_19 rfl 0 rfl ?_
  refine g_getr (pc1 := 23) d_PotSearch_find_20 rfl ⟨_, fo_PotSearch_9⟩ sh_391 (by decide) (rf_391_0 ld) ?_
  refine g_iconst (pc1 := 24) (v := 2) d_PotSearch_find_23 rfl (by decide) ?_
  refine g_iload (pc1 := 26) d_PotSearch_find_24 rfl 5 rfl ?_
  refine g_callS0 (pc1 := 29) (As := [.ref 392, .int 2, .int p5]) (rest := []) d_PotSearch_find_26 rfl mo_PotSearch_24 ms_Main_put (by decide) rfl rfl (Nat.le_of_ble_eq_true rfl) ?_
  obtain ⟨M6, hq5, h⟩ := bnd h
  refine f_Main_put hld sh_392 (by decide) (by decide) hq5 ?_
  dsimp only [psh]
  refine g_aload_n (pc1 := 30) d_PotSearch_find_29 rfl 0 rfl ?_
  refine g_iconst (pc1 := 31) (v := 0) d_PotSearch_find_30 rfl (by decide) ?_
  refine g_putz (pc1 := 34) d_PotSearch_find_31 rfl fo_PotSearch_28 po_10_9_0 rfl sh_391 (by decide) ?_
  refine Wp.lM h (fun M7 h => ?_)
  refine g_aload_n (pc1 := 35) d_PotSearch_find_34 rfl 0 rfl ?_
  refine g_aload_n (pc1 := 36) d_PotSearch_find_35 rfl 1 rfl ?_
  refine g_getr (pc1 := 39) d_PotSearch_find_36 rfl ⟨_, fo_PotSearch_32⟩ (shLa_0 hLd1) (ltLa_0 hLd1) (rfLa_13 ld hLd1) ?_
  refine g_iconst (pc1 := 40) (v := 1) d_PotSearch_find_39 rfl (by decide) ?_
  refine g_callV0 (pc1 := 43) (As := [.int 1]) (rest := [.ref 391]) d_PotSearch_find_40 rfl mo_PotSearch_38 mi_Law_looksAt mv_Law_looksAt rfl (shLw_0 (isLw_9 hLd1)) (ltLw_0 (isLw_9 hLd1)) (by decide) rfl rfl (Nat.le_of_ble_eq_true rfl) ?_
  obtain ⟨r9, hq8, h⟩ := bnd h
  refine f_Law_looksAt hld (isLw_9 hLd1) hq8 ?_
  dsimp only [psh]
  refine g_if_eq (pc1 := 46) (tgt := 51) d_PotSearch_find_43 (by decide) rfl (fun c10 => ?_) (fun c10 => ?_)
  · replace h := itp h c10
    refine g_iconst (pc1 := 52) (v := 1) d_PotSearch_find_51 rfl (by decide) ?_
    refine Wp.loc (lv' := [(0, .ref 391), (1, .ref Ld1), (2, .ref X2)]) [0, 1, 2] rfl ?_
    exact j_PotSearch_find_52 hld hLd1 hX2 hQ  h
  · replace h := itn h c10
    refine g_bipush (pc1 := 48) (v := 10) d_PotSearch_find_46 rfl (by decide) ?_
    refine g_goto (tgt := 52) d_PotSearch_find_48 (by decide) ?_
    refine Wp.loc (lv' := [(0, .ref 391), (1, .ref Ld1), (2, .ref X2)]) [0, 1, 2] rfl ?_
    exact j_PotSearch_find_52 hld hLd1 hX2 hQ  h

def J_Reader_parse_215 (Ld2 : Nat) (M : gM) (L : gL) : Option (Int32 × gM × gL) :=
  (if (M 3 2) = 0 then nmM (uM M 3 2 (M 3 4)) (fun M12 => nmM (uM M12 3 3 (M12 3 5)) (fun M13 => some ((M13 3 2), M13, L))) else some ((M 3 2), M, L))
set_option maxHeartbeats 4000000 in
set_option maxRecDepth 20000 in
theorem j_Reader_parse_215 {l : Launch} {ld : Nat} {Q : Option Value → gM → gL → gR → Prop} (hld : isLa ld) {Ld2 : Nat} (hLd2 : isLa Ld2) {q : Int32 × gM × gL} {M : gM} {L : gL} (hQ : Q (some (.int q.1)) q.2.1 q.2.2 (rf ld))    (h : J_Reader_parse_215 Ld2 M L = some q) : Wp l y_Reader_parse (0, 0, 447) 447 0 0 215 [(0, .ref 3)] [] M L (rf ld) Q := by
  unfold J_Reader_parse_215 at h
  refine g_aload_n (pc1 := 216) d_Reader_parse_215 rfl 0 rfl ?_
  refine g_geti (pc1 := 219) d_Reader_parse_216 rfl ⟨_, fo_Reader_42⟩ sh_3 (by decide) ?_
  refine g_if_ne (pc1 := 222) (tgt := 238) d_Reader_parse_219 (by decide) rfl (fun c11 => ?_) (fun c11 => ?_)
  · replace h := itn h c11
    refine g_aload_n (pc1 := 239) d_Reader_parse_238 rfl 0 rfl ?_
    refine g_geti (pc1 := 242) d_Reader_parse_239 rfl ⟨_, fo_Reader_42⟩ sh_3 (by decide) ?_
    refine g_ireturn (Or.inl rfl) d_Reader_parse_242 rfl ?_
    cases h; exact hQ
  · replace h := itp h c11
    refine g_aload_n (pc1 := 223) d_Reader_parse_222 rfl 0 rfl ?_
    refine g_aload_n (pc1 := 224) d_Reader_parse_223 rfl 0 rfl ?_
    refine g_geti (pc1 := 227) d_Reader_parse_224 rfl ⟨_, fo_Reader_45⟩ sh_3 (by decide) ?_
    refine g_puti (pc1 := 230) d_Reader_parse_227 rfl fo_Reader_42 (po_2_2 _) sh_3 (by decide) ?_
    refine Wp.lM h (fun M12 h => ?_)
    refine g_aload_n (pc1 := 231) d_Reader_parse_230 rfl 0 rfl ?_
    refine g_aload_n (pc1 := 232) d_Reader_parse_231 rfl 0 rfl ?_
    refine g_geti (pc1 := 235) d_Reader_parse_232 rfl ⟨_, fo_Reader_99⟩ sh_3 (by decide) ?_
    refine g_puti (pc1 := 238) d_Reader_parse_235 rfl fo_Reader_102 (po_2_3 _) sh_3 (by decide) ?_
    refine Wp.lM h (fun M13 h => ?_)
    refine g_aload_n (pc1 := 239) d_Reader_parse_238 rfl 0 rfl ?_
    refine g_geti (pc1 := 242) d_Reader_parse_239 rfl ⟨_, fo_Reader_42⟩ sh_3 (by decide) ?_
    refine g_ireturn (Or.inl rfl) d_Reader_parse_242 rfl ?_
    cases h; exact hQ
def J_Reader_parse_209 (Ld2 : Nat) (K34 : Int32 → gM → gL → Option (Int32 × gM × gL)) (v3 : Int32) (M : gM) (L : gL) : Option (Int32 × gM × gL) :=
  nmI (v3 + 1) (fun x24 => K34 x24 M L)
set_option maxHeartbeats 4000000 in
set_option maxRecDepth 20000 in
theorem j_Reader_parse_209 {l : Launch} {ld : Nat} {Q : Option Value → gM → gL → gR → Prop} (hld : isLa ld) {Ld2 : Nat} (hLd2 : isLa Ld2) {q : Int32 × gM × gL} {M : gM} {L : gL} (hQ : Q (some (.int q.1)) q.2.1 q.2.2 (rf ld)) {K34 : Int32 → gM → gL → Option (Int32 × gM × gL)} {v3 : Int32} (hK34 : ∀ (w3 : Int32) (M : gM) (L : gL), K34 w3 M L = some q → Wp l y_Reader_parse (0, 0, 447) 447 0 0 34 [(0, .ref 3), (2, .ref Ld2), (3, .int w3)] [] M L (rf ld) Q) (h : J_Reader_parse_209 Ld2 K34 v3 M L = some q) : Wp l y_Reader_parse (0, 0, 447) 447 0 0 209 [(0, .ref 3), (2, .ref Ld2), (3, .int v3)] [] M L (rf ld) Q := by
  unfold J_Reader_parse_209 at h
  obtain ⟨x24, ex24, h⟩ := ltI h
  refine g_iinc (pc1 := 212) (v := x24) (lv' := [(0, .ref 3), (2, .ref Ld2), (3, .int x24)]) d_Reader_parse_209 rfl 2 rfl (by rw [ex24]; rfl) (by decide) [1, 2, 0] rfl ?_
  refine g_goto (tgt := 34) d_Reader_parse_212 (by decide) ?_
  exact hK34 x24 M L h
def B_Reader_parse_34 (Ld2 : Nat) (K34 : Int32 → gM → gL → Option (Int32 × gM × gL)) : Int32 → gM → gL → Option (Int32 × gM × gL) := fun v3 M L =>
  (if 400 < v3 then J_Reader_parse_215 Ld2 M L else (if (M 3 2) = 0 then bI (F_Reader_is 0 M) (fun r16 => (if r16 = 0 then bI (F_Main_at 6 401 (M 3 1) M) (fun r19 => (if r19 = 128 then bI2 (F_Reader_takeFood Ld2 M L) (fun M22 L23 => J_Reader_parse_209 Ld2 K34 v3 M22 L23) else (if r19 = 129 then bI2 (F_Reader_takeDish Ld2 M L) (fun M27 L28 => J_Reader_parse_209 Ld2 K34 v3 M27 L28) else (if r19 = 130 then bI2 (F_Reader_takeGuest Ld2 M L) (fun M31 L32 => J_Reader_parse_209 Ld2 K34 v3 M31 L32) else (if r19 = 131 then bI2 (F_Reader_takeDeed Ld2 M L) (fun M35 L36 => J_Reader_parse_209 Ld2 K34 v3 M35 L36) else (if r19 = 132 then bI (F_Reader_takeLaw (Ld2 + 9) M L) (fun M39 => J_Reader_parse_209 Ld2 K34 v3 M39 L) else (if r19 = 133 then bI (F_Reader_takeLaw (Ld2 + 13) M L) (fun M42 => J_Reader_parse_209 Ld2 K34 v3 M42 L) else (if r19 = 134 then bI (F_Reader_takeLaw (Ld2 + 17) M L) (fun M45 => J_Reader_parse_209 Ld2 K34 v3 M45 L) else (if r19 = 135 then bI (F_Reader_takeLaw (Ld2 + 21) M L) (fun M48 => J_Reader_parse_209 Ld2 K34 v3 M48 L) else (if r19 = 136 then bI (F_Reader_takeSeed Ld2 M L) (fun M51 => J_Reader_parse_209 Ld2 K34 v3 M51 L) else bI (F_Reader_stop 1 M) (fun M53 => J_Reader_parse_209 Ld2 K34 v3 M53 L))))))))))) else J_Reader_parse_215 Ld2 M L)) else J_Reader_parse_215 Ld2 M L))
def H_Reader_parse_34 (Ld2 : Nat) : Nat → Int32 → gM → gL → Option (Int32 × gM × gL) := lpK (B_Reader_parse_34 Ld2) (fun _ _ _ => none)
set_option maxHeartbeats 4000000 in
set_option maxRecDepth 20000 in
theorem h_Reader_parse_34 {l : Launch} {ld : Nat} {Q : Option Value → gM → gL → gR → Prop} (hld : isLa ld) {Ld2 : Nat} (hLd2 : isLa Ld2) {q : Int32 × gM × gL} (hQ : Q (some (.int q.1)) q.2.1 q.2.2 (rf ld))    : ∀ (f : Nat) (v3 : Int32) (M : gM) (L : gL), H_Reader_parse_34 Ld2 f v3 M L = some q → Wp l y_Reader_parse (0, 0, 447) 447 0 0 34 [(0, .ref 3), (2, .ref Ld2), (3, .int v3)] [] M L (rf ld) Q := by
  intro f
  induction f with
  | zero => intro v3 M L h; cases h
  | succ f hK34 =>
    intro v3 M L h
    replace h : B_Reader_parse_34 Ld2 (H_Reader_parse_34 Ld2 f) v3 M L = some q := h
    unfold B_Reader_parse_34 at h
    refine g_iload_n (pc1 := 35) d_Reader_parse_34 rfl 2 rfl ?_
    refine g_sipush (pc1 := 38) (v := 400) d_Reader_parse_35 rfl (by decide) ?_
    refine g_icmp_gt (pc1 := 41) (tgt := 215) d_Reader_parse_38 (by decide) rfl (fun c10 => ?_) (fun c10 => ?_)
    · replace h := itp h c10
      refine Wp.loc (lv' := [(0, .ref 3)]) [0] rfl ?_
      exact j_Reader_parse_215 hld hLd2 hQ  h
    · replace h := itn h c10
      refine g_aload_n (pc1 := 42) d_Reader_parse_41 rfl 0 rfl ?_
      refine g_geti (pc1 := 45) d_Reader_parse_42 rfl ⟨_, fo_Reader_42⟩ sh_3 (by decide) ?_
      refine g_if_ne (pc1 := 48) (tgt := 215) d_Reader_parse_45 (by decide) rfl (fun c14 => ?_) (fun c14 => ?_)
      · replace h := itn h c14
        refine Wp.loc (lv' := [(0, .ref 3)]) [0] rfl ?_
        exact j_Reader_parse_215 hld hLd2 hQ  h
      · replace h := itp h c14
        refine g_aload_n (pc1 := 49) d_Reader_parse_48 rfl 0 rfl ?_
        refine g_iconst (pc1 := 50) (v := 0) d_Reader_parse_49 rfl (by decide) ?_
        refine g_callV0 (pc1 := 53) (As := [.int 0]) (rest := []) d_Reader_parse_50 rfl mo_Reader_51 mi_Reader_is mv_Reader_is rfl sh_3 (by decide) (by decide) rfl rfl (Nat.le_of_ble_eq_true rfl) ?_
        obtain ⟨r16, hq15, h⟩ := bnd h
        refine f_Reader_is hld  hq15 ?_
        dsimp only [psh]
        refine g_if_ne (pc1 := 56) (tgt := 215) d_Reader_parse_53 (by decide) rfl (fun c17 => ?_) (fun c17 => ?_)
        · replace h := itn h c17
          refine Wp.loc (lv' := [(0, .ref 3)]) [0] rfl ?_
          exact j_Reader_parse_215 hld hLd2 hQ  h
        · replace h := itp h c17
          refine g_aload_n (pc1 := 57) d_Reader_parse_56 rfl 0 rfl ?_
          refine g_getr (pc1 := 60) d_Reader_parse_57 rfl ⟨_, fo_Reader_12⟩ sh_3 (by decide) (rf_3_0 ld) ?_
          refine g_getr (pc1 := 63) d_Reader_parse_60 rfl ⟨_, fo_Reader_55⟩ sh_4 (by decide) (rf_4_1 ld) ?_
          refine g_aload_n (pc1 := 64) d_Reader_parse_63 rfl 0 rfl ?_
          refine g_geti (pc1 := 67) d_Reader_parse_64 rfl ⟨_, fo_Reader_38⟩ sh_3 (by decide) ?_
          refine g_callS0 (pc1 := 70) (As := [.ref 6, .int (M 3 1)]) (rest := []) d_Reader_parse_67 rfl mo_Reader_58 ms_Main_at (by decide) rfl rfl (Nat.le_of_ble_eq_true rfl) ?_
          obtain ⟨r19, hq18, h⟩ := bnd h
          refine f_Main_at hld sh_6 (by decide) (by decide) hq18 ?_
          dsimp only [psh]
          by_cases c20 : r19 = 128
          · replace h := itp h c20
            refine g_tabK (tgt := 120) (off := 50) d_Reader_parse_70 c20 (by decide) (by decide) (by decide) (by decide) ?_
            refine g_aload_n (pc1 := 121) d_Reader_parse_120 rfl 0 rfl ?_
            refine g_aload_n (pc1 := 122) d_Reader_parse_121 rfl 1 rfl ?_
            refine g_callV0 (pc1 := 125) (As := [.ref Ld2]) (rest := []) d_Reader_parse_122 rfl mo_Reader_62 mi_Reader_takeFood mv_Reader_takeFood rfl sh_3 (by decide) (by decide) rfl rfl (Nat.le_of_ble_eq_true rfl) ?_
            obtain ⟨M22, L23, hq21, h⟩ := bnd2 h
            refine f_Reader_takeFood hld hLd2 hq21 ?_
            dsimp only [psh]
            refine g_goto (tgt := 209) d_Reader_parse_125 (by decide) ?_
            exact j_Reader_parse_209 hld hLd2 hQ hK34 h
          replace h := itn h c20
          by_cases c25 : r19 = 129
          · replace h := itp h c25
            refine g_tabK (tgt := 128) (off := 58) d_Reader_parse_70 c25 (by decide) (by decide) (by decide) (by decide) ?_
            refine g_aload_n (pc1 := 129) d_Reader_parse_128 rfl 0 rfl ?_
            refine g_aload_n (pc1 := 130) d_Reader_parse_129 rfl 1 rfl ?_
            refine g_callV0 (pc1 := 133) (As := [.ref Ld2]) (rest := []) d_Reader_parse_130 rfl mo_Reader_66 mi_Reader_takeDish mv_Reader_takeDish rfl sh_3 (by decide) (by decide) rfl rfl (Nat.le_of_ble_eq_true rfl) ?_
            obtain ⟨M27, L28, hq26, h⟩ := bnd2 h
            refine f_Reader_takeDish hld hLd2 hq26 ?_
            dsimp only [psh]
            refine g_goto (tgt := 209) d_Reader_parse_133 (by decide) ?_
            exact j_Reader_parse_209 hld hLd2 hQ hK34 h
          replace h := itn h c25
          by_cases c29 : r19 = 130
          · replace h := itp h c29
            refine g_tabK (tgt := 136) (off := 66) d_Reader_parse_70 c29 (by decide) (by decide) (by decide) (by decide) ?_
            refine g_aload_n (pc1 := 137) d_Reader_parse_136 rfl 0 rfl ?_
            refine g_aload_n (pc1 := 138) d_Reader_parse_137 rfl 1 rfl ?_
            refine g_callV0 (pc1 := 141) (As := [.ref Ld2]) (rest := []) d_Reader_parse_138 rfl mo_Reader_69 mi_Reader_takeGuest mv_Reader_takeGuest rfl sh_3 (by decide) (by decide) rfl rfl (Nat.le_of_ble_eq_true rfl) ?_
            obtain ⟨M31, L32, hq30, h⟩ := bnd2 h
            refine f_Reader_takeGuest hld hLd2 hq30 ?_
            dsimp only [psh]
            refine g_goto (tgt := 209) d_Reader_parse_141 (by decide) ?_
            exact j_Reader_parse_209 hld hLd2 hQ hK34 h
          replace h := itn h c29
          by_cases c33 : r19 = 131
          · replace h := itp h c33
            refine g_tabK (tgt := 144) (off := 74) d_Reader_parse_70 c33 (by decide) (by decide) (by decide) (by decide) ?_
            refine g_aload_n (pc1 := 145) d_Reader_parse_144 rfl 0 rfl ?_
            refine g_aload_n (pc1 := 146) d_Reader_parse_145 rfl 1 rfl ?_
            refine g_callV0 (pc1 := 149) (As := [.ref Ld2]) (rest := []) d_Reader_parse_146 rfl mo_Reader_72 mi_Reader_takeDeed mv_Reader_takeDeed rfl sh_3 (by decide) (by decide) rfl rfl (Nat.le_of_ble_eq_true rfl) ?_
            obtain ⟨M35, L36, hq34, h⟩ := bnd2 h
            refine f_Reader_takeDeed hld hLd2 hq34 ?_
            dsimp only [psh]
            refine g_goto (tgt := 209) d_Reader_parse_149 (by decide) ?_
            exact j_Reader_parse_209 hld hLd2 hQ hK34 h
          replace h := itn h c33
          by_cases c37 : r19 = 132
          · replace h := itp h c37
            refine g_tabK (tgt := 152) (off := 82) d_Reader_parse_70 c37 (by decide) (by decide) (by decide) (by decide) ?_
            refine g_aload_n (pc1 := 153) d_Reader_parse_152 rfl 0 rfl ?_
            refine g_aload_n (pc1 := 154) d_Reader_parse_153 rfl 1 rfl ?_
            refine g_getr (pc1 := 157) d_Reader_parse_154 rfl ⟨_, fo_Reader_75⟩ (shLa_0 hLd2) (ltLa_0 hLd2) (rfLa_13 ld hLd2) ?_
            refine g_callV0 (pc1 := 160) (As := [.ref (Ld2 + 9)]) (rest := []) d_Reader_parse_157 rfl mo_Reader_79 mi_Reader_takeLaw mv_Reader_takeLaw rfl sh_3 (by decide) (by decide) rfl rfl (Nat.le_of_ble_eq_true rfl) ?_
            obtain ⟨M39, hq38, h⟩ := bnd h
            refine f_Reader_takeLaw hld (isLw_9 hLd2) hq38 ?_
            dsimp only [psh]
            refine g_goto (tgt := 209) d_Reader_parse_160 (by decide) ?_
            exact j_Reader_parse_209 hld hLd2 hQ hK34 h
          replace h := itn h c37
          by_cases c40 : r19 = 133
          · replace h := itp h c40
            refine g_tabK (tgt := 163) (off := 93) d_Reader_parse_70 c40 (by decide) (by decide) (by decide) (by decide) ?_
            refine g_aload_n (pc1 := 164) d_Reader_parse_163 rfl 0 rfl ?_
            refine g_aload_n (pc1 := 165) d_Reader_parse_164 rfl 1 rfl ?_
            refine g_getr (pc1 := 168) d_Reader_parse_165 rfl ⟨_, fo_Reader_83⟩ (shLa_0 hLd2) (ltLa_0 hLd2) (rfLa_14 ld hLd2) ?_
            refine g_callV0 (pc1 := 171) (As := [.ref (Ld2 + 13)]) (rest := []) d_Reader_parse_168 rfl mo_Reader_79 mi_Reader_takeLaw mv_Reader_takeLaw rfl sh_3 (by decide) (by decide) rfl rfl (Nat.le_of_ble_eq_true rfl) ?_
            obtain ⟨M42, hq41, h⟩ := bnd h
            refine f_Reader_takeLaw hld (isLw_13 hLd2) hq41 ?_
            dsimp only [psh]
            refine g_goto (tgt := 209) d_Reader_parse_171 (by decide) ?_
            exact j_Reader_parse_209 hld hLd2 hQ hK34 h
          replace h := itn h c40
          by_cases c43 : r19 = 134
          · replace h := itp h c43
            refine g_tabK (tgt := 174) (off := 104) d_Reader_parse_70 c43 (by decide) (by decide) (by decide) (by decide) ?_
            refine g_aload_n (pc1 := 175) d_Reader_parse_174 rfl 0 rfl ?_
            refine g_aload_n (pc1 := 176) d_Reader_parse_175 rfl 1 rfl ?_
            refine g_getr (pc1 := 179) d_Reader_parse_176 rfl ⟨_, fo_Reader_86⟩ (shLa_0 hLd2) (ltLa_0 hLd2) (rfLa_15 ld hLd2) ?_
            refine g_callV0 (pc1 := 182) (As := [.ref (Ld2 + 17)]) (rest := []) d_Reader_parse_179 rfl mo_Reader_79 mi_Reader_takeLaw mv_Reader_takeLaw rfl sh_3 (by decide) (by decide) rfl rfl (Nat.le_of_ble_eq_true rfl) ?_
            obtain ⟨M45, hq44, h⟩ := bnd h
            refine f_Reader_takeLaw hld (isLw_17 hLd2) hq44 ?_
            dsimp only [psh]
            refine g_goto (tgt := 209) d_Reader_parse_182 (by decide) ?_
            exact j_Reader_parse_209 hld hLd2 hQ hK34 h
          replace h := itn h c43
          by_cases c46 : r19 = 135
          · replace h := itp h c46
            refine g_tabK (tgt := 185) (off := 115) d_Reader_parse_70 c46 (by decide) (by decide) (by decide) (by decide) ?_
            refine g_aload_n (pc1 := 186) d_Reader_parse_185 rfl 0 rfl ?_
            refine g_aload_n (pc1 := 187) d_Reader_parse_186 rfl 1 rfl ?_
            refine g_getr (pc1 := 190) d_Reader_parse_187 rfl ⟨_, fo_Reader_89⟩ (shLa_0 hLd2) (ltLa_0 hLd2) (rfLa_16 ld hLd2) ?_
            refine g_callV0 (pc1 := 193) (As := [.ref (Ld2 + 21)]) (rest := []) d_Reader_parse_190 rfl mo_Reader_79 mi_Reader_takeLaw mv_Reader_takeLaw rfl sh_3 (by decide) (by decide) rfl rfl (Nat.le_of_ble_eq_true rfl) ?_
            obtain ⟨M48, hq47, h⟩ := bnd h
            refine f_Reader_takeLaw hld (isLw_21 hLd2) hq47 ?_
            dsimp only [psh]
            refine g_goto (tgt := 209) d_Reader_parse_193 (by decide) ?_
            exact j_Reader_parse_209 hld hLd2 hQ hK34 h
          replace h := itn h c46
          by_cases c49 : r19 = 136
          · replace h := itp h c49
            refine g_tabK (tgt := 196) (off := 126) d_Reader_parse_70 c49 (by decide) (by decide) (by decide) (by decide) ?_
            refine g_aload_n (pc1 := 197) d_Reader_parse_196 rfl 0 rfl ?_
            refine g_aload_n (pc1 := 198) d_Reader_parse_197 rfl 1 rfl ?_
            refine g_callV0 (pc1 := 201) (As := [.ref Ld2]) (rest := []) d_Reader_parse_198 rfl mo_Reader_92 mi_Reader_takeSeed mv_Reader_takeSeed rfl sh_3 (by decide) (by decide) rfl rfl (Nat.le_of_ble_eq_true rfl) ?_
            obtain ⟨M51, hq50, h⟩ := bnd h
            refine f_Reader_takeSeed hld hLd2 hq50 ?_
            dsimp only [psh]
            refine g_goto (tgt := 209) d_Reader_parse_201 (by decide) ?_
            exact j_Reader_parse_209 hld hLd2 hQ hK34 h
          replace h := itn h c49
          refine g_tabOut (tgt := 204) d_Reader_parse_70 (by
            have nc20 := neT (a := 128) c20 (by decide)
            have nc25 := neT (a := 129) c25 (by decide)
            have nc29 := neT (a := 130) c29 (by decide)
            have nc33 := neT (a := 131) c33 (by decide)
            have nc37 := neT (a := 132) c37 (by decide)
            have nc40 := neT (a := 133) c40 (by decide)
            have nc43 := neT (a := 134) c43 (by decide)
            have nc46 := neT (a := 135) c46 (by decide)
            have nc49 := neT (a := 136) c49 (by decide)
            omega) (by decide) ?_
          refine g_aload_n (pc1 := 205) d_Reader_parse_204 rfl 0 rfl ?_
          refine g_iconst (pc1 := 206) (v := 1) d_Reader_parse_205 rfl (by decide) ?_
          refine g_callV0 (pc1 := 209) (As := [.int 1]) (rest := []) d_Reader_parse_206 rfl mo_Reader_95 mi_Reader_stop mv_Reader_stop rfl sh_3 (by decide) (by decide) rfl rfl (Nat.le_of_ble_eq_true rfl) ?_
          obtain ⟨M53, hq52, h⟩ := bnd h
          refine f_Reader_stop hld  hq52 ?_
          dsimp only [psh]
          exact j_Reader_parse_209 hld hLd2 hQ hK34 h
def F_Reader_parse (Ld2 : Nat) (M : gM) (L : gL) : Option (Int32 × gM × gL) :=
  bI2 (F_Tokens_cut M L) (fun M2 L3 => bI (F_Land_clear Ld2 M2) (fun M5 => nmM (uM M5 3 1 0) (fun M6 => nmM (uM M6 3 2 0) (fun M7 => nmM (uM M7 3 4 0) (fun M8 => nmM (uM M8 3 8 0) (fun M9 => H_Reader_parse_34 Ld2 FU 0 M9 L3))))))
set_option maxHeartbeats 4000000 in
set_option maxRecDepth 20000 in
theorem f_Reader_parse {l : Launch} {ld : Nat} {M : gM} {L : gL} {Q : Option Value → gM → gL → gR → Prop} (hld : isLa ld) {Ld2 : Nat} (hLd2 : isLa Ld2) {q : Int32 × gM × gL} (h : F_Reader_parse Ld2 M L = some q) (hQ : Q (some (.int q.1)) q.2.1 q.2.2 (rf ld)) : Tm l y_Reader_parse (0, 0, 447) 447 [.ref 3, .ref 1, .ref Ld2] M L (rf ld) Q := by
  refine Tm.of (by decide) (Nat.le_of_ble_eq_true rfl) ?_
  show Wp l y_Reader_parse (0, 0, 447) 447 0 0 0 [(0, .ref 3), (1, .ref 1), (2, .ref Ld2)] [] M L (rf ld) Q
  unfold F_Reader_parse at h
  refine g_aload_n (pc1 := 1) d_Reader_parse_0 rfl 0 rfl ?_
  refine g_getr (pc1 := 4) d_Reader_parse_1 rfl ⟨_, fo_Reader_12⟩ sh_3 (by decide) (rf_3_0 ld) ?_
  refine g_aload_n (pc1 := 5) d_Reader_parse_4 rfl 1 rfl ?_
  refine g_callV0 (pc1 := 8) (As := [.ref 1]) (rest := []) d_Reader_parse_5 rfl mo_Reader_29 mi_Tokens_cut mv_Tokens_cut rfl sh_4 (by decide) (by decide) rfl rfl (Nat.le_of_ble_eq_true rfl) ?_
  obtain ⟨M2, L3, hq1, h⟩ := bnd2 h
  refine f_Tokens_cut hld  hq1 ?_
  dsimp only [psh]
  refine g_aload_n (pc1 := 9) d_Reader_parse_8 rfl 2 rfl ?_
  refine g_callV0 (pc1 := 12) (As := []) (rest := []) d_Reader_parse_9 rfl mo_Reader_33 mi_Land_clear mv_Land_clear rfl (shLa_0 hLd2) (ltLa_0 hLd2) (by decide) rfl rfl (Nat.le_of_ble_eq_true rfl) ?_
  obtain ⟨M5, hq4, h⟩ := bnd h
  refine f_Land_clear hld hLd2 hq4 ?_
  dsimp only [psh]
  refine g_aload_n (pc1 := 13) d_Reader_parse_12 rfl 0 rfl ?_
  refine g_iconst (pc1 := 14) (v := 0) d_Reader_parse_13 rfl (by decide) ?_
  refine g_puti (pc1 := 17) d_Reader_parse_14 rfl fo_Reader_38 (po_2_1 _) sh_3 (by decide) ?_
  refine Wp.lM h (fun M6 h => ?_)
  refine g_aload_n (pc1 := 18) d_Reader_parse_17 rfl 0 rfl ?_
  refine g_iconst (pc1 := 19) (v := 0) d_Reader_parse_18 rfl (by decide) ?_
  refine g_puti (pc1 := 22) d_Reader_parse_19 rfl fo_Reader_42 (po_2_2 _) sh_3 (by decide) ?_
  refine Wp.lM h (fun M7 h => ?_)
  refine g_aload_n (pc1 := 23) d_Reader_parse_22 rfl 0 rfl ?_
  refine g_iconst (pc1 := 24) (v := 0) d_Reader_parse_23 rfl (by decide) ?_
  refine g_puti (pc1 := 27) d_Reader_parse_24 rfl fo_Reader_45 (po_2_4 _) sh_3 (by decide) ?_
  refine Wp.lM h (fun M8 h => ?_)
  refine g_aload_n (pc1 := 28) d_Reader_parse_27 rfl 0 rfl ?_
  refine g_iconst (pc1 := 29) (v := 0) d_Reader_parse_28 rfl (by decide) ?_
  refine g_puti (pc1 := 32) d_Reader_parse_29 rfl fo_Reader_48 (po_2_8 _) sh_3 (by decide) ?_
  refine Wp.lM h (fun M9 h => ?_)
  refine g_iconst (pc1 := 33) (v := 0) d_Reader_parse_32 rfl (by decide) ?_
  refine g_istore_n (pc1 := 34) (lv' := [(0, .ref 3), (1, .ref 1), (2, .ref Ld2), (3, .int 0)]) d_Reader_parse_33 rfl rfl (by decide) [1, 2, 3, 0] rfl ?_
  refine Wp.loc (lv' := [(0, .ref 3), (2, .ref Ld2), (3, .int 0)]) [0, 2, 3] rfl ?_
  exact h_Reader_parse_34 hld hLd2 hQ  _ 0 M9 L3 h

def J_State_cookOne_107 (X0 : Nat) (Ld1 : Nat) (v2 : Int32) (v3 : Int32) (M : gM) : Option (Int32 × gM) :=
  bI (F_Land_priceOf Ld1 v2 M) (fun r7 => nmM (uM M X0 1 ((M X0 1) + r7)) (fun M8 => nmM (uM M8 X0 3 v2) (fun M9 => nmM (uM M9 X0 2 ((M9 X0 2) + 1)) (fun M10 => bI (F_Main_at (X0 + 3) 5 v2 M10) (fun r12 => bI (F_Main_put (X0 + 3) 5 v2 (r12 + 1) M10) (fun M14 => some (v3, M14)))))))
set_option maxHeartbeats 4000000 in
set_option maxRecDepth 20000 in
theorem j_State_cookOne_107 {l : Launch} {ld : Nat} {Q : Option Value → gM → gL → gR → Prop} (hld : isLa ld) {X0 : Nat} {Ld1 : Nat} (hX0 : isSt X0) (hLd1 : isLa Ld1) {q : Int32 × gM} {M : gM} {L : gL} (hQ : Q (some (.int q.1)) q.2 L (rf ld))  {v2 : Int32} {v3 : Int32}  (h : J_State_cookOne_107 X0 Ld1 v2 v3 M = some q) : Wp l y_State_cookOne (0, 0, 447) 447 0 0 107 [(0, .ref X0), (1, .ref Ld1), (2, .int v2), (3, .int v3)] [] M L (rf ld) Q := by
  unfold J_State_cookOne_107 at h
  refine g_aload_n (pc1 := 108) d_State_cookOne_107 rfl 0 rfl ?_
  refine g_dup (pc1 := 109) d_State_cookOne_108 rfl rfl ?_
  refine g_geti (pc1 := 112) d_State_cookOne_109 rfl ⟨_, fo_State_37⟩ (shSt_0 hX0) (ltSt_0 hX0) ?_
  refine g_aload_n (pc1 := 113) d_State_cookOne_112 rfl 1 rfl ?_
  refine g_iload_n (pc1 := 114) d_State_cookOne_113 rfl 2 rfl ?_
  refine g_callV0 (pc1 := 117) (As := [.int v2]) (rest := [.int (M X0 1), .ref X0]) d_State_cookOne_114 rfl mo_State_87 mi_Land_priceOf mv_Land_priceOf rfl (shLa_0 hLd1) (ltLa_0 hLd1) (by decide) rfl rfl (Nat.le_of_ble_eq_true rfl) ?_
  obtain ⟨r7, hq6, h⟩ := bnd h
  refine f_Land_priceOf hld hLd1 hq6 ?_
  dsimp only [psh]
  refine g_iadd (pc1 := 118) d_State_cookOne_117 rfl ?_
  refine g_puti (pc1 := 121) d_State_cookOne_118 rfl fo_State_37 (po_6_1 _) (shSt_0 hX0) (ltSt_0 hX0) ?_
  refine Wp.lM h (fun M8 h => ?_)
  refine g_aload_n (pc1 := 122) d_State_cookOne_121 rfl 0 rfl ?_
  refine g_iload_n (pc1 := 123) d_State_cookOne_122 rfl 2 rfl ?_
  refine g_puti (pc1 := 126) d_State_cookOne_123 rfl fo_State_9 (po_6_3 _) (shSt_0 hX0) (ltSt_0 hX0) ?_
  refine Wp.lM h (fun M9 h => ?_)
  refine g_aload_n (pc1 := 127) d_State_cookOne_126 rfl 0 rfl ?_
  refine g_dup (pc1 := 128) d_State_cookOne_127 rfl rfl ?_
  refine g_geti (pc1 := 131) d_State_cookOne_128 rfl ⟨_, fo_State_40⟩ (shSt_0 hX0) (ltSt_0 hX0) ?_
  refine g_iconst (pc1 := 132) (v := 1) d_State_cookOne_131 rfl (by decide) ?_
  refine g_iadd (pc1 := 133) d_State_cookOne_132 rfl ?_
  refine g_puti (pc1 := 136) d_State_cookOne_133 rfl fo_State_40 (po_6_2 _) (shSt_0 hX0) (ltSt_0 hX0) ?_
  refine Wp.lM h (fun M10 h => ?_)
  refine g_aload_n (pc1 := 137) d_State_cookOne_136 rfl 0 rfl ?_
  refine g_getr (pc1 := 140) d_State_cookOne_137 rfl ⟨_, fo_State_22⟩ (shSt_0 hX0) (ltSt_0 hX0) (rfSt_6 ld hX0) ?_
  refine g_iload_n (pc1 := 141) d_State_cookOne_140 rfl 2 rfl ?_
  refine g_aload_n (pc1 := 142) d_State_cookOne_141 rfl 0 rfl ?_
  refine g_getr (pc1 := 145) d_State_cookOne_142 rfl ⟨_, fo_State_22⟩ (shSt_0 hX0) (ltSt_0 hX0) (rfSt_6 ld hX0) ?_
  refine g_iload_n (pc1 := 146) d_State_cookOne_145 rfl 2 rfl ?_
  refine g_callS0 (pc1 := 149) (As := [.ref (X0 + 3), .int v2]) (rest := [.int v2, .ref (X0 + 3)]) d_State_cookOne_146 rfl mo_State_53 ms_Main_at (by decide) rfl rfl (Nat.le_of_ble_eq_true rfl) ?_
  obtain ⟨r12, hq11, h⟩ := bnd h
  refine f_Main_at hld (shSt_3 hX0) (ltSt_3 hX0) (by decide) hq11 ?_
  dsimp only [psh]
  refine g_iconst (pc1 := 150) (v := 1) d_State_cookOne_149 rfl (by decide) ?_
  refine g_iadd (pc1 := 151) d_State_cookOne_150 rfl ?_
  refine g_callS0 (pc1 := 154) (As := [.ref (X0 + 3), .int v2, .int (r12 + 1)]) (rest := []) d_State_cookOne_151 rfl mo_State_57 ms_Main_put (by decide) rfl rfl (Nat.le_of_ble_eq_true rfl) ?_
  obtain ⟨M14, hq13, h⟩ := bnd h
  refine f_Main_put hld (shSt_3 hX0) (ltSt_3 hX0) (by decide) hq13 ?_
  dsimp only [psh]
  refine g_iload_n (pc1 := 155) d_State_cookOne_154 rfl 3 rfl ?_
  refine g_ireturn (Or.inl rfl) d_State_cookOne_155 rfl ?_
  cases h; exact hQ
def B_State_cookOne_74 (X0 : Nat) (Ld1 : Nat) (v2 : Int32) (v3 : Int32) (K74 : Int32 → gM → Option (Int32 × gM)) : Int32 → gM → Option (Int32 × gM) := fun v4 M =>
  (if 3 ≤ v4 then J_State_cookOne_107 X0 Ld1 v2 v3 M else bI2 (F_Land_dishForce Ld1 v2 v3 v4 (M X0 0) M) (fun r16 M17 => bI (F_Main_put (X0 + 1) 3 v4 r16 M17) (fun M19 => nmI (v4 + 1) (fun x20 => K74 x20 M19))))
def H_State_cookOne_74 (X0 : Nat) (Ld1 : Nat) (v2 : Int32) (v3 : Int32) : Nat → Int32 → gM → Option (Int32 × gM) := lpK (B_State_cookOne_74 X0 Ld1 v2 v3) (fun _ _ => none)
set_option maxHeartbeats 4000000 in
set_option maxRecDepth 20000 in
theorem h_State_cookOne_74 {l : Launch} {ld : Nat} {Q : Option Value → gM → gL → gR → Prop} (hld : isLa ld) {X0 : Nat} {Ld1 : Nat} (hX0 : isSt X0) (hLd1 : isLa Ld1) {q : Int32 × gM} {L : gL} (hQ : Q (some (.int q.1)) q.2 L (rf ld))  {v2 : Int32} {v3 : Int32}  : ∀ (f : Nat) (v4 : Int32) (M : gM), H_State_cookOne_74 X0 Ld1 v2 v3 f v4 M = some q → Wp l y_State_cookOne (0, 0, 447) 447 0 0 74 [(0, .ref X0), (1, .ref Ld1), (2, .int v2), (3, .int v3), (4, .int v4)] [] M L (rf ld) Q := by
  intro f
  induction f with
  | zero => intro v4 M h; cases h
  | succ f hK74 =>
    intro v4 M h
    replace h : B_State_cookOne_74 X0 Ld1 v2 v3 (H_State_cookOne_74 X0 Ld1 v2 v3 f) v4 M = some q := h
    unfold B_State_cookOne_74 at h
    refine g_iload (pc1 := 76) d_State_cookOne_74 rfl 4 rfl ?_
    refine g_iconst (pc1 := 77) (v := 3) d_State_cookOne_76 rfl (by decide) ?_
    refine g_icmp_ge (pc1 := 80) (tgt := 107) d_State_cookOne_77 (by decide) rfl (fun c5 => ?_) (fun c5 => ?_)
    · replace h := itp h c5
      refine Wp.loc (lv' := [(0, .ref X0), (1, .ref Ld1), (2, .int v2), (3, .int v3)]) [0, 1, 2, 3] rfl ?_
      exact j_State_cookOne_107 hld hX0 hLd1 hQ  h
    · replace h := itn h c5
      refine g_aload_n (pc1 := 81) d_State_cookOne_80 rfl 0 rfl ?_
      refine g_getr (pc1 := 84) d_State_cookOne_81 rfl ⟨_, fo_State_15⟩ (shSt_0 hX0) (ltSt_0 hX0) (rfSt_4 ld hX0) ?_
      refine g_iload (pc1 := 86) d_State_cookOne_84 rfl 4 rfl ?_
      refine g_aload_n (pc1 := 87) d_State_cookOne_86 rfl 1 rfl ?_
      refine g_iload_n (pc1 := 88) d_State_cookOne_87 rfl 2 rfl ?_
      refine g_iload_n (pc1 := 89) d_State_cookOne_88 rfl 3 rfl ?_
      refine g_iload (pc1 := 91) d_State_cookOne_89 rfl 4 rfl ?_
      refine g_aload_n (pc1 := 92) d_State_cookOne_91 rfl 0 rfl ?_
      refine g_geti (pc1 := 95) d_State_cookOne_92 rfl ⟨_, fo_State_34⟩ (shSt_0 hX0) (ltSt_0 hX0) ?_
      refine g_callV0 (pc1 := 98) (As := [.int v2, .int v3, .int v4, .int (M X0 0)]) (rest := [.int v4, .ref (X0 + 1)]) d_State_cookOne_95 rfl mo_State_83 mi_Land_dishForce mv_Land_dishForce rfl (shLa_0 hLd1) (ltLa_0 hLd1) (by decide) rfl rfl (Nat.le_of_ble_eq_true rfl) ?_
      obtain ⟨r16, M17, hq15, h⟩ := bnd2 h
      refine f_Land_dishForce hld hLd1 hq15 ?_
      dsimp only [psh]
      refine g_callS0 (pc1 := 101) (As := [.ref (X0 + 1), .int v4, .int r16]) (rest := []) d_State_cookOne_98 rfl mo_State_57 ms_Main_put (by decide) rfl rfl (Nat.le_of_ble_eq_true rfl) ?_
      obtain ⟨M19, hq18, h⟩ := bnd h
      refine f_Main_put hld (shSt_1 hX0) (ltSt_1 hX0) (by decide) hq18 ?_
      dsimp only [psh]
      obtain ⟨x20, ex20, h⟩ := ltI h
      refine g_iinc (pc1 := 104) (v := x20) (lv' := [(0, .ref X0), (1, .ref Ld1), (2, .int v2), (3, .int v3), (4, .int x20)]) d_State_cookOne_101 rfl 4 rfl (by rw [ex20]; rfl) (by decide) [1, 2, 3, 4, 0] rfl ?_
      refine g_goto (tgt := 74) d_State_cookOne_104 (by decide) ?_
      exact hK74 x20 M19 h
def J_State_cookOne_71 (X0 : Nat) (Ld1 : Nat) (v2 : Int32) (v3 : Int32) (M : gM) : Option (Int32 × gM) :=
  H_State_cookOne_74 X0 Ld1 v2 v3 FU 0 M
set_option maxHeartbeats 4000000 in
set_option maxRecDepth 20000 in
theorem j_State_cookOne_71 {l : Launch} {ld : Nat} {Q : Option Value → gM → gL → gR → Prop} (hld : isLa ld) {X0 : Nat} {Ld1 : Nat} (hX0 : isSt X0) (hLd1 : isLa Ld1) {q : Int32 × gM} {M : gM} {L : gL} (hQ : Q (some (.int q.1)) q.2 L (rf ld))  {v2 : Int32} {v3 : Int32}  (h : J_State_cookOne_71 X0 Ld1 v2 v3 M = some q) : Wp l y_State_cookOne (0, 0, 447) 447 0 0 71 [(0, .ref X0), (1, .ref Ld1), (2, .int v2), (3, .int v3)] [] M L (rf ld) Q := by
  unfold J_State_cookOne_71 at h
  refine g_iconst (pc1 := 72) (v := 0) d_State_cookOne_71 rfl (by decide) ?_
  refine g_istore (pc1 := 74) (lv' := [(0, .ref X0), (1, .ref Ld1), (2, .int v2), (3, .int v3), (4, .int 0)]) d_State_cookOne_72 rfl (by decide) [1, 2, 3, 4, 0] rfl ?_
  exact h_State_cookOne_74 hld hX0 hLd1 hQ  _ 0 M h
def J_State_cookOne_41 (X0 : Nat) (Ld1 : Nat) (K14 : Int32 → gM → Option (Int32 × gM)) (v2 : Int32) (v3 : Int32) (v4 : Int32) (s0 : Int32) (s1 : Int32) (M : gM) : Option (Int32 × gM) :=
  nmI (s0 + s1) (fun x24 => bI (F_Main_at (X0 + 2) 6 v4 M) (fun r26 => bI (F_Main_put (X0 + 2) 6 v4 (r26 - x24) M) (fun M28 => nmI (v4 + 1) (fun x29 => K14 x29 M28))))
set_option maxHeartbeats 4000000 in
set_option maxRecDepth 20000 in
theorem j_State_cookOne_41 {l : Launch} {ld : Nat} {Q : Option Value → gM → gL → gR → Prop} (hld : isLa ld) {X0 : Nat} {Ld1 : Nat} (hX0 : isSt X0) (hLd1 : isLa Ld1) {q : Int32 × gM} {M : gM} {L : gL} (hQ : Q (some (.int q.1)) q.2 L (rf ld)) {K14 : Int32 → gM → Option (Int32 × gM)} {v2 : Int32} {v3 : Int32} {v4 : Int32} {s0 : Int32} {s1 : Int32} (hK14 : ∀ (w4 : Int32) (M : gM), K14 w4 M = some q → Wp l y_State_cookOne (0, 0, 447) 447 0 0 14 [(0, .ref X0), (1, .ref Ld1), (2, .int v2), (3, .int v3), (4, .int w4)] [] M L (rf ld) Q) (h : J_State_cookOne_41 X0 Ld1 K14 v2 v3 v4 s0 s1 M = some q) : Wp l y_State_cookOne (0, 0, 447) 447 0 0 41 [(0, .ref X0), (1, .ref Ld1), (2, .int v2), (3, .int v3), (4, .int v4)] [.int s1, .int s0] M L (rf ld) Q := by
  unfold J_State_cookOne_41 at h
  refine g_iadd (pc1 := 42) d_State_cookOne_41 rfl ?_
  refine Wp.lI h (fun x24 h => ?_)
  refine g_istore (pc1 := 44) (lv' := [(0, .ref X0), (1, .ref Ld1), (2, .int v2), (3, .int v3), (4, .int v4), (5, .int x24)]) d_State_cookOne_42 rfl (by decide) [1, 2, 3, 4, 5, 0] rfl ?_
  refine g_aload_n (pc1 := 45) d_State_cookOne_44 rfl 0 rfl ?_
  refine g_getr (pc1 := 48) d_State_cookOne_45 rfl ⟨_, fo_State_19⟩ (shSt_0 hX0) (ltSt_0 hX0) (rfSt_5 ld hX0) ?_
  refine g_iload (pc1 := 50) d_State_cookOne_48 rfl 4 rfl ?_
  refine g_aload_n (pc1 := 51) d_State_cookOne_50 rfl 0 rfl ?_
  refine g_getr (pc1 := 54) d_State_cookOne_51 rfl ⟨_, fo_State_19⟩ (shSt_0 hX0) (ltSt_0 hX0) (rfSt_5 ld hX0) ?_
  refine g_iload (pc1 := 56) d_State_cookOne_54 rfl 4 rfl ?_
  refine g_callS0 (pc1 := 59) (As := [.ref (X0 + 2), .int v4]) (rest := [.int v4, .ref (X0 + 2)]) d_State_cookOne_56 rfl mo_State_53 ms_Main_at (by decide) rfl rfl (Nat.le_of_ble_eq_true rfl) ?_
  obtain ⟨r26, hq25, h⟩ := bnd h
  refine f_Main_at hld (shSt_2 hX0) (ltSt_2 hX0) (by decide) hq25 ?_
  dsimp only [psh]
  refine g_iload (pc1 := 61) d_State_cookOne_59 rfl 5 rfl ?_
  refine g_isub (pc1 := 62) d_State_cookOne_61 rfl ?_
  refine g_callS0 (pc1 := 65) (As := [.ref (X0 + 2), .int v4, .int (r26 - x24)]) (rest := []) d_State_cookOne_62 rfl mo_State_57 ms_Main_put (by decide) rfl rfl (Nat.le_of_ble_eq_true rfl) ?_
  obtain ⟨M28, hq27, h⟩ := bnd h
  refine f_Main_put hld (shSt_2 hX0) (ltSt_2 hX0) (by decide) hq27 ?_
  dsimp only [psh]
  obtain ⟨x29, ex29, h⟩ := ltI h
  refine g_iinc (pc1 := 68) (v := x29) (lv' := [(0, .ref X0), (1, .ref Ld1), (2, .int v2), (3, .int v3), (4, .int x29), (5, .int x24)]) d_State_cookOne_65 rfl 4 rfl (by rw [ex29]; rfl) (by decide) [1, 2, 3, 4, 0, 5] rfl ?_
  refine g_goto (tgt := 14) d_State_cookOne_68 (by decide) ?_
  refine Wp.loc (lv' := [(0, .ref X0), (1, .ref Ld1), (2, .int v2), (3, .int v3), (4, .int x29)]) [0, 1, 2, 3, 4] rfl ?_
  exact hK14 x29 M28 h
def B_State_cookOne_14 (X0 : Nat) (Ld1 : Nat) (v2 : Int32) (v3 : Int32) (K14 : Int32 → gM → Option (Int32 × gM)) : Int32 → gM → Option (Int32 × gM) := fun v4 M =>
  (if (M Ld1 0) ≤ v4 then J_State_cookOne_71 X0 Ld1 v2 v3 M else bI (F_Land_inDish Ld1 v2 v4 M) (fun r22 => (if v4 = v3 then J_State_cookOne_41 X0 Ld1 K14 v2 v3 v4 r22 1 M else J_State_cookOne_41 X0 Ld1 K14 v2 v3 v4 r22 0 M)))
def H_State_cookOne_14 (X0 : Nat) (Ld1 : Nat) (v2 : Int32) (v3 : Int32) : Nat → Int32 → gM → Option (Int32 × gM) := lpK (B_State_cookOne_14 X0 Ld1 v2 v3) (fun _ _ => none)
set_option maxHeartbeats 4000000 in
set_option maxRecDepth 20000 in
theorem h_State_cookOne_14 {l : Launch} {ld : Nat} {Q : Option Value → gM → gL → gR → Prop} (hld : isLa ld) {X0 : Nat} {Ld1 : Nat} (hX0 : isSt X0) (hLd1 : isLa Ld1) {q : Int32 × gM} {L : gL} (hQ : Q (some (.int q.1)) q.2 L (rf ld))  {v2 : Int32} {v3 : Int32}  : ∀ (f : Nat) (v4 : Int32) (M : gM), H_State_cookOne_14 X0 Ld1 v2 v3 f v4 M = some q → Wp l y_State_cookOne (0, 0, 447) 447 0 0 14 [(0, .ref X0), (1, .ref Ld1), (2, .int v2), (3, .int v3), (4, .int v4)] [] M L (rf ld) Q := by
  intro f
  induction f with
  | zero => intro v4 M h; cases h
  | succ f hK14 =>
    intro v4 M h
    replace h : B_State_cookOne_14 X0 Ld1 v2 v3 (H_State_cookOne_14 X0 Ld1 v2 v3 f) v4 M = some q := h
    unfold B_State_cookOne_14 at h
    refine g_iload (pc1 := 16) d_State_cookOne_14 rfl 4 rfl ?_
    refine g_aload_n (pc1 := 17) d_State_cookOne_16 rfl 1 rfl ?_
    refine g_geti (pc1 := 20) d_State_cookOne_17 rfl ⟨_, fo_State_47⟩ (shLa_0 hLd1) (ltLa_0 hLd1) ?_
    refine g_icmp_ge (pc1 := 23) (tgt := 71) d_State_cookOne_20 (by decide) rfl (fun c4 => ?_) (fun c4 => ?_)
    · replace h := itp h c4
      refine Wp.loc (lv' := [(0, .ref X0), (1, .ref Ld1), (2, .int v2), (3, .int v3)]) [0, 1, 2, 3] rfl ?_
      exact j_State_cookOne_71 hld hX0 hLd1 hQ  h
    · replace h := itn h c4
      refine g_aload_n (pc1 := 24) d_State_cookOne_23 rfl 1 rfl ?_
      refine g_iload_n (pc1 := 25) d_State_cookOne_24 rfl 2 rfl ?_
      refine g_iload (pc1 := 27) d_State_cookOne_25 rfl 4 rfl ?_
      refine g_callV0 (pc1 := 30) (As := [.int v2, .int v4]) (rest := []) d_State_cookOne_27 rfl mo_State_65 mi_Land_inDish mv_Land_inDish rfl (shLa_0 hLd1) (ltLa_0 hLd1) (by decide) rfl rfl (Nat.le_of_ble_eq_true rfl) ?_
      obtain ⟨r22, hq21, h⟩ := bnd h
      refine f_Land_inDish hld hLd1 hq21 ?_
      dsimp only [psh]
      refine g_iload (pc1 := 32) d_State_cookOne_30 rfl 4 rfl ?_
      refine g_iload_n (pc1 := 33) d_State_cookOne_32 rfl 3 rfl ?_
      refine g_icmp_ne (pc1 := 36) (tgt := 40) d_State_cookOne_33 (by decide) rfl (fun c23 => ?_) (fun c23 => ?_)
      · replace h := itn h c23
        refine g_iconst (pc1 := 41) (v := 0) d_State_cookOne_40 rfl (by decide) ?_
        exact j_State_cookOne_41 hld hX0 hLd1 hQ hK14 h
      · replace h := itp h c23
        refine g_iconst (pc1 := 37) (v := 1) d_State_cookOne_36 rfl (by decide) ?_
        refine g_goto (tgt := 41) d_State_cookOne_37 (by decide) ?_
        exact j_State_cookOne_41 hld hX0 hLd1 hQ hK14 h
def F_State_cookOne (X0 : Nat) (Ld1 : Nat) (p2 : Int32) (M : gM) : Option (Int32 × gM) :=
  bI2 (F_State_slipInto X0 Ld1 p2 (M Ld1 4) M) (fun r2 M3 => H_State_cookOne_14 X0 Ld1 p2 r2 FU 0 M3)
set_option maxHeartbeats 4000000 in
set_option maxRecDepth 20000 in
theorem f_State_cookOne {l : Launch} {ld : Nat} {M : gM} {L : gL} {Q : Option Value → gM → gL → gR → Prop} (hld : isLa ld) {X0 : Nat} {Ld1 : Nat} {p2 : Int32} (hX0 : isSt X0) (hLd1 : isLa Ld1) {q : Int32 × gM} (h : F_State_cookOne X0 Ld1 p2 M = some q) (hQ : Q (some (.int q.1)) q.2 L (rf ld)) : Tm l y_State_cookOne (0, 0, 447) 447 [.ref X0, .ref Ld1, .int p2] M L (rf ld) Q := by
  refine Tm.of (by decide) (Nat.le_of_ble_eq_true rfl) ?_
  show Wp l y_State_cookOne (0, 0, 447) 447 0 0 0 [(0, .ref X0), (1, .ref Ld1), (2, .int p2)] [] M L (rf ld) Q
  unfold F_State_cookOne at h
  refine g_aload_n (pc1 := 1) d_State_cookOne_0 rfl 0 rfl ?_
  refine g_aload_n (pc1 := 2) d_State_cookOne_1 rfl 1 rfl ?_
  refine g_iload_n (pc1 := 3) d_State_cookOne_2 rfl 2 rfl ?_
  refine g_aload_n (pc1 := 4) d_State_cookOne_3 rfl 1 rfl ?_
  refine g_geti (pc1 := 7) d_State_cookOne_4 rfl ⟨_, fo_State_76⟩ (shLa_0 hLd1) (ltLa_0 hLd1) ?_
  refine g_callV0 (pc1 := 10) (As := [.ref Ld1, .int p2, .int (M Ld1 4)]) (rest := []) d_State_cookOne_7 rfl mo_State_79 mi_State_slipInto mv_State_slipInto rfl (shSt_0 hX0) (ltSt_0 hX0) (by decide) rfl rfl (Nat.le_of_ble_eq_true rfl) ?_
  obtain ⟨r2, M3, hq1, h⟩ := bnd2 h
  refine f_State_slipInto hld hX0 hLd1 hq1 ?_
  dsimp only [psh]
  refine g_istore_n (pc1 := 11) (lv' := [(0, .ref X0), (1, .ref Ld1), (2, .int p2), (3, .int r2)]) d_State_cookOne_10 rfl rfl (by decide) [1, 2, 3, 0] rfl ?_
  refine g_iconst (pc1 := 12) (v := 0) d_State_cookOne_11 rfl (by decide) ?_
  refine g_istore (pc1 := 14) (lv' := [(0, .ref X0), (1, .ref Ld1), (2, .int p2), (3, .int r2), (4, .int 0)]) d_State_cookOne_12 rfl (by decide) [1, 2, 3, 4, 0] rfl ?_
  exact h_State_cookOne_14 hld hX0 hLd1 hQ  _ 0 M3 h

def J_Told_gather_65 (Ld1 : Nat) (K8 : Int32 → gM → Option (gM)) (v2 : Int32) (v3 : Int32) (v4 : Int32) (M : gM) : Option (gM) :=
  nmI (v4 + 1) (fun x4 => K8 x4 M)
set_option maxHeartbeats 4000000 in
set_option maxRecDepth 20000 in
theorem j_Told_gather_65 {l : Launch} {ld : Nat} {Q : Option Value → gM → gL → gR → Prop} (hld : isLa ld) {Ld1 : Nat} (hLd1 : isLa Ld1) {q : gM} {M : gM} {L : gL} (hQ : Q none q L (rf ld)) {K8 : Int32 → gM → Option (gM)} {v2 : Int32} {v3 : Int32} {v4 : Int32} (hK8 : ∀ (w4 : Int32) (M : gM), K8 w4 M = some q → Wp l y_Told_gather (0, 0, 447) 447 0 0 8 [(0, .ref 383), (1, .ref Ld1), (2, .int v2), (3, .int v3), (4, .int w4)] [] M L (rf ld) Q) (h : J_Told_gather_65 Ld1 K8 v2 v3 v4 M = some q) : Wp l y_Told_gather (0, 0, 447) 447 0 0 65 [(0, .ref 383), (1, .ref Ld1), (2, .int v2), (3, .int v3), (4, .int v4)] [] M L (rf ld) Q := by
  unfold J_Told_gather_65 at h
  obtain ⟨x4, ex4, h⟩ := ltI h
  refine g_iinc (pc1 := 68) (v := x4) (lv' := [(0, .ref 383), (1, .ref Ld1), (2, .int v2), (3, .int v3), (4, .int x4)]) d_Told_gather_65 rfl 4 rfl (by rw [ex4]; rfl) (by decide) [1, 2, 3, 4, 0] rfl ?_
  refine g_goto (tgt := 8) d_Told_gather_68 (by decide) ?_
  exact hK8 x4 M h
def J_Told_gather_59 (Ld1 : Nat) (K8 : Int32 → gM → Option (gM)) (K20 : Int32 → gM → Option (gM)) (v2 : Int32) (v3 : Int32) (v4 : Int32) (v5 : Int32) (M : gM) : Option (gM) :=
  nmI (v5 + 1) (fun x9 => K20 x9 M)
set_option maxHeartbeats 4000000 in
set_option maxRecDepth 20000 in
theorem j_Told_gather_59 {l : Launch} {ld : Nat} {Q : Option Value → gM → gL → gR → Prop} (hld : isLa ld) {Ld1 : Nat} (hLd1 : isLa Ld1) {q : gM} {M : gM} {L : gL} (hQ : Q none q L (rf ld)) {K8 : Int32 → gM → Option (gM)} {K20 : Int32 → gM → Option (gM)} {v2 : Int32} {v3 : Int32} {v4 : Int32} {v5 : Int32} (hK8 : ∀ (w4 : Int32) (M : gM), K8 w4 M = some q → Wp l y_Told_gather (0, 0, 447) 447 0 0 8 [(0, .ref 383), (1, .ref Ld1), (2, .int v2), (3, .int v3), (4, .int w4)] [] M L (rf ld) Q) (hK20 : ∀ (w5 : Int32) (M : gM), K20 w5 M = some q → Wp l y_Told_gather (0, 0, 447) 447 0 0 20 [(0, .ref 383), (1, .ref Ld1), (2, .int v2), (3, .int v3), (4, .int v4), (5, .int w5)] [] M L (rf ld) Q) (h : J_Told_gather_59 Ld1 K8 K20 v2 v3 v4 v5 M = some q) : Wp l y_Told_gather (0, 0, 447) 447 0 0 59 [(0, .ref 383), (1, .ref Ld1), (2, .int v2), (3, .int v3), (4, .int v4), (5, .int v5)] [] M L (rf ld) Q := by
  unfold J_Told_gather_59 at h
  obtain ⟨x9, ex9, h⟩ := ltI h
  refine g_iinc (pc1 := 62) (v := x9) (lv' := [(0, .ref 383), (1, .ref Ld1), (2, .int v2), (3, .int v3), (4, .int v4), (5, .int x9)]) d_Told_gather_59 rfl 5 rfl (by rw [ex9]; rfl) (by decide) [1, 2, 3, 4, 5, 0] rfl ?_
  refine g_goto (tgt := 20) d_Told_gather_62 (by decide) ?_
  exact hK20 x9 M h
def B_Told_gather_20 (Ld1 : Nat) (K8 : Int32 → gM → Option (gM)) (v2 : Int32) (v3 : Int32) (v4 : Int32) (K20 : Int32 → gM → Option (gM)) : Int32 → gM → Option (gM) := fun v5 M =>
  (if 13 ≤ v5 then J_Told_gather_65 Ld1 K8 v2 v3 v4 M else bI2 (F_Told_lay Ld1 v4 v5 M) (fun r6 M7 => (if r6 = 0 then J_Told_gather_59 Ld1 K8 K20 v2 v3 v4 v5 M7 else bI2 (F_Told_isAsKnown Ld1 v2 v3 M7) (fun r11 M12 => (if r11 = 0 then J_Told_gather_59 Ld1 K8 K20 v2 v3 v4 v5 M12 else nmM (uM M12 383 7 ((M12 383 7) + 1)) (fun M14 => J_Told_gather_59 Ld1 K8 K20 v2 v3 v4 v5 M14))))))
def H_Told_gather_20 (Ld1 : Nat) (K8 : Int32 → gM → Option (gM)) (v2 : Int32) (v3 : Int32) (v4 : Int32) : Nat → Int32 → gM → Option (gM) := lpK (B_Told_gather_20 Ld1 K8 v2 v3 v4) (fun _ _ => none)
set_option maxHeartbeats 4000000 in
set_option maxRecDepth 20000 in
theorem h_Told_gather_20 {l : Launch} {ld : Nat} {Q : Option Value → gM → gL → gR → Prop} (hld : isLa ld) {Ld1 : Nat} (hLd1 : isLa Ld1) {q : gM} {L : gL} (hQ : Q none q L (rf ld)) {K8 : Int32 → gM → Option (gM)} {v2 : Int32} {v3 : Int32} {v4 : Int32} (hK8 : ∀ (w4 : Int32) (M : gM), K8 w4 M = some q → Wp l y_Told_gather (0, 0, 447) 447 0 0 8 [(0, .ref 383), (1, .ref Ld1), (2, .int v2), (3, .int v3), (4, .int w4)] [] M L (rf ld) Q) : ∀ (f : Nat) (v5 : Int32) (M : gM), H_Told_gather_20 Ld1 K8 v2 v3 v4 f v5 M = some q → Wp l y_Told_gather (0, 0, 447) 447 0 0 20 [(0, .ref 383), (1, .ref Ld1), (2, .int v2), (3, .int v3), (4, .int v4), (5, .int v5)] [] M L (rf ld) Q := by
  intro f
  induction f with
  | zero => intro v5 M h; cases h
  | succ f hK20 =>
    intro v5 M h
    replace h : B_Told_gather_20 Ld1 K8 v2 v3 v4 (H_Told_gather_20 Ld1 K8 v2 v3 v4 f) v5 M = some q := h
    unfold B_Told_gather_20 at h
    refine g_iload (pc1 := 22) d_Told_gather_20 rfl 5 rfl ?_
    refine g_bipush (pc1 := 24) (v := 13) d_Told_gather_22 rfl (by decide) ?_
    refine g_icmp_ge (pc1 := 27) (tgt := 65) d_Told_gather_24 (by decide) rfl (fun c3 => ?_) (fun c3 => ?_)
    · replace h := itp h c3
      refine Wp.loc (lv' := [(0, .ref 383), (1, .ref Ld1), (2, .int v2), (3, .int v3), (4, .int v4)]) [0, 1, 2, 3, 4] rfl ?_
      exact j_Told_gather_65 hld hLd1 hQ hK8 h
    · replace h := itn h c3
      refine g_aload_n (pc1 := 28) d_Told_gather_27 rfl 0 rfl ?_
      refine g_aload_n (pc1 := 29) d_Told_gather_28 rfl 1 rfl ?_
      refine g_iload (pc1 := 31) d_Told_gather_29 rfl 4 rfl ?_
      refine g_iload (pc1 := 33) d_Told_gather_31 rfl 5 rfl ?_
      refine g_callV0 (pc1 := 36) (As := [.ref Ld1, .int v4, .int v5]) (rest := []) d_Told_gather_33 rfl mo_Told_49 mi_Told_lay mv_Told_lay rfl sh_383 (by decide) (by decide) rfl rfl (Nat.le_of_ble_eq_true rfl) ?_
      obtain ⟨r6, M7, hq5, h⟩ := bnd2 h
      refine f_Told_lay hld hLd1 hq5 ?_
      dsimp only [psh]
      refine g_if_eq (pc1 := 39) (tgt := 59) d_Told_gather_36 (by decide) rfl (fun c8 => ?_) (fun c8 => ?_)
      · replace h := itp h c8
        exact j_Told_gather_59 hld hLd1 hQ hK8 hK20 h
      · replace h := itn h c8
        refine g_aload_n (pc1 := 40) d_Told_gather_39 rfl 0 rfl ?_
        refine g_aload_n (pc1 := 41) d_Told_gather_40 rfl 1 rfl ?_
        refine g_iload_n (pc1 := 42) d_Told_gather_41 rfl 2 rfl ?_
        refine g_iload_n (pc1 := 43) d_Told_gather_42 rfl 3 rfl ?_
        refine g_callV0 (pc1 := 46) (As := [.ref Ld1, .int v2, .int v3]) (rest := []) d_Told_gather_43 rfl mo_Told_53 mi_Told_isAsKnown mv_Told_isAsKnown rfl sh_383 (by decide) (by decide) rfl rfl (Nat.le_of_ble_eq_true rfl) ?_
        obtain ⟨r11, M12, hq10, h⟩ := bnd2 h
        refine f_Told_isAsKnown hld hLd1 hq10 ?_
        dsimp only [psh]
        refine g_if_eq (pc1 := 49) (tgt := 59) d_Told_gather_46 (by decide) rfl (fun c13 => ?_) (fun c13 => ?_)
        · replace h := itp h c13
          exact j_Told_gather_59 hld hLd1 hQ hK8 hK20 h
        · replace h := itn h c13
          refine g_aload_n (pc1 := 50) d_Told_gather_49 rfl 0 rfl ?_
          refine g_dup (pc1 := 51) d_Told_gather_50 rfl rfl ?_
          refine g_geti (pc1 := 54) d_Told_gather_51 rfl ⟨_, fo_Told_41⟩ sh_383 (by decide) ?_
          refine g_iconst (pc1 := 55) (v := 1) d_Told_gather_54 rfl (by decide) ?_
          refine g_iadd (pc1 := 56) d_Told_gather_55 rfl ?_
          refine g_puti (pc1 := 59) d_Told_gather_56 rfl fo_Told_41 (po_9_7 _) sh_383 (by decide) ?_
          refine Wp.lM h (fun M14 h => ?_)
          exact j_Told_gather_59 hld hLd1 hQ hK8 hK20 h
def B_Told_gather_8 (Ld1 : Nat) (v2 : Int32) (v3 : Int32) (K8 : Int32 → gM → Option (gM)) : Int32 → gM → Option (gM) := fun v4 M =>
  (if (M Ld1 1) ≤ v4 then some M else H_Told_gather_20 Ld1 K8 v2 v3 v4 FU 0 M)
def H_Told_gather_8 (Ld1 : Nat) (v2 : Int32) (v3 : Int32) : Nat → Int32 → gM → Option (gM) := lpK (B_Told_gather_8 Ld1 v2 v3) (fun _ _ => none)
set_option maxHeartbeats 4000000 in
set_option maxRecDepth 20000 in
theorem h_Told_gather_8 {l : Launch} {ld : Nat} {Q : Option Value → gM → gL → gR → Prop} (hld : isLa ld) {Ld1 : Nat} (hLd1 : isLa Ld1) {q : gM} {L : gL} (hQ : Q none q L (rf ld))  {v2 : Int32} {v3 : Int32}  : ∀ (f : Nat) (v4 : Int32) (M : gM), H_Told_gather_8 Ld1 v2 v3 f v4 M = some q → Wp l y_Told_gather (0, 0, 447) 447 0 0 8 [(0, .ref 383), (1, .ref Ld1), (2, .int v2), (3, .int v3), (4, .int v4)] [] M L (rf ld) Q := by
  intro f
  induction f with
  | zero => intro v4 M h; cases h
  | succ f hK8 =>
    intro v4 M h
    replace h : B_Told_gather_8 Ld1 v2 v3 (H_Told_gather_8 Ld1 v2 v3 f) v4 M = some q := h
    unfold B_Told_gather_8 at h
    refine g_iload (pc1 := 10) d_Told_gather_8 rfl 4 rfl ?_
    refine g_aload_n (pc1 := 11) d_Told_gather_10 rfl 1 rfl ?_
    refine g_geti (pc1 := 14) d_Told_gather_11 rfl ⟨_, fo_Told_44⟩ (shLa_0 hLd1) (ltLa_0 hLd1) ?_
    refine g_icmp_ge (pc1 := 17) (tgt := 71) d_Told_gather_14 (by decide) rfl (fun c2 => ?_) (fun c2 => ?_)
    · replace h := itp h c2
      refine g_return rfl d_Told_gather_71 rfl ?_
      cases h; exact hQ
    · replace h := itn h c2
      refine g_iconst (pc1 := 18) (v := 0) d_Told_gather_17 rfl (by decide) ?_
      refine g_istore (pc1 := 20) (lv' := [(0, .ref 383), (1, .ref Ld1), (2, .int v2), (3, .int v3), (4, .int v4), (5, .int 0)]) d_Told_gather_18 rfl (by decide) [1, 2, 3, 4, 5, 0] rfl ?_
      exact h_Told_gather_20 hld hLd1 hQ hK8 _ 0 M h
def F_Told_gather (Ld1 : Nat) (p2 : Int32) (p3 : Int32) (M : gM) : Option (gM) :=
  nmM (uM M 383 7 0) (fun M1 => H_Told_gather_8 Ld1 p2 p3 FU 0 M1)
set_option maxHeartbeats 4000000 in
set_option maxRecDepth 20000 in
theorem f_Told_gather {l : Launch} {ld : Nat} {M : gM} {L : gL} {Q : Option Value → gM → gL → gR → Prop} (hld : isLa ld) {Ld1 : Nat} {p2 : Int32} {p3 : Int32} (hLd1 : isLa Ld1) {q : gM} (h : F_Told_gather Ld1 p2 p3 M = some q) (hQ : Q none q L (rf ld)) : Tm l y_Told_gather (0, 0, 447) 447 [.ref 383, .ref Ld1, .int p2, .int p3] M L (rf ld) Q := by
  refine Tm.of (by decide) (Nat.le_of_ble_eq_true rfl) ?_
  show Wp l y_Told_gather (0, 0, 447) 447 0 0 0 [(0, .ref 383), (1, .ref Ld1), (2, .int p2), (3, .int p3)] [] M L (rf ld) Q
  unfold F_Told_gather at h
  refine g_aload_n (pc1 := 1) d_Told_gather_0 rfl 0 rfl ?_
  refine g_iconst (pc1 := 2) (v := 0) d_Told_gather_1 rfl (by decide) ?_
  refine g_puti (pc1 := 5) d_Told_gather_2 rfl fo_Told_41 (po_9_7 _) sh_383 (by decide) ?_
  refine Wp.lM h (fun M1 h => ?_)
  refine g_iconst (pc1 := 6) (v := 0) d_Told_gather_5 rfl (by decide) ?_
  refine g_istore (pc1 := 8) (lv' := [(0, .ref 383), (1, .ref Ld1), (2, .int p2), (3, .int p3), (4, .int 0)]) d_Told_gather_6 rfl (by decide) [1, 2, 3, 4, 0] rfl ?_
  exact h_Told_gather_8 hld hLd1 hQ  _ 0 M1 h

def J_Told_nextTaste_74 (Ld1 : Nat) (K14 : Int32 → Int32 → Int32 → gM → Option (Int32 × gM)) (v2 : Int32) (v3 : Int32) (v4 : Int32) (v5 : Int32) (M : gM) : Option (Int32 × gM) :=
  nmI (v5 + 1) (fun x5 => K14 v3 v4 x5 M)
set_option maxHeartbeats 4000000 in
set_option maxRecDepth 20000 in
theorem j_Told_nextTaste_74 {l : Launch} {ld : Nat} {Q : Option Value → gM → gL → gR → Prop} (hld : isLa ld) {Ld1 : Nat} (hLd1 : isLa Ld1) {q : Int32 × gM} {M : gM} {L : gL} (hQ : Q (some (.int q.1)) q.2 L (rf ld)) {K14 : Int32 → Int32 → Int32 → gM → Option (Int32 × gM)} {v2 : Int32} {v3 : Int32} {v4 : Int32} {v5 : Int32} (hK14 : ∀ (w3 : Int32) (w4 : Int32) (w5 : Int32) (M : gM), K14 w3 w4 w5 M = some q → Wp l y_Told_nextTaste (0, 0, 447) 447 0 0 14 [(0, .ref 383), (1, .ref Ld1), (2, .int v2), (3, .int w3), (4, .int w4), (5, .int w5)] [] M L (rf ld) Q) (h : J_Told_nextTaste_74 Ld1 K14 v2 v3 v4 v5 M = some q) : Wp l y_Told_nextTaste (0, 0, 447) 447 0 0 74 [(0, .ref 383), (1, .ref Ld1), (2, .int v2), (3, .int v3), (4, .int v4), (5, .int v5)] [] M L (rf ld) Q := by
  unfold J_Told_nextTaste_74 at h
  obtain ⟨x5, ex5, h⟩ := ltI h
  refine g_iinc (pc1 := 77) (v := x5) (lv' := [(0, .ref 383), (1, .ref Ld1), (2, .int v2), (3, .int v3), (4, .int v4), (5, .int x5)]) d_Told_nextTaste_74 rfl 5 rfl (by rw [ex5]; rfl) (by decide) [1, 2, 3, 4, 5, 0] rfl ?_
  refine g_goto (tgt := 14) d_Told_nextTaste_77 (by decide) ?_
  exact hK14 v3 v4 x5 M h
def J_Told_nextTaste_68 (Ld1 : Nat) (K14 : Int32 → Int32 → Int32 → gM → Option (Int32 × gM)) (K30 : Int32 → Int32 → Int32 → gM → Option (Int32 × gM)) (v2 : Int32) (v3 : Int32) (v4 : Int32) (v5 : Int32) (v6 : Int32) (M : gM) : Option (Int32 × gM) :=
  nmI (v6 + 1) (fun x10 => K30 v3 v4 x10 M)
set_option maxHeartbeats 4000000 in
set_option maxRecDepth 20000 in
theorem j_Told_nextTaste_68 {l : Launch} {ld : Nat} {Q : Option Value → gM → gL → gR → Prop} (hld : isLa ld) {Ld1 : Nat} (hLd1 : isLa Ld1) {q : Int32 × gM} {M : gM} {L : gL} (hQ : Q (some (.int q.1)) q.2 L (rf ld)) {K14 : Int32 → Int32 → Int32 → gM → Option (Int32 × gM)} {K30 : Int32 → Int32 → Int32 → gM → Option (Int32 × gM)} {v2 : Int32} {v3 : Int32} {v4 : Int32} {v5 : Int32} {v6 : Int32} (hK14 : ∀ (w3 : Int32) (w4 : Int32) (w5 : Int32) (M : gM), K14 w3 w4 w5 M = some q → Wp l y_Told_nextTaste (0, 0, 447) 447 0 0 14 [(0, .ref 383), (1, .ref Ld1), (2, .int v2), (3, .int w3), (4, .int w4), (5, .int w5)] [] M L (rf ld) Q) (hK30 : ∀ (w3 : Int32) (w4 : Int32) (w6 : Int32) (M : gM), K30 w3 w4 w6 M = some q → Wp l y_Told_nextTaste (0, 0, 447) 447 0 0 30 [(0, .ref 383), (1, .ref Ld1), (2, .int v2), (3, .int w3), (4, .int w4), (5, .int v5), (6, .int w6)] [] M L (rf ld) Q) (h : J_Told_nextTaste_68 Ld1 K14 K30 v2 v3 v4 v5 v6 M = some q) : Wp l y_Told_nextTaste (0, 0, 447) 447 0 0 68 [(0, .ref 383), (1, .ref Ld1), (2, .int v2), (3, .int v3), (4, .int v4), (5, .int v5), (6, .int v6)] [] M L (rf ld) Q := by
  unfold J_Told_nextTaste_68 at h
  obtain ⟨x10, ex10, h⟩ := ltI h
  refine g_iinc (pc1 := 71) (v := x10) (lv' := [(0, .ref 383), (1, .ref Ld1), (2, .int v2), (3, .int v3), (4, .int v4), (5, .int v5), (6, .int x10)]) d_Told_nextTaste_68 rfl 6 rfl (by rw [ex10]; rfl) (by decide) [1, 2, 3, 4, 5, 6, 0] rfl ?_
  refine g_goto (tgt := 30) d_Told_nextTaste_71 (by decide) ?_
  exact hK30 v3 v4 x10 M h
def B_Told_nextTaste_30 (Ld1 : Nat) (K14 : Int32 → Int32 → Int32 → gM → Option (Int32 × gM)) (v2 : Int32) (v5 : Int32) (K30 : Int32 → Int32 → Int32 → gM → Option (Int32 × gM)) : Int32 → Int32 → Int32 → gM → Option (Int32 × gM) := fun v3 v4 v6 M =>
  (if 10 ≤ v6 then J_Told_nextTaste_74 Ld1 K14 v2 v3 v4 v5 M else bI2 (F_Told_mostAlike Ld1 v2 v5 v6 M) (fun r7 M8 => (if v3 ≤ r7 then J_Told_nextTaste_68 Ld1 K14 K30 v2 v3 v4 v5 v6 M8 else nmI ((10 * v5) + v6) (fun x11 => J_Told_nextTaste_68 Ld1 K14 K30 v2 r7 x11 v5 v6 M8))))
def H_Told_nextTaste_30 (Ld1 : Nat) (K14 : Int32 → Int32 → Int32 → gM → Option (Int32 × gM)) (v2 : Int32) (v5 : Int32) : Nat → Int32 → Int32 → Int32 → gM → Option (Int32 × gM) := lpK (B_Told_nextTaste_30 Ld1 K14 v2 v5) (fun _ _ _ _ => none)
set_option maxHeartbeats 4000000 in
set_option maxRecDepth 20000 in
theorem h_Told_nextTaste_30 {l : Launch} {ld : Nat} {Q : Option Value → gM → gL → gR → Prop} (hld : isLa ld) {Ld1 : Nat} (hLd1 : isLa Ld1) {q : Int32 × gM} {L : gL} (hQ : Q (some (.int q.1)) q.2 L (rf ld)) {K14 : Int32 → Int32 → Int32 → gM → Option (Int32 × gM)} {v2 : Int32} {v5 : Int32} (hK14 : ∀ (w3 : Int32) (w4 : Int32) (w5 : Int32) (M : gM), K14 w3 w4 w5 M = some q → Wp l y_Told_nextTaste (0, 0, 447) 447 0 0 14 [(0, .ref 383), (1, .ref Ld1), (2, .int v2), (3, .int w3), (4, .int w4), (5, .int w5)] [] M L (rf ld) Q) : ∀ (f : Nat) (v3 : Int32) (v4 : Int32) (v6 : Int32) (M : gM), H_Told_nextTaste_30 Ld1 K14 v2 v5 f v3 v4 v6 M = some q → Wp l y_Told_nextTaste (0, 0, 447) 447 0 0 30 [(0, .ref 383), (1, .ref Ld1), (2, .int v2), (3, .int v3), (4, .int v4), (5, .int v5), (6, .int v6)] [] M L (rf ld) Q := by
  intro f
  induction f with
  | zero => intro v3 v4 v6 M h; cases h
  | succ f hK30 =>
    intro v3 v4 v6 M h
    replace h : B_Told_nextTaste_30 Ld1 K14 v2 v5 (H_Told_nextTaste_30 Ld1 K14 v2 v5 f) v3 v4 v6 M = some q := h
    unfold B_Told_nextTaste_30 at h
    refine g_iload (pc1 := 32) d_Told_nextTaste_30 rfl 6 rfl ?_
    refine g_bipush (pc1 := 34) (v := 10) d_Told_nextTaste_32 rfl (by decide) ?_
    refine g_icmp_ge (pc1 := 37) (tgt := 74) d_Told_nextTaste_34 (by decide) rfl (fun c4 => ?_) (fun c4 => ?_)
    · replace h := itp h c4
      refine Wp.loc (lv' := [(0, .ref 383), (1, .ref Ld1), (2, .int v2), (3, .int v3), (4, .int v4), (5, .int v5)]) [0, 1, 2, 3, 4, 5] rfl ?_
      exact j_Told_nextTaste_74 hld hLd1 hQ hK14 h
    · replace h := itn h c4
      refine g_aload_n (pc1 := 38) d_Told_nextTaste_37 rfl 0 rfl ?_
      refine g_aload_n (pc1 := 39) d_Told_nextTaste_38 rfl 1 rfl ?_
      refine g_iload_n (pc1 := 40) d_Told_nextTaste_39 rfl 2 rfl ?_
      refine g_iload (pc1 := 42) d_Told_nextTaste_40 rfl 5 rfl ?_
      refine g_iload (pc1 := 44) d_Told_nextTaste_42 rfl 6 rfl ?_
      refine g_callV0 (pc1 := 47) (As := [.ref Ld1, .int v2, .int v5, .int v6]) (rest := []) d_Told_nextTaste_44 rfl mo_Told_85 mi_Told_mostAlike mv_Told_mostAlike rfl sh_383 (by decide) (by decide) rfl rfl (Nat.le_of_ble_eq_true rfl) ?_
      obtain ⟨r7, M8, hq6, h⟩ := bnd2 h
      refine f_Told_mostAlike hld hLd1 hq6 ?_
      dsimp only [psh]
      refine g_istore (pc1 := 49) (lv' := [(0, .ref 383), (1, .ref Ld1), (2, .int v2), (3, .int v3), (4, .int v4), (5, .int v5), (6, .int v6), (7, .int r7)]) d_Told_nextTaste_47 rfl (by decide) [1, 2, 3, 4, 5, 6, 7, 0] rfl ?_
      refine g_iload (pc1 := 51) d_Told_nextTaste_49 rfl 7 rfl ?_
      refine g_iload_n (pc1 := 52) d_Told_nextTaste_51 rfl 3 rfl ?_
      refine g_icmp_ge (pc1 := 55) (tgt := 68) d_Told_nextTaste_52 (by decide) rfl (fun c9 => ?_) (fun c9 => ?_)
      · replace h := itp h c9
        refine Wp.loc (lv' := [(0, .ref 383), (1, .ref Ld1), (2, .int v2), (3, .int v3), (4, .int v4), (5, .int v5), (6, .int v6)]) [0, 1, 2, 3, 4, 5, 6] rfl ?_
        exact j_Told_nextTaste_68 hld hLd1 hQ hK14 hK30 h
      · replace h := itn h c9
        refine g_iload (pc1 := 57) d_Told_nextTaste_55 rfl 7 rfl ?_
        refine g_istore_n (pc1 := 58) (lv' := [(0, .ref 383), (1, .ref Ld1), (2, .int v2), (3, .int r7), (4, .int v4), (5, .int v5), (6, .int v6), (7, .int r7)]) d_Told_nextTaste_57 rfl rfl (by decide) [1, 2, 3, 0, 4, 5, 6, 7] rfl ?_
        refine g_bipush (pc1 := 60) (v := 10) d_Told_nextTaste_58 rfl (by decide) ?_
        refine g_iload (pc1 := 62) d_Told_nextTaste_60 rfl 5 rfl ?_
        refine g_imul (pc1 := 63) d_Told_nextTaste_62 rfl ?_
        refine g_iload (pc1 := 65) d_Told_nextTaste_63 rfl 6 rfl ?_
        refine g_iadd (pc1 := 66) d_Told_nextTaste_65 rfl ?_
        refine Wp.lI h (fun x11 h => ?_)
        refine g_istore (pc1 := 68) (lv' := [(0, .ref 383), (1, .ref Ld1), (2, .int v2), (3, .int r7), (4, .int x11), (5, .int v5), (6, .int v6), (7, .int r7)]) d_Told_nextTaste_66 rfl (by decide) [1, 2, 3, 4, 0, 5, 6, 7] rfl ?_
        refine Wp.loc (lv' := [(0, .ref 383), (1, .ref Ld1), (2, .int v2), (3, .int r7), (4, .int x11), (5, .int v5), (6, .int v6)]) [0, 1, 2, 3, 4, 5, 6] rfl ?_
        exact j_Told_nextTaste_68 hld hLd1 hQ hK14 hK30 h
def B_Told_nextTaste_14 (Ld1 : Nat) (v2 : Int32) (K14 : Int32 → Int32 → Int32 → gM → Option (Int32 × gM)) : Int32 → Int32 → Int32 → gM → Option (Int32 × gM) := fun v3 v4 v5 M =>
  (if (M 383 7) ≤ 0 then some (v4, M) else (if 3 ≤ v5 then some (v4, M) else H_Told_nextTaste_30 Ld1 K14 v2 v5 FU v3 v4 0 M))
def H_Told_nextTaste_14 (Ld1 : Nat) (v2 : Int32) : Nat → Int32 → Int32 → Int32 → gM → Option (Int32 × gM) := lpK (B_Told_nextTaste_14 Ld1 v2) (fun _ _ _ _ => none)
set_option maxHeartbeats 4000000 in
set_option maxRecDepth 20000 in
theorem h_Told_nextTaste_14 {l : Launch} {ld : Nat} {Q : Option Value → gM → gL → gR → Prop} (hld : isLa ld) {Ld1 : Nat} (hLd1 : isLa Ld1) {q : Int32 × gM} {L : gL} (hQ : Q (some (.int q.1)) q.2 L (rf ld))  {v2 : Int32}  : ∀ (f : Nat) (v3 : Int32) (v4 : Int32) (v5 : Int32) (M : gM), H_Told_nextTaste_14 Ld1 v2 f v3 v4 v5 M = some q → Wp l y_Told_nextTaste (0, 0, 447) 447 0 0 14 [(0, .ref 383), (1, .ref Ld1), (2, .int v2), (3, .int v3), (4, .int v4), (5, .int v5)] [] M L (rf ld) Q := by
  intro f
  induction f with
  | zero => intro v3 v4 v5 M h; cases h
  | succ f hK14 =>
    intro v3 v4 v5 M h
    replace h : B_Told_nextTaste_14 Ld1 v2 (H_Told_nextTaste_14 Ld1 v2 f) v3 v4 v5 M = some q := h
    unfold B_Told_nextTaste_14 at h
    refine g_aload_n (pc1 := 15) d_Told_nextTaste_14 rfl 0 rfl ?_
    refine g_geti (pc1 := 18) d_Told_nextTaste_15 rfl ⟨_, fo_Told_41⟩ sh_383 (by decide) ?_
    refine g_if_le (pc1 := 21) (tgt := 80) d_Told_nextTaste_18 (by decide) rfl (fun c2 => ?_) (fun c2 => ?_)
    · replace h := itp h c2
      refine g_iload (pc1 := 82) d_Told_nextTaste_80 rfl 4 rfl ?_
      refine g_ireturn (Or.inl rfl) d_Told_nextTaste_82 rfl ?_
      cases h; exact hQ
    · replace h := itn h c2
      refine g_iload (pc1 := 23) d_Told_nextTaste_21 rfl 5 rfl ?_
      refine g_iconst (pc1 := 24) (v := 3) d_Told_nextTaste_23 rfl (by decide) ?_
      refine g_icmp_ge (pc1 := 27) (tgt := 80) d_Told_nextTaste_24 (by decide) rfl (fun c3 => ?_) (fun c3 => ?_)
      · replace h := itp h c3
        refine g_iload (pc1 := 82) d_Told_nextTaste_80 rfl 4 rfl ?_
        refine g_ireturn (Or.inl rfl) d_Told_nextTaste_82 rfl ?_
        cases h; exact hQ
      · replace h := itn h c3
        refine g_iconst (pc1 := 28) (v := 0) d_Told_nextTaste_27 rfl (by decide) ?_
        refine g_istore (pc1 := 30) (lv' := [(0, .ref 383), (1, .ref Ld1), (2, .int v2), (3, .int v3), (4, .int v4), (5, .int v5), (6, .int 0)]) d_Told_nextTaste_28 rfl (by decide) [1, 2, 3, 4, 5, 6, 0] rfl ?_
        exact h_Told_nextTaste_30 hld hLd1 hQ hK14 _ v3 v4 0 M h
def F_Told_nextTaste (Ld1 : Nat) (p2 : Int32) (M : gM) : Option (Int32 × gM) :=
  nmI ((M 383 7) + 1) (fun x1 => H_Told_nextTaste_14 Ld1 p2 FU x1 (-2) 0 M)
set_option maxHeartbeats 4000000 in
set_option maxRecDepth 20000 in
theorem f_Told_nextTaste {l : Launch} {ld : Nat} {M : gM} {L : gL} {Q : Option Value → gM → gL → gR → Prop} (hld : isLa ld) {Ld1 : Nat} {p2 : Int32} (hLd1 : isLa Ld1) {q : Int32 × gM} (h : F_Told_nextTaste Ld1 p2 M = some q) (hQ : Q (some (.int q.1)) q.2 L (rf ld)) : Tm l y_Told_nextTaste (0, 0, 447) 447 [.ref 383, .ref Ld1, .int p2] M L (rf ld) Q := by
  refine Tm.of (by decide) (Nat.le_of_ble_eq_true rfl) ?_
  show Wp l y_Told_nextTaste (0, 0, 447) 447 0 0 0 [(0, .ref 383), (1, .ref Ld1), (2, .int p2)] [] M L (rf ld) Q
  unfold F_Told_nextTaste at h
  refine g_aload_n (pc1 := 1) d_Told_nextTaste_0 rfl 0 rfl ?_
  refine g_geti (pc1 := 4) d_Told_nextTaste_1 rfl ⟨_, fo_Told_41⟩ sh_383 (by decide) ?_
  refine g_iconst (pc1 := 5) (v := 1) d_Told_nextTaste_4 rfl (by decide) ?_
  refine g_iadd (pc1 := 6) d_Told_nextTaste_5 rfl ?_
  refine Wp.lI h (fun x1 h => ?_)
  refine g_istore_n (pc1 := 7) (lv' := [(0, .ref 383), (1, .ref Ld1), (2, .int p2), (3, .int x1)]) d_Told_nextTaste_6 rfl rfl (by decide) [1, 2, 3, 0] rfl ?_
  refine g_bipush (pc1 := 9) (v := (-2)) d_Told_nextTaste_7 rfl (by decide) ?_
  refine g_istore (pc1 := 11) (lv' := [(0, .ref 383), (1, .ref Ld1), (2, .int p2), (3, .int x1), (4, .int (-2))]) d_Told_nextTaste_9 rfl (by decide) [1, 2, 3, 4, 0] rfl ?_
  refine g_iconst (pc1 := 12) (v := 0) d_Told_nextTaste_11 rfl (by decide) ?_
  refine g_istore (pc1 := 14) (lv' := [(0, .ref 383), (1, .ref Ld1), (2, .int p2), (3, .int x1), (4, .int (-2)), (5, .int 0)]) d_Told_nextTaste_12 rfl (by decide) [1, 2, 3, 4, 5, 0] rfl ?_
  exact h_Told_nextTaste_14 hld hLd1 hQ  _ x1 (-2) 0 M h

def F_Main_blame (ld : Nat) (p1 : Int32) (M : gM) : Option (Int32 × gM) :=
  bI (F_Main_isOne p1 ((M 383 3) + 1)) (fun r2 => (if r2 = 0 then some ((-1), M) else bI (F_Told_gather ld (M 64 0) p1 M) (fun M5 => some ((M5 383 7), M5))))
set_option maxHeartbeats 4000000 in
set_option maxRecDepth 20000 in
theorem f_Main_blame {l : Launch} {ld : Nat} {M : gM} {L : gL} {Q : Option Value → gM → gL → gR → Prop} (hld : isLa ld) {p1 : Int32}  {q : Int32 × gM} (h : F_Main_blame ld p1 M = some q) (hQ : Q (some (.int q.1)) q.2 L (rf ld)) : Tm l y_Main_blame (0, 0, 447) 447 [.ref 0, .int p1] M L (rf ld) Q := by
  refine Tm.of (by decide) (Nat.le_of_ble_eq_true rfl) ?_
  show Wp l y_Main_blame (0, 0, 447) 447 0 0 0 [(0, .ref 0), (1, .int p1)] [] M L (rf ld) Q
  unfold F_Main_blame at h
  refine g_iload_n (pc1 := 1) d_Main_blame_0 rfl 1 rfl ?_
  refine g_aload_n (pc1 := 2) d_Main_blame_1 rfl 0 rfl ?_
  refine g_getr (pc1 := 5) d_Main_blame_2 rfl ⟨_, fo_Main_60⟩ sh_0 (by decide) (rf_0_8 ld) ?_
  refine g_geti (pc1 := 8) d_Main_blame_5 rfl ⟨_, fo_Main_275⟩ sh_383 (by decide) ?_
  refine g_iconst (pc1 := 9) (v := 1) d_Main_blame_8 rfl (by decide) ?_
  refine g_iadd (pc1 := 10) d_Main_blame_9 rfl ?_
  refine g_callS0 (pc1 := 13) (As := [.int p1, .int ((M 383 3) + 1)]) (rest := []) d_Main_blame_10 rfl mo_Main_112 ms_Main_isOne (by decide) rfl rfl (Nat.le_of_ble_eq_true rfl) ?_
  obtain ⟨r2, hq1, h⟩ := bnd h
  refine f_Main_isOne hld  hq1 ?_
  dsimp only [psh]
  refine g_if_ne (pc1 := 16) (tgt := 18) d_Main_blame_13 (by decide) rfl (fun c3 => ?_) (fun c3 => ?_)
  · replace h := itn h c3
    refine g_aload_n (pc1 := 19) d_Main_blame_18 rfl 0 rfl ?_
    refine g_getr (pc1 := 22) d_Main_blame_19 rfl ⟨_, fo_Main_60⟩ sh_0 (by decide) (rf_0_8 ld) ?_
    refine g_aload_n (pc1 := 23) d_Main_blame_22 rfl 0 rfl ?_
    refine g_getr (pc1 := 26) d_Main_blame_23 rfl ⟨_, fo_Main_26⟩ sh_0 (by decide) (rf_0_2 ld) ?_
    refine g_aload_n (pc1 := 27) d_Main_blame_26 rfl 0 rfl ?_
    refine g_getr (pc1 := 30) d_Main_blame_27 rfl ⟨_, fo_Main_36⟩ sh_0 (by decide) (rf_0_4 ld) ?_
    refine g_geti (pc1 := 33) d_Main_blame_30 rfl ⟨_, fo_Main_144⟩ (shSt_0 isSt_64) (ltSt_0 isSt_64) ?_
    refine g_iload_n (pc1 := 34) d_Main_blame_33 rfl 1 rfl ?_
    refine g_callV0 (pc1 := 37) (As := [.ref ld, .int (M 64 0), .int p1]) (rest := []) d_Main_blame_34 rfl mo_Main_278 mi_Told_gather mv_Told_gather rfl sh_383 (by decide) (by decide) rfl rfl (Nat.le_of_ble_eq_true rfl) ?_
    obtain ⟨M5, hq4, h⟩ := bnd h
    refine f_Told_gather hld hld hq4 ?_
    dsimp only [psh]
    refine g_aload_n (pc1 := 38) d_Main_blame_37 rfl 0 rfl ?_
    refine g_getr (pc1 := 41) d_Main_blame_38 rfl ⟨_, fo_Main_60⟩ sh_0 (by decide) (rf_0_8 ld) ?_
    refine g_geti (pc1 := 44) d_Main_blame_41 rfl ⟨_, fo_Main_282⟩ sh_383 (by decide) ?_
    refine g_ireturn (Or.inl rfl) d_Main_blame_44 rfl ?_
    cases h; exact hQ
  · replace h := itp h c3
    refine g_iconst (pc1 := 17) (v := (-1)) d_Main_blame_16 rfl (by decide) ?_
    refine g_ireturn (Or.inl rfl) d_Main_blame_17 rfl ?_
    cases h; exact hQ

def F_Main_cook (ld : Nat) (p1 : Int32) (M : gM) : Option (Int32 × gM) :=
  bI (F_Main_isOne p1 (M ld 1)) (fun r2 => (if r2 = 0 then some ((-1), M) else bI (F_State_inStore 64 ld p1 M) (fun r5 => (if r5 = 0 then some ((-3), M) else bI (F_Past_keep 64 M) (fun M8 => bI2 (F_State_cookOne 64 ld p1 M8) (fun r10 M11 => some (r10, M11)))))))
set_option maxHeartbeats 4000000 in
set_option maxRecDepth 20000 in
theorem f_Main_cook {l : Launch} {ld : Nat} {M : gM} {L : gL} {Q : Option Value → gM → gL → gR → Prop} (hld : isLa ld) {p1 : Int32}  {q : Int32 × gM} (h : F_Main_cook ld p1 M = some q) (hQ : Q (some (.int q.1)) q.2 L (rf ld)) : Tm l y_Main_cook (0, 0, 447) 447 [.ref 0, .int p1] M L (rf ld) Q := by
  refine Tm.of (by decide) (Nat.le_of_ble_eq_true rfl) ?_
  show Wp l y_Main_cook (0, 0, 447) 447 0 0 0 [(0, .ref 0), (1, .int p1)] [] M L (rf ld) Q
  unfold F_Main_cook at h
  refine g_iload_n (pc1 := 1) d_Main_cook_0 rfl 1 rfl ?_
  refine g_aload_n (pc1 := 2) d_Main_cook_1 rfl 0 rfl ?_
  refine g_getr (pc1 := 5) d_Main_cook_2 rfl ⟨_, fo_Main_26⟩ sh_0 (by decide) (rf_0_2 ld) ?_
  refine g_geti (pc1 := 8) d_Main_cook_5 rfl ⟨_, fo_Main_131⟩ (shLa_0 hld) (ltLa_0 hld) ?_
  refine g_callS0 (pc1 := 11) (As := [.int p1, .int (M ld 1)]) (rest := []) d_Main_cook_8 rfl mo_Main_112 ms_Main_isOne (by decide) rfl rfl (Nat.le_of_ble_eq_true rfl) ?_
  obtain ⟨r2, hq1, h⟩ := bnd h
  refine f_Main_isOne hld  hq1 ?_
  dsimp only [psh]
  refine g_if_ne (pc1 := 14) (tgt := 16) d_Main_cook_11 (by decide) rfl (fun c3 => ?_) (fun c3 => ?_)
  · replace h := itn h c3
    refine g_aload_n (pc1 := 17) d_Main_cook_16 rfl 0 rfl ?_
    refine g_getr (pc1 := 20) d_Main_cook_17 rfl ⟨_, fo_Main_36⟩ sh_0 (by decide) (rf_0_4 ld) ?_
    refine g_aload_n (pc1 := 21) d_Main_cook_20 rfl 0 rfl ?_
    refine g_getr (pc1 := 24) d_Main_cook_21 rfl ⟨_, fo_Main_26⟩ sh_0 (by decide) (rf_0_2 ld) ?_
    refine g_iload_n (pc1 := 25) d_Main_cook_24 rfl 1 rfl ?_
    refine g_callV0 (pc1 := 28) (As := [.ref ld, .int p1]) (rest := []) d_Main_cook_25 rfl mo_Main_196 mi_State_inStore mv_State_inStore rfl (shSt_0 isSt_64) (ltSt_0 isSt_64) (by decide) rfl rfl (Nat.le_of_ble_eq_true rfl) ?_
    obtain ⟨r5, hq4, h⟩ := bnd h
    refine f_State_inStore hld isSt_64 hld hq4 ?_
    dsimp only [psh]
    refine g_if_ne (pc1 := 31) (tgt := 34) d_Main_cook_28 (by decide) rfl (fun c6 => ?_) (fun c6 => ?_)
    · replace h := itn h c6
      refine g_aload_n (pc1 := 35) d_Main_cook_34 rfl 0 rfl ?_
      refine g_getr (pc1 := 38) d_Main_cook_35 rfl ⟨_, fo_Main_46⟩ sh_0 (by decide) (rf_0_6 ld) ?_
      refine g_aload_n (pc1 := 39) d_Main_cook_38 rfl 0 rfl ?_
      refine g_getr (pc1 := 42) d_Main_cook_39 rfl ⟨_, fo_Main_36⟩ sh_0 (by decide) (rf_0_4 ld) ?_
      refine g_callV0 (pc1 := 45) (As := [.ref 64]) (rest := []) d_Main_cook_42 rfl mo_Main_200 mi_Past_keep mv_Past_keep rfl sh_78 (by decide) (by decide) rfl rfl (Nat.le_of_ble_eq_true rfl) ?_
      obtain ⟨M8, hq7, h⟩ := bnd h
      refine f_Past_keep hld isSt_64 hq7 ?_
      dsimp only [psh]
      refine g_aload_n (pc1 := 46) d_Main_cook_45 rfl 0 rfl ?_
      refine g_getr (pc1 := 49) d_Main_cook_46 rfl ⟨_, fo_Main_36⟩ sh_0 (by decide) (rf_0_4 ld) ?_
      refine g_aload_n (pc1 := 50) d_Main_cook_49 rfl 0 rfl ?_
      refine g_getr (pc1 := 53) d_Main_cook_50 rfl ⟨_, fo_Main_26⟩ sh_0 (by decide) (rf_0_2 ld) ?_
      refine g_iload_n (pc1 := 54) d_Main_cook_53 rfl 1 rfl ?_
      refine g_callV0 (pc1 := 57) (As := [.ref ld, .int p1]) (rest := []) d_Main_cook_54 rfl mo_Main_204 mi_State_cookOne mv_State_cookOne rfl (shSt_0 isSt_64) (ltSt_0 isSt_64) (by decide) rfl rfl (Nat.le_of_ble_eq_true rfl) ?_
      obtain ⟨r10, M11, hq9, h⟩ := bnd2 h
      refine f_State_cookOne hld isSt_64 hld hq9 ?_
      dsimp only [psh]
      refine g_ireturn (Or.inl rfl) d_Main_cook_57 rfl ?_
      cases h; exact hQ
    · replace h := itp h c6
      refine g_bipush (pc1 := 33) (v := (-3)) d_Main_cook_31 rfl (by decide) ?_
      refine g_ireturn (Or.inl rfl) d_Main_cook_33 rfl ?_
      cases h; exact hQ
  · replace h := itp h c3
    refine g_iconst (pc1 := 15) (v := (-1)) d_Main_cook_14 rfl (by decide) ?_
    refine g_ireturn (Or.inl rfl) d_Main_cook_15 rfl ?_
    cases h; exact hQ

def F_Main_deed (ld : Nat) (p1 : Int32) (p2 : Int32) (M : gM) : Option (Int32 × gM) :=
  bI (F_Main_isOne p1 (M ld 3)) (fun r2 => (if r2 = 0 then some ((-1), M) else (if p2 = 0 then bI (F_Main_at (ld + 7) 6 p1 M) (fun r6 => some (r6, M)) else (if p2 = 1 then bI (F_Main_at (ld + 8) 6 p1 M) (fun r9 => some (r9, M)) else (if p2 = 2 then bI2 (F_Main_guestsFreeTo ld p1 M) (fun r12 M13 => some (r12, M13)) else some ((-1), M))))))
set_option maxHeartbeats 4000000 in
set_option maxRecDepth 20000 in
theorem f_Main_deed {l : Launch} {ld : Nat} {M : gM} {L : gL} {Q : Option Value → gM → gL → gR → Prop} (hld : isLa ld) {p1 : Int32} {p2 : Int32}  {q : Int32 × gM} (h : F_Main_deed ld p1 p2 M = some q) (hQ : Q (some (.int q.1)) q.2 L (rf ld)) : Tm l y_Main_deed (0, 0, 447) 447 [.ref 0, .int p1, .int p2] M L (rf ld) Q := by
  refine Tm.of (by decide) (Nat.le_of_ble_eq_true rfl) ?_
  show Wp l y_Main_deed (0, 0, 447) 447 0 0 0 [(0, .ref 0), (1, .int p1), (2, .int p2)] [] M L (rf ld) Q
  unfold F_Main_deed at h
  refine g_iload_n (pc1 := 1) d_Main_deed_0 rfl 1 rfl ?_
  refine g_aload_n (pc1 := 2) d_Main_deed_1 rfl 0 rfl ?_
  refine g_getr (pc1 := 5) d_Main_deed_2 rfl ⟨_, fo_Main_26⟩ sh_0 (by decide) (rf_0_2 ld) ?_
  refine g_geti (pc1 := 8) d_Main_deed_5 rfl ⟨_, fo_Main_177⟩ (shLa_0 hld) (ltLa_0 hld) ?_
  refine g_callS0 (pc1 := 11) (As := [.int p1, .int (M ld 3)]) (rest := []) d_Main_deed_8 rfl mo_Main_112 ms_Main_isOne (by decide) rfl rfl (Nat.le_of_ble_eq_true rfl) ?_
  obtain ⟨r2, hq1, h⟩ := bnd h
  refine f_Main_isOne hld  hq1 ?_
  dsimp only [psh]
  refine g_if_ne (pc1 := 14) (tgt := 16) d_Main_deed_11 (by decide) rfl (fun c3 => ?_) (fun c3 => ?_)
  · replace h := itn h c3
    refine g_iload_n (pc1 := 17) d_Main_deed_16 rfl 2 rfl ?_
    by_cases c4 : p2 = 0
    · replace h := itp h c4
      refine g_tabK (tgt := 44) (off := 27) d_Main_deed_17 c4 (by decide) (by decide) (by decide) (by decide) ?_
      refine g_aload_n (pc1 := 45) d_Main_deed_44 rfl 0 rfl ?_
      refine g_getr (pc1 := 48) d_Main_deed_45 rfl ⟨_, fo_Main_26⟩ sh_0 (by decide) (rf_0_2 ld) ?_
      refine g_getr (pc1 := 51) d_Main_deed_48 rfl ⟨_, fo_Main_180⟩ (shLa_0 hld) (ltLa_0 hld) (rfLa_11 ld hld) ?_
      refine g_iload_n (pc1 := 52) d_Main_deed_51 rfl 1 rfl ?_
      refine g_callS0 (pc1 := 55) (As := [.ref (ld + 7), .int p1]) (rest := []) d_Main_deed_52 rfl mo_Main_120 ms_Main_at (by decide) rfl rfl (Nat.le_of_ble_eq_true rfl) ?_
      obtain ⟨r6, hq5, h⟩ := bnd h
      refine f_Main_at hld (shLa_7 hld) (ltLa_7 hld) (by decide) hq5 ?_
      dsimp only [psh]
      refine g_ireturn (Or.inl rfl) d_Main_deed_55 rfl ?_
      cases h; exact hQ
    replace h := itn h c4
    by_cases c7 : p2 = 1
    · replace h := itp h c7
      refine g_tabK (tgt := 56) (off := 39) d_Main_deed_17 c7 (by decide) (by decide) (by decide) (by decide) ?_
      refine g_aload_n (pc1 := 57) d_Main_deed_56 rfl 0 rfl ?_
      refine g_getr (pc1 := 60) d_Main_deed_57 rfl ⟨_, fo_Main_26⟩ sh_0 (by decide) (rf_0_2 ld) ?_
      refine g_getr (pc1 := 63) d_Main_deed_60 rfl ⟨_, fo_Main_183⟩ (shLa_0 hld) (ltLa_0 hld) (rfLa_12 ld hld) ?_
      refine g_iload_n (pc1 := 64) d_Main_deed_63 rfl 1 rfl ?_
      refine g_callS0 (pc1 := 67) (As := [.ref (ld + 8), .int p1]) (rest := []) d_Main_deed_64 rfl mo_Main_120 ms_Main_at (by decide) rfl rfl (Nat.le_of_ble_eq_true rfl) ?_
      obtain ⟨r9, hq8, h⟩ := bnd h
      refine f_Main_at hld (shLa_8 hld) (ltLa_8 hld) (by decide) hq8 ?_
      dsimp only [psh]
      refine g_ireturn (Or.inl rfl) d_Main_deed_67 rfl ?_
      cases h; exact hQ
    replace h := itn h c7
    by_cases c10 : p2 = 2
    · replace h := itp h c10
      refine g_tabK (tgt := 68) (off := 51) d_Main_deed_17 c10 (by decide) (by decide) (by decide) (by decide) ?_
      refine g_aload_n (pc1 := 69) d_Main_deed_68 rfl 0 rfl ?_
      refine g_iload_n (pc1 := 70) d_Main_deed_69 rfl 1 rfl ?_
      refine g_callV0 (pc1 := 73) (As := [.int p1]) (rest := []) d_Main_deed_70 rfl mo_Main_186 mi_Main_guestsFreeTo mv_Main_guestsFreeTo rfl sh_0 (by decide) (by decide) rfl rfl (Nat.le_of_ble_eq_true rfl) ?_
      obtain ⟨r12, M13, hq11, h⟩ := bnd2 h
      refine f_Main_guestsFreeTo hld  hq11 ?_
      dsimp only [psh]
      refine g_ireturn (Or.inl rfl) d_Main_deed_73 rfl ?_
      cases h; exact hQ
    replace h := itn h c10
    refine g_tabOut (tgt := 74) d_Main_deed_17 (by
      have nc4 := neT (a := 0) c4 (by decide)
      have nc7 := neT (a := 1) c7 (by decide)
      have nc10 := neT (a := 2) c10 (by decide)
      omega) (by decide) ?_
    refine g_iconst (pc1 := 75) (v := (-1)) d_Main_deed_74 rfl (by decide) ?_
    refine g_ireturn (Or.inl rfl) d_Main_deed_75 rfl ?_
    cases h; exact hQ
  · replace h := itp h c3
    refine g_iconst (pc1 := 15) (v := (-1)) d_Main_deed_14 rfl (by decide) ?_
    refine g_ireturn (Or.inl rfl) d_Main_deed_15 rfl ?_
    cases h; exact hQ

def J_Main_feud_100 (ld : Nat) (K55 : Int32 → Int32 → gM → Option (Int32 × gM)) (v1 : Int32) (v2 : Int32) (v3 : Int32) (v4 : Int32) (v5 : Int32) (M : gM) : Option (Int32 × gM) :=
  nmI (v5 + 1) (fun x20 => K55 v4 x20 M)
set_option maxHeartbeats 4000000 in
set_option maxRecDepth 20000 in
theorem j_Main_feud_100 {l : Launch} {ld : Nat} {Q : Option Value → gM → gL → gR → Prop} (hld : isLa ld)   {q : Int32 × gM} {M : gM} {L : gL} (hQ : Q (some (.int q.1)) q.2 L (rf ld)) {K55 : Int32 → Int32 → gM → Option (Int32 × gM)} {v1 : Int32} {v2 : Int32} {v3 : Int32} {v4 : Int32} {v5 : Int32} (hK55 : ∀ (w4 : Int32) (w5 : Int32) (M : gM), K55 w4 w5 M = some q → Wp l y_Main_feud (0, 0, 447) 447 0 0 55 [(0, .ref 0), (1, .int v1), (2, .int v2), (3, .int v3), (4, .int w4), (5, .int w5)] [] M L (rf ld) Q) (h : J_Main_feud_100 ld K55 v1 v2 v3 v4 v5 M = some q) : Wp l y_Main_feud (0, 0, 447) 447 0 0 100 [(0, .ref 0), (1, .int v1), (2, .int v2), (3, .int v3), (4, .int v4), (5, .int v5)] [] M L (rf ld) Q := by
  unfold J_Main_feud_100 at h
  obtain ⟨x20, ex20, h⟩ := ltI h
  refine g_iinc (pc1 := 103) (v := x20) (lv' := [(0, .ref 0), (1, .int v1), (2, .int v2), (3, .int v3), (4, .int v4), (5, .int x20)]) d_Main_feud_100 rfl 5 rfl (by rw [ex20]; rfl) (by decide) [1, 2, 3, 4, 5, 0] rfl ?_
  refine g_goto (tgt := 55) d_Main_feud_103 (by decide) ?_
  exact hK55 v4 x20 M h
def B_Main_feud_55 (ld : Nat) (v1 : Int32) (v2 : Int32) (v3 : Int32) (K55 : Int32 → Int32 → gM → Option (Int32 × gM)) : Int32 → Int32 → gM → Option (Int32 × gM) := fun v4 v5 M =>
  (if (M ld 1) ≤ v5 then some (v4, M) else bI2 (F_Main_freeBehind ld v1 v5 M) (fun r13 M14 => bI (F_Main_hasBit r13 v2) (fun r16 => bI (F_Main_hasBit r13 v3) (fun r18 => (if r16 = r18 then J_Main_feud_100 ld K55 v1 v2 v3 v4 v5 M14 else nmI (v4 ||| (1 <<< (v5 &&& 31))) (fun x21 => J_Main_feud_100 ld K55 v1 v2 v3 x21 v5 M14))))))
def H_Main_feud_55 (ld : Nat) (v1 : Int32) (v2 : Int32) (v3 : Int32) : Nat → Int32 → Int32 → gM → Option (Int32 × gM) := lpK (B_Main_feud_55 ld v1 v2 v3) (fun _ _ _ => none)
set_option maxHeartbeats 4000000 in
set_option maxRecDepth 20000 in
theorem h_Main_feud_55 {l : Launch} {ld : Nat} {Q : Option Value → gM → gL → gR → Prop} (hld : isLa ld)   {q : Int32 × gM} {L : gL} (hQ : Q (some (.int q.1)) q.2 L (rf ld))  {v1 : Int32} {v2 : Int32} {v3 : Int32}  : ∀ (f : Nat) (v4 : Int32) (v5 : Int32) (M : gM), H_Main_feud_55 ld v1 v2 v3 f v4 v5 M = some q → Wp l y_Main_feud (0, 0, 447) 447 0 0 55 [(0, .ref 0), (1, .int v1), (2, .int v2), (3, .int v3), (4, .int v4), (5, .int v5)] [] M L (rf ld) Q := by
  intro f
  induction f with
  | zero => intro v4 v5 M h; cases h
  | succ f hK55 =>
    intro v4 v5 M h
    replace h : B_Main_feud_55 ld v1 v2 v3 (H_Main_feud_55 ld v1 v2 v3 f) v4 v5 M = some q := h
    unfold B_Main_feud_55 at h
    refine g_iload (pc1 := 57) d_Main_feud_55 rfl 5 rfl ?_
    refine g_aload_n (pc1 := 58) d_Main_feud_57 rfl 0 rfl ?_
    refine g_getr (pc1 := 61) d_Main_feud_58 rfl ⟨_, fo_Main_26⟩ sh_0 (by decide) (rf_0_2 ld) ?_
    refine g_geti (pc1 := 64) d_Main_feud_61 rfl ⟨_, fo_Main_131⟩ (shLa_0 hld) (ltLa_0 hld) ?_
    refine g_icmp_ge (pc1 := 67) (tgt := 106) d_Main_feud_64 (by decide) rfl (fun c11 => ?_) (fun c11 => ?_)
    · replace h := itp h c11
      refine g_iload (pc1 := 108) d_Main_feud_106 rfl 4 rfl ?_
      refine g_ireturn (Or.inl rfl) d_Main_feud_108 rfl ?_
      cases h; exact hQ
    · replace h := itn h c11
      refine g_aload_n (pc1 := 68) d_Main_feud_67 rfl 0 rfl ?_
      refine g_iload_n (pc1 := 69) d_Main_feud_68 rfl 1 rfl ?_
      refine g_iload (pc1 := 71) d_Main_feud_69 rfl 5 rfl ?_
      refine g_callV0 (pc1 := 74) (As := [.int v1, .int v5]) (rest := []) d_Main_feud_71 rfl mo_Main_246 mi_Main_freeBehind mv_Main_freeBehind rfl sh_0 (by decide) (by decide) rfl rfl (Nat.le_of_ble_eq_true rfl) ?_
      obtain ⟨r13, M14, hq12, h⟩ := bnd2 h
      refine f_Main_freeBehind hld  hq12 ?_
      dsimp only [psh]
      refine g_istore (pc1 := 76) (lv' := [(0, .ref 0), (1, .int v1), (2, .int v2), (3, .int v3), (4, .int v4), (5, .int v5), (6, .int r13)]) d_Main_feud_74 rfl (by decide) [1, 2, 3, 4, 5, 6, 0] rfl ?_
      refine g_iload (pc1 := 78) d_Main_feud_76 rfl 6 rfl ?_
      refine g_iload_n (pc1 := 79) d_Main_feud_78 rfl 2 rfl ?_
      refine g_callS0 (pc1 := 82) (As := [.int r13, .int v2]) (rest := []) d_Main_feud_79 rfl mo_Main_193 ms_Main_hasBit (by decide) rfl rfl (Nat.le_of_ble_eq_true rfl) ?_
      obtain ⟨r16, hq15, h⟩ := bnd h
      refine f_Main_hasBit hld  hq15 ?_
      dsimp only [psh]
      refine g_iload (pc1 := 84) d_Main_feud_82 rfl 6 rfl ?_
      refine g_iload_n (pc1 := 85) d_Main_feud_84 rfl 3 rfl ?_
      refine g_callS0 (pc1 := 88) (As := [.int r13, .int v3]) (rest := [.int r16]) d_Main_feud_85 rfl mo_Main_193 ms_Main_hasBit (by decide) rfl rfl (Nat.le_of_ble_eq_true rfl) ?_
      obtain ⟨r18, hq17, h⟩ := bnd h
      refine f_Main_hasBit hld  hq17 ?_
      dsimp only [psh]
      refine g_icmp_eq (pc1 := 91) (tgt := 100) d_Main_feud_88 (by decide) rfl (fun c19 => ?_) (fun c19 => ?_)
      · replace h := itp h c19
        refine Wp.loc (lv' := [(0, .ref 0), (1, .int v1), (2, .int v2), (3, .int v3), (4, .int v4), (5, .int v5)]) [0, 1, 2, 3, 4, 5] rfl ?_
        exact j_Main_feud_100 hld  hQ hK55 h
      · replace h := itn h c19
        refine g_iload (pc1 := 93) d_Main_feud_91 rfl 4 rfl ?_
        refine g_iconst (pc1 := 94) (v := 1) d_Main_feud_93 rfl (by decide) ?_
        refine g_iload (pc1 := 96) d_Main_feud_94 rfl 5 rfl ?_
        refine g_ishl (pc1 := 97) d_Main_feud_96 rfl ?_
        refine g_ior (pc1 := 98) d_Main_feud_97 rfl ?_
        refine Wp.lI h (fun x21 h => ?_)
        refine g_istore (pc1 := 100) (lv' := [(0, .ref 0), (1, .int v1), (2, .int v2), (3, .int v3), (4, .int x21), (5, .int v5), (6, .int r13)]) d_Main_feud_98 rfl (by decide) [1, 2, 3, 4, 0, 5, 6] rfl ?_
        refine Wp.loc (lv' := [(0, .ref 0), (1, .int v1), (2, .int v2), (3, .int v3), (4, .int x21), (5, .int v5)]) [0, 1, 2, 3, 4, 5] rfl ?_
        exact j_Main_feud_100 hld  hQ hK55 h
def F_Main_feud (ld : Nat) (p1 : Int32) (p2 : Int32) (p3 : Int32) (M : gM) : Option (Int32 × gM) :=
  bI (F_Main_isOne p1 (M ld 2)) (fun r2 => (if r2 = 0 then some ((-1), M) else bI (F_Main_isOne p2 (M ld 3)) (fun r5 => (if r5 = 0 then some ((-1), M) else bI (F_Main_isOne p3 (M ld 3)) (fun r8 => (if r8 = 0 then some ((-1), M) else (if p2 = p3 then some ((-1), M) else H_Main_feud_55 ld p1 p2 p3 FU 0 0 M)))))))
set_option maxHeartbeats 4000000 in
set_option maxRecDepth 20000 in
theorem f_Main_feud {l : Launch} {ld : Nat} {M : gM} {L : gL} {Q : Option Value → gM → gL → gR → Prop} (hld : isLa ld) {p1 : Int32} {p2 : Int32} {p3 : Int32}  {q : Int32 × gM} (h : F_Main_feud ld p1 p2 p3 M = some q) (hQ : Q (some (.int q.1)) q.2 L (rf ld)) : Tm l y_Main_feud (0, 0, 447) 447 [.ref 0, .int p1, .int p2, .int p3] M L (rf ld) Q := by
  refine Tm.of (by decide) (Nat.le_of_ble_eq_true rfl) ?_
  show Wp l y_Main_feud (0, 0, 447) 447 0 0 0 [(0, .ref 0), (1, .int p1), (2, .int p2), (3, .int p3)] [] M L (rf ld) Q
  unfold F_Main_feud at h
  refine g_iload_n (pc1 := 1) d_Main_feud_0 rfl 1 rfl ?_
  refine g_aload_n (pc1 := 2) d_Main_feud_1 rfl 0 rfl ?_
  refine g_getr (pc1 := 5) d_Main_feud_2 rfl ⟨_, fo_Main_26⟩ sh_0 (by decide) (rf_0_2 ld) ?_
  refine g_geti (pc1 := 8) d_Main_feud_5 rfl ⟨_, fo_Main_157⟩ (shLa_0 hld) (ltLa_0 hld) ?_
  refine g_callS0 (pc1 := 11) (As := [.int p1, .int (M ld 2)]) (rest := []) d_Main_feud_8 rfl mo_Main_112 ms_Main_isOne (by decide) rfl rfl (Nat.le_of_ble_eq_true rfl) ?_
  obtain ⟨r2, hq1, h⟩ := bnd h
  refine f_Main_isOne hld  hq1 ?_
  dsimp only [psh]
  refine g_if_eq (pc1 := 14) (tgt := 47) d_Main_feud_11 (by decide) rfl (fun c3 => ?_) (fun c3 => ?_)
  · replace h := itp h c3
    refine g_iconst (pc1 := 48) (v := (-1)) d_Main_feud_47 rfl (by decide) ?_
    refine g_ireturn (Or.inl rfl) d_Main_feud_48 rfl ?_
    cases h; exact hQ
  · replace h := itn h c3
    refine g_iload_n (pc1 := 15) d_Main_feud_14 rfl 2 rfl ?_
    refine g_aload_n (pc1 := 16) d_Main_feud_15 rfl 0 rfl ?_
    refine g_getr (pc1 := 19) d_Main_feud_16 rfl ⟨_, fo_Main_26⟩ sh_0 (by decide) (rf_0_2 ld) ?_
    refine g_geti (pc1 := 22) d_Main_feud_19 rfl ⟨_, fo_Main_177⟩ (shLa_0 hld) (ltLa_0 hld) ?_
    refine g_callS0 (pc1 := 25) (As := [.int p2, .int (M ld 3)]) (rest := []) d_Main_feud_22 rfl mo_Main_112 ms_Main_isOne (by decide) rfl rfl (Nat.le_of_ble_eq_true rfl) ?_
    obtain ⟨r5, hq4, h⟩ := bnd h
    refine f_Main_isOne hld  hq4 ?_
    dsimp only [psh]
    refine g_if_eq (pc1 := 28) (tgt := 47) d_Main_feud_25 (by decide) rfl (fun c6 => ?_) (fun c6 => ?_)
    · replace h := itp h c6
      refine g_iconst (pc1 := 48) (v := (-1)) d_Main_feud_47 rfl (by decide) ?_
      refine g_ireturn (Or.inl rfl) d_Main_feud_48 rfl ?_
      cases h; exact hQ
    · replace h := itn h c6
      refine g_iload_n (pc1 := 29) d_Main_feud_28 rfl 3 rfl ?_
      refine g_aload_n (pc1 := 30) d_Main_feud_29 rfl 0 rfl ?_
      refine g_getr (pc1 := 33) d_Main_feud_30 rfl ⟨_, fo_Main_26⟩ sh_0 (by decide) (rf_0_2 ld) ?_
      refine g_geti (pc1 := 36) d_Main_feud_33 rfl ⟨_, fo_Main_177⟩ (shLa_0 hld) (ltLa_0 hld) ?_
      refine g_callS0 (pc1 := 39) (As := [.int p3, .int (M ld 3)]) (rest := []) d_Main_feud_36 rfl mo_Main_112 ms_Main_isOne (by decide) rfl rfl (Nat.le_of_ble_eq_true rfl) ?_
      obtain ⟨r8, hq7, h⟩ := bnd h
      refine f_Main_isOne hld  hq7 ?_
      dsimp only [psh]
      refine g_if_eq (pc1 := 42) (tgt := 47) d_Main_feud_39 (by decide) rfl (fun c9 => ?_) (fun c9 => ?_)
      · replace h := itp h c9
        refine g_iconst (pc1 := 48) (v := (-1)) d_Main_feud_47 rfl (by decide) ?_
        refine g_ireturn (Or.inl rfl) d_Main_feud_48 rfl ?_
        cases h; exact hQ
      · replace h := itn h c9
        refine g_iload_n (pc1 := 43) d_Main_feud_42 rfl 2 rfl ?_
        refine g_iload_n (pc1 := 44) d_Main_feud_43 rfl 3 rfl ?_
        refine g_icmp_ne (pc1 := 47) (tgt := 49) d_Main_feud_44 (by decide) rfl (fun c10 => ?_) (fun c10 => ?_)
        · replace h := itn h c10
          refine g_iconst (pc1 := 50) (v := 0) d_Main_feud_49 rfl (by decide) ?_
          refine g_istore (pc1 := 52) (lv' := [(0, .ref 0), (1, .int p1), (2, .int p2), (3, .int p3), (4, .int 0)]) d_Main_feud_50 rfl (by decide) [1, 2, 3, 4, 0] rfl ?_
          refine g_iconst (pc1 := 53) (v := 0) d_Main_feud_52 rfl (by decide) ?_
          refine g_istore (pc1 := 55) (lv' := [(0, .ref 0), (1, .int p1), (2, .int p2), (3, .int p3), (4, .int 0), (5, .int 0)]) d_Main_feud_53 rfl (by decide) [1, 2, 3, 4, 5, 0] rfl ?_
          exact h_Main_feud_55 hld  hQ  _ 0 0 M h
        · replace h := itp h c10
          refine g_iconst (pc1 := 48) (v := (-1)) d_Main_feud_47 rfl (by decide) ?_
          refine g_ireturn (Or.inl rfl) d_Main_feud_48 rfl ?_
          cases h; exact hQ

def J_Main_freestDish_43 (ld : Nat) (K7 : Int32 → Int32 → Int32 → gM → Option (Int32 × gM)) (v1 : Int32) (v2 : Int32) (v3 : Int32) (v4 : Int32) (M : gM) : Option (Int32 × gM) :=
  nmI (v4 + 1) (fun x8 => K7 v2 v3 x8 M)
set_option maxHeartbeats 4000000 in
set_option maxRecDepth 20000 in
theorem j_Main_freestDish_43 {l : Launch} {ld : Nat} {Q : Option Value → gM → gL → gR → Prop} (hld : isLa ld)   {q : Int32 × gM} {M : gM} {L : gL} (hQ : Q (some (.int q.1)) q.2 L (rf ld)) {K7 : Int32 → Int32 → Int32 → gM → Option (Int32 × gM)} {v1 : Int32} {v2 : Int32} {v3 : Int32} {v4 : Int32} (hK7 : ∀ (w2 : Int32) (w3 : Int32) (w4 : Int32) (M : gM), K7 w2 w3 w4 M = some q → Wp l y_Main_freestDish (0, 0, 447) 447 0 0 7 [(0, .ref 0), (1, .int v1), (2, .int w2), (3, .int w3), (4, .int w4)] [] M L (rf ld) Q) (h : J_Main_freestDish_43 ld K7 v1 v2 v3 v4 M = some q) : Wp l y_Main_freestDish (0, 0, 447) 447 0 0 43 [(0, .ref 0), (1, .int v1), (2, .int v2), (3, .int v3), (4, .int v4)] [] M L (rf ld) Q := by
  unfold J_Main_freestDish_43 at h
  obtain ⟨x8, ex8, h⟩ := ltI h
  refine g_iinc (pc1 := 46) (v := x8) (lv' := [(0, .ref 0), (1, .int v1), (2, .int v2), (3, .int v3), (4, .int x8)]) d_Main_freestDish_43 rfl 4 rfl (by rw [ex8]; rfl) (by decide) [1, 2, 3, 4, 0] rfl ?_
  refine g_goto (tgt := 7) d_Main_freestDish_46 (by decide) ?_
  exact hK7 v2 v3 x8 M h
def B_Main_freestDish_7 (ld : Nat) (v1 : Int32) (K7 : Int32 → Int32 → Int32 → gM → Option (Int32 × gM)) : Int32 → Int32 → Int32 → gM → Option (Int32 × gM) := fun v2 v3 v4 M =>
  (if (M ld 1) ≤ v4 then some (v3, M) else bI2 (F_Main_freeBehind ld v1 v4 M) (fun r3 M4 => bI (F_Int_bitCount r3) (fun r6 => (if r6 ≤ v2 then J_Main_freestDish_43 ld K7 v1 v2 v3 v4 M4 else J_Main_freestDish_43 ld K7 v1 r6 v4 v4 M4))))
def H_Main_freestDish_7 (ld : Nat) (v1 : Int32) : Nat → Int32 → Int32 → Int32 → gM → Option (Int32 × gM) := lpK (B_Main_freestDish_7 ld v1) (fun _ _ _ _ => none)
set_option maxHeartbeats 4000000 in
set_option maxRecDepth 20000 in
theorem h_Main_freestDish_7 {l : Launch} {ld : Nat} {Q : Option Value → gM → gL → gR → Prop} (hld : isLa ld)   {q : Int32 × gM} {L : gL} (hQ : Q (some (.int q.1)) q.2 L (rf ld))  {v1 : Int32}  : ∀ (f : Nat) (v2 : Int32) (v3 : Int32) (v4 : Int32) (M : gM), H_Main_freestDish_7 ld v1 f v2 v3 v4 M = some q → Wp l y_Main_freestDish (0, 0, 447) 447 0 0 7 [(0, .ref 0), (1, .int v1), (2, .int v2), (3, .int v3), (4, .int v4)] [] M L (rf ld) Q := by
  intro f
  induction f with
  | zero => intro v2 v3 v4 M h; cases h
  | succ f hK7 =>
    intro v2 v3 v4 M h
    replace h : B_Main_freestDish_7 ld v1 (H_Main_freestDish_7 ld v1 f) v2 v3 v4 M = some q := h
    unfold B_Main_freestDish_7 at h
    refine g_iload (pc1 := 9) d_Main_freestDish_7 rfl 4 rfl ?_
    refine g_aload_n (pc1 := 10) d_Main_freestDish_9 rfl 0 rfl ?_
    refine g_getr (pc1 := 13) d_Main_freestDish_10 rfl ⟨_, fo_Main_26⟩ sh_0 (by decide) (rf_0_2 ld) ?_
    refine g_geti (pc1 := 16) d_Main_freestDish_13 rfl ⟨_, fo_Main_131⟩ (shLa_0 hld) (ltLa_0 hld) ?_
    refine g_icmp_ge (pc1 := 19) (tgt := 49) d_Main_freestDish_16 (by decide) rfl (fun c1 => ?_) (fun c1 => ?_)
    · replace h := itp h c1
      refine g_iload_n (pc1 := 50) d_Main_freestDish_49 rfl 3 rfl ?_
      refine g_ireturn (Or.inl rfl) d_Main_freestDish_50 rfl ?_
      cases h; exact hQ
    · replace h := itn h c1
      refine g_aload_n (pc1 := 20) d_Main_freestDish_19 rfl 0 rfl ?_
      refine g_iload_n (pc1 := 21) d_Main_freestDish_20 rfl 1 rfl ?_
      refine g_iload (pc1 := 23) d_Main_freestDish_21 rfl 4 rfl ?_
      refine g_callV0 (pc1 := 26) (As := [.int v1, .int v4]) (rest := []) d_Main_freestDish_23 rfl mo_Main_246 mi_Main_freeBehind mv_Main_freeBehind rfl sh_0 (by decide) (by decide) rfl rfl (Nat.le_of_ble_eq_true rfl) ?_
      obtain ⟨r3, M4, hq2, h⟩ := bnd2 h
      refine f_Main_freeBehind hld  hq2 ?_
      dsimp only [psh]
      refine g_callS0 (pc1 := 29) (As := [.int r3]) (rest := []) d_Main_freestDish_26 rfl mo_Main_249 ms_Int_bitCount (by decide) rfl rfl (Nat.le_of_ble_eq_true rfl) ?_
      obtain ⟨r6, hq5, h⟩ := bnd h
      refine f_Int_bitCount hld  hq5 ?_
      dsimp only [psh]
      refine g_istore (pc1 := 31) (lv' := [(0, .ref 0), (1, .int v1), (2, .int v2), (3, .int v3), (4, .int v4), (5, .int r6)]) d_Main_freestDish_29 rfl (by decide) [1, 2, 3, 4, 5, 0] rfl ?_
      refine g_iload (pc1 := 33) d_Main_freestDish_31 rfl 5 rfl ?_
      refine g_iload_n (pc1 := 34) d_Main_freestDish_33 rfl 2 rfl ?_
      refine g_icmp_le (pc1 := 37) (tgt := 43) d_Main_freestDish_34 (by decide) rfl (fun c7 => ?_) (fun c7 => ?_)
      · replace h := itp h c7
        refine Wp.loc (lv' := [(0, .ref 0), (1, .int v1), (2, .int v2), (3, .int v3), (4, .int v4)]) [0, 1, 2, 3, 4] rfl ?_
        exact j_Main_freestDish_43 hld  hQ hK7 h
      · replace h := itn h c7
        refine g_iload (pc1 := 39) d_Main_freestDish_37 rfl 5 rfl ?_
        refine g_istore_n (pc1 := 40) (lv' := [(0, .ref 0), (1, .int v1), (2, .int r6), (3, .int v3), (4, .int v4), (5, .int r6)]) d_Main_freestDish_39 rfl rfl (by decide) [1, 2, 0, 3, 4, 5] rfl ?_
        refine g_iload (pc1 := 42) d_Main_freestDish_40 rfl 4 rfl ?_
        refine g_istore_n (pc1 := 43) (lv' := [(0, .ref 0), (1, .int v1), (2, .int r6), (3, .int v4), (4, .int v4), (5, .int r6)]) d_Main_freestDish_42 rfl rfl (by decide) [1, 2, 3, 0, 4, 5] rfl ?_
        refine Wp.loc (lv' := [(0, .ref 0), (1, .int v1), (2, .int r6), (3, .int v4), (4, .int v4)]) [0, 1, 2, 3, 4] rfl ?_
        exact j_Main_freestDish_43 hld  hQ hK7 h
def F_Main_freestDish (ld : Nat) (p1 : Int32) (M : gM) : Option (Int32 × gM) :=
  H_Main_freestDish_7 ld p1 FU (-1) (-1) 0 M
set_option maxHeartbeats 4000000 in
set_option maxRecDepth 20000 in
theorem f_Main_freestDish {l : Launch} {ld : Nat} {M : gM} {L : gL} {Q : Option Value → gM → gL → gR → Prop} (hld : isLa ld) {p1 : Int32}  {q : Int32 × gM} (h : F_Main_freestDish ld p1 M = some q) (hQ : Q (some (.int q.1)) q.2 L (rf ld)) : Tm l y_Main_freestDish (0, 0, 447) 447 [.ref 0, .int p1] M L (rf ld) Q := by
  refine Tm.of (by decide) (Nat.le_of_ble_eq_true rfl) ?_
  show Wp l y_Main_freestDish (0, 0, 447) 447 0 0 0 [(0, .ref 0), (1, .int p1)] [] M L (rf ld) Q
  unfold F_Main_freestDish at h
  refine g_iconst (pc1 := 1) (v := (-1)) d_Main_freestDish_0 rfl (by decide) ?_
  refine g_istore_n (pc1 := 2) (lv' := [(0, .ref 0), (1, .int p1), (2, .int (-1))]) d_Main_freestDish_1 rfl rfl (by decide) [1, 2, 0] rfl ?_
  refine g_iconst (pc1 := 3) (v := (-1)) d_Main_freestDish_2 rfl (by decide) ?_
  refine g_istore_n (pc1 := 4) (lv' := [(0, .ref 0), (1, .int p1), (2, .int (-1)), (3, .int (-1))]) d_Main_freestDish_3 rfl rfl (by decide) [1, 2, 3, 0] rfl ?_
  refine g_iconst (pc1 := 5) (v := 0) d_Main_freestDish_4 rfl (by decide) ?_
  refine g_istore (pc1 := 7) (lv' := [(0, .ref 0), (1, .int p1), (2, .int (-1)), (3, .int (-1)), (4, .int 0)]) d_Main_freestDish_5 rfl (by decide) [1, 2, 3, 4, 0] rfl ?_
  exact h_Main_freestDish_7 hld  hQ  _ (-1) (-1) 0 M h

def B_Main_often_29 (ld : Nat) (v1 : Int32) (K29 : Int32 → gM → Option (Int32 × gM)) : Int32 → gM → Option (Int32 × gM) := fun v2 M =>
  (if 99 < v2 then some (v2, M) else bI (F_State_inStore 71 ld v1 M) (fun r8 => (if r8 = 0 then some (v2, M) else bI2 (F_State_cookOne 71 ld v1 M) (fun r11 M12 => nmI (v2 + 1) (fun x13 => K29 x13 M12)))))
def H_Main_often_29 (ld : Nat) (v1 : Int32) : Nat → Int32 → gM → Option (Int32 × gM) := lpK (B_Main_often_29 ld v1) (fun _ _ => none)
set_option maxHeartbeats 4000000 in
set_option maxRecDepth 20000 in
theorem h_Main_often_29 {l : Launch} {ld : Nat} {Q : Option Value → gM → gL → gR → Prop} (hld : isLa ld)   {q : Int32 × gM} {L : gL} (hQ : Q (some (.int q.1)) q.2 L (rf ld))  {v1 : Int32}  : ∀ (f : Nat) (v2 : Int32) (M : gM), H_Main_often_29 ld v1 f v2 M = some q → Wp l y_Main_often (0, 0, 447) 447 0 0 29 [(0, .ref 0), (1, .int v1), (2, .int v2)] [] M L (rf ld) Q := by
  intro f
  induction f with
  | zero => intro v2 M h; cases h
  | succ f hK29 =>
    intro v2 M h
    replace h : B_Main_often_29 ld v1 (H_Main_often_29 ld v1 f) v2 M = some q := h
    unfold B_Main_often_29 at h
    refine g_iload_n (pc1 := 30) d_Main_often_29 rfl 2 rfl ?_
    refine g_bipush (pc1 := 32) (v := 99) d_Main_often_30 rfl (by decide) ?_
    refine g_icmp_gt (pc1 := 35) (tgt := 69) d_Main_often_32 (by decide) rfl (fun c6 => ?_) (fun c6 => ?_)
    · replace h := itp h c6
      refine g_iload_n (pc1 := 70) d_Main_often_69 rfl 2 rfl ?_
      refine g_ireturn (Or.inl rfl) d_Main_often_70 rfl ?_
      cases h; exact hQ
    · replace h := itn h c6
      refine g_aload_n (pc1 := 36) d_Main_often_35 rfl 0 rfl ?_
      refine g_getr (pc1 := 39) d_Main_often_36 rfl ⟨_, fo_Main_40⟩ sh_0 (by decide) (rf_0_5 ld) ?_
      refine g_aload_n (pc1 := 40) d_Main_often_39 rfl 0 rfl ?_
      refine g_getr (pc1 := 43) d_Main_often_40 rfl ⟨_, fo_Main_26⟩ sh_0 (by decide) (rf_0_2 ld) ?_
      refine g_iload_n (pc1 := 44) d_Main_often_43 rfl 1 rfl ?_
      refine g_callV0 (pc1 := 47) (As := [.ref ld, .int v1]) (rest := []) d_Main_often_44 rfl mo_Main_196 mi_State_inStore mv_State_inStore rfl (shSt_0 isSt_71) (ltSt_0 isSt_71) (by decide) rfl rfl (Nat.le_of_ble_eq_true rfl) ?_
      obtain ⟨r8, hq7, h⟩ := bnd h
      refine f_State_inStore hld isSt_71 hld hq7 ?_
      dsimp only [psh]
      refine g_if_eq (pc1 := 50) (tgt := 69) d_Main_often_47 (by decide) rfl (fun c9 => ?_) (fun c9 => ?_)
      · replace h := itp h c9
        refine g_iload_n (pc1 := 70) d_Main_often_69 rfl 2 rfl ?_
        refine g_ireturn (Or.inl rfl) d_Main_often_70 rfl ?_
        cases h; exact hQ
      · replace h := itn h c9
        refine g_aload_n (pc1 := 51) d_Main_often_50 rfl 0 rfl ?_
        refine g_getr (pc1 := 54) d_Main_often_51 rfl ⟨_, fo_Main_40⟩ sh_0 (by decide) (rf_0_5 ld) ?_
        refine g_aload_n (pc1 := 55) d_Main_often_54 rfl 0 rfl ?_
        refine g_getr (pc1 := 58) d_Main_often_55 rfl ⟨_, fo_Main_26⟩ sh_0 (by decide) (rf_0_2 ld) ?_
        refine g_iload_n (pc1 := 59) d_Main_often_58 rfl 1 rfl ?_
        refine g_callV0 (pc1 := 62) (As := [.ref ld, .int v1]) (rest := []) d_Main_often_59 rfl mo_Main_204 mi_State_cookOne mv_State_cookOne rfl (shSt_0 isSt_71) (ltSt_0 isSt_71) (by decide) rfl rfl (Nat.le_of_ble_eq_true rfl) ?_
        obtain ⟨r11, M12, hq10, h⟩ := bnd2 h
        refine f_State_cookOne hld isSt_71 hld hq10 ?_
        dsimp only [psh]
        refine g_pop (pc1 := 63) d_Main_often_62 rfl rfl ?_
        obtain ⟨x13, ex13, h⟩ := ltI h
        refine g_iinc (pc1 := 66) (v := x13) (lv' := [(0, .ref 0), (1, .int v1), (2, .int x13)]) d_Main_often_63 rfl 2 rfl (by rw [ex13]; rfl) (by decide) [1, 2, 0] rfl ?_
        refine g_goto (tgt := 29) d_Main_often_66 (by decide) ?_
        exact hK29 x13 M12 h
def F_Main_often (ld : Nat) (p1 : Int32) (M : gM) : Option (Int32 × gM) :=
  bI (F_Main_isOne p1 (M ld 1)) (fun r2 => (if r2 = 0 then some ((-1), M) else bI (F_State_copyFrom 71 64 M) (fun M5 => H_Main_often_29 ld p1 FU 0 M5)))
set_option maxHeartbeats 4000000 in
set_option maxRecDepth 20000 in
theorem f_Main_often {l : Launch} {ld : Nat} {M : gM} {L : gL} {Q : Option Value → gM → gL → gR → Prop} (hld : isLa ld) {p1 : Int32}  {q : Int32 × gM} (h : F_Main_often ld p1 M = some q) (hQ : Q (some (.int q.1)) q.2 L (rf ld)) : Tm l y_Main_often (0, 0, 447) 447 [.ref 0, .int p1] M L (rf ld) Q := by
  refine Tm.of (by decide) (Nat.le_of_ble_eq_true rfl) ?_
  show Wp l y_Main_often (0, 0, 447) 447 0 0 0 [(0, .ref 0), (1, .int p1)] [] M L (rf ld) Q
  unfold F_Main_often at h
  refine g_iload_n (pc1 := 1) d_Main_often_0 rfl 1 rfl ?_
  refine g_aload_n (pc1 := 2) d_Main_often_1 rfl 0 rfl ?_
  refine g_getr (pc1 := 5) d_Main_often_2 rfl ⟨_, fo_Main_26⟩ sh_0 (by decide) (rf_0_2 ld) ?_
  refine g_geti (pc1 := 8) d_Main_often_5 rfl ⟨_, fo_Main_131⟩ (shLa_0 hld) (ltLa_0 hld) ?_
  refine g_callS0 (pc1 := 11) (As := [.int p1, .int (M ld 1)]) (rest := []) d_Main_often_8 rfl mo_Main_112 ms_Main_isOne (by decide) rfl rfl (Nat.le_of_ble_eq_true rfl) ?_
  obtain ⟨r2, hq1, h⟩ := bnd h
  refine f_Main_isOne hld  hq1 ?_
  dsimp only [psh]
  refine g_if_ne (pc1 := 14) (tgt := 16) d_Main_often_11 (by decide) rfl (fun c3 => ?_) (fun c3 => ?_)
  · replace h := itn h c3
    refine g_aload_n (pc1 := 17) d_Main_often_16 rfl 0 rfl ?_
    refine g_getr (pc1 := 20) d_Main_often_17 rfl ⟨_, fo_Main_40⟩ sh_0 (by decide) (rf_0_5 ld) ?_
    refine g_aload_n (pc1 := 21) d_Main_often_20 rfl 0 rfl ?_
    refine g_getr (pc1 := 24) d_Main_often_21 rfl ⟨_, fo_Main_36⟩ sh_0 (by decide) (rf_0_4 ld) ?_
    refine g_callV0 (pc1 := 27) (As := [.ref 64]) (rest := []) d_Main_often_24 rfl mo_Main_262 mi_State_copyFrom mv_State_copyFrom rfl (shSt_0 isSt_71) (ltSt_0 isSt_71) (by decide) rfl rfl (Nat.le_of_ble_eq_true rfl) ?_
    obtain ⟨M5, hq4, h⟩ := bnd h
    refine f_State_copyFrom hld isSt_71 isSt_64 hq4 ?_
    dsimp only [psh]
    refine g_iconst (pc1 := 28) (v := 0) d_Main_often_27 rfl (by decide) ?_
    refine g_istore_n (pc1 := 29) (lv' := [(0, .ref 0), (1, .int p1), (2, .int 0)]) d_Main_often_28 rfl rfl (by decide) [1, 2, 0] rfl ?_
    exact h_Main_often_29 hld  hQ  _ 0 M5 h
  · replace h := itp h c3
    refine g_iconst (pc1 := 15) (v := (-1)) d_Main_often_14 rfl (by decide) ?_
    refine g_ireturn (Or.inl rfl) d_Main_often_15 rfl ?_
    cases h; exact hQ

