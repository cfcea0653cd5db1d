def F_Main_undo (M : gM) : Option (Int32 × gM) :=
  bI2 (F_Past_takeBack 64 M) (fun r2 M3 => (if r2 = 0 ∨ r2 = 1 then some (r2, M3) else none))
set_option maxHeartbeats 4000000 in
set_option maxRecDepth 20000 in
theorem f_Main_undo {l : Launch} {ld : Nat} {M : gM} {L : gL} {Q : Option Value → gM → gL → gR → Prop} (hld : isLa ld)   {q : Int32 × gM} (h : F_Main_undo M = some q) (hQ : Q (some (.int q.1)) q.2 L (rf ld)) : Tm l y_Main_undo (0, 0, 447) 447 [.ref 0] M L (rf ld) Q := by
  refine Tm.of (by decide) (Nat.le_of_ble_eq_true rfl) ?_
  show Wp l y_Main_undo (0, 0, 447) 447 0 0 0 [(0, .ref 0)] [] M L (rf ld) Q
  unfold F_Main_undo at h
  refine g_aload_n (pc1 := 1) d_Main_undo_0 rfl 0 rfl ?_
  refine g_getr (pc1 := 4) d_Main_undo_1 rfl ⟨_, fo_Main_46⟩ sh_0 (by decide) (rf_0_6 ld) ?_
  refine g_aload_n (pc1 := 5) d_Main_undo_4 rfl 0 rfl ?_
  refine g_getr (pc1 := 8) d_Main_undo_5 rfl ⟨_, fo_Main_36⟩ sh_0 (by decide) (rf_0_4 ld) ?_
  refine g_callV0 (pc1 := 11) (As := [.ref 64]) (rest := []) d_Main_undo_8 rfl mo_Main_218 mi_Past_takeBack mv_Past_takeBack rfl sh_78 (by decide) (by decide) rfl rfl (Nat.le_of_ble_eq_true rfl) ?_
  obtain ⟨r2, M3, hq1, h⟩ := bnd2 h
  refine f_Past_takeBack hld isSt_64 hq1 ?_
  dsimp only [psh]
  obtain ⟨g4, h⟩ := gdp h
  refine g_ireturn (Or.inr ⟨rfl, nar01 g4⟩) d_Main_undo_11 rfl ?_
  cases h; exact hQ

def J_Land_dishForce_33 (Ld0 : Nat) (v1 : Int32) (v3 : Int32) (v4 : Int32) (v5 : Int32) (v6 : Int32) (M : gM) : Option (Int32 × gM) :=
  bI (F_Main_at (Ld0 + 4) 5 v1 M) (fun r7 => bI2 (F_Land_potForce Ld0 v3 v5 r7 v6 v4 M) (fun r9 M10 => some (r9, M10)))
set_option maxHeartbeats 4000000 in
set_option maxRecDepth 20000 in
theorem j_Land_dishForce_33 {l : Launch} {ld : Nat} {Q : Option Value → gM → gL → gR → Prop} (hld : isLa ld) {Ld0 : Nat} (hLd0 : isLa Ld0) {q : Int32 × gM} {M : gM} {L : gL} (hQ : Q (some (.int q.1)) q.2 L (rf ld))  {v1 : Int32} {v3 : Int32} {v4 : Int32} {v5 : Int32} {v6 : Int32}  (h : J_Land_dishForce_33 Ld0 v1 v3 v4 v5 v6 M = some q) : Wp l y_Land_dishForce (0, 0, 447) 447 0 0 33 [(0, .ref Ld0), (1, .int v1), (3, .int v3), (4, .int v4), (5, .int v5), (6, .int v6)] [] M L (rf ld) Q := by
  unfold J_Land_dishForce_33 at h
  refine g_aload_n (pc1 := 34) d_Land_dishForce_33 rfl 0 rfl ?_
  refine g_iload_n (pc1 := 35) d_Land_dishForce_34 rfl 2 rfl ?_
  refine g_iload (pc1 := 37) d_Land_dishForce_35 rfl 4 rfl ?_
  refine g_aload_n (pc1 := 38) d_Land_dishForce_37 rfl 0 rfl ?_
  refine g_getr (pc1 := 41) d_Land_dishForce_38 rfl ⟨_, fo_Land_21⟩ (shLa_0 hLd0) (ltLa_0 hLd0) (rfLa_8 ld hLd0) ?_
  refine g_iload_n (pc1 := 42) d_Land_dishForce_41 rfl 1 rfl ?_
  refine g_callS0 (pc1 := 45) (As := [.ref (Ld0 + 4), .int v1]) (rest := [.int v5, .int v3, .ref Ld0]) d_Land_dishForce_42 rfl mo_Land_78 ms_Main_at (by decide) rfl rfl (Nat.le_of_ble_eq_true rfl) ?_
  obtain ⟨r7, hq6, h⟩ := bnd h
  refine f_Main_at hld (shLa_4 hLd0) (ltLa_4 hLd0) (by decide) hq6 ?_
  dsimp only [psh]
  refine g_iload (pc1 := 47) d_Land_dishForce_45 rfl 5 rfl ?_
  refine g_iload (pc1 := 49) d_Land_dishForce_47 rfl 3 rfl ?_
  refine g_callV0 (pc1 := 52) (As := [.int v3, .int v5, .int r7, .int v6, .int v4]) (rest := []) d_Land_dishForce_49 rfl mo_Land_112 mi_Land_potForce mv_Land_potForce rfl (shLa_0 hLd0) (ltLa_0 hLd0) (by decide) rfl rfl (Nat.le_of_ble_eq_true rfl) ?_
  obtain ⟨r9, M10, hq8, h⟩ := bnd2 h
  refine f_Land_potForce hld hLd0 hq8 ?_
  dsimp only [psh]
  refine g_ireturn (Or.inl rfl) d_Land_dishForce_52 rfl ?_
  cases h; exact hQ
def F_Land_dishForce (Ld0 : Nat) (p1 : Int32) (p2 : Int32) (p3 : Int32) (p4 : Int32) (M : gM) : Option (Int32 × gM) :=
  bI (F_Land_sumOf Ld0 p1 p3 M) (fun r2 => bI (F_Land_manyIn Ld0 p1 M) (fun r4 => (if p2 < 0 then J_Land_dishForce_33 Ld0 p1 p3 p4 r2 r4 M else bI (F_Land_broughtBy Ld0 p2 p3 M) (fun r12 => nmI (r2 + r12) (fun x13 => nmI (r4 + 1) (fun x14 => J_Land_dishForce_33 Ld0 p1 p3 p4 x13 x14 M))))))
set_option maxHeartbeats 4000000 in
set_option maxRecDepth 20000 in
theorem f_Land_dishForce {l : Launch} {ld : Nat} {M : gM} {L : gL} {Q : Option Value → gM → gL → gR → Prop} (hld : isLa ld) {Ld0 : Nat} {p1 : Int32} {p2 : Int32} {p3 : Int32} {p4 : Int32} (hLd0 : isLa Ld0) {q : Int32 × gM} (h : F_Land_dishForce Ld0 p1 p2 p3 p4 M = some q) (hQ : Q (some (.int q.1)) q.2 L (rf ld)) : Tm l y_Land_dishForce (0, 0, 447) 447 [.ref Ld0, .int p1, .int p2, .int p3, .int p4] M L (rf ld) Q := by
  refine Tm.of (by decide) (Nat.le_of_ble_eq_true rfl) ?_
  show Wp l y_Land_dishForce (0, 0, 447) 447 0 0 0 [(0, .ref Ld0), (1, .int p1), (2, .int p2), (3, .int p3), (4, .int p4)] [] M L (rf ld) Q
  unfold F_Land_dishForce at h
  refine g_aload_n (pc1 := 1) d_Land_dishForce_0 rfl 0 rfl ?_
  refine g_iload_n (pc1 := 2) d_Land_dishForce_1 rfl 1 rfl ?_
  refine g_iload_n (pc1 := 3) d_Land_dishForce_2 rfl 3 rfl ?_
  refine g_callV0 (pc1 := 6) (As := [.int p1, .int p3]) (rest := []) d_Land_dishForce_3 rfl mo_Land_105 mi_Land_sumOf mv_Land_sumOf rfl (shLa_0 hLd0) (ltLa_0 hLd0) (by decide) rfl rfl (Nat.le_of_ble_eq_true rfl) ?_
  obtain ⟨r2, hq1, h⟩ := bnd h
  refine f_Land_sumOf hld hLd0 hq1 ?_
  dsimp only [psh]
  refine g_istore (pc1 := 8) (lv' := [(0, .ref Ld0), (1, .int p1), (2, .int p2), (3, .int p3), (4, .int p4), (5, .int r2)]) d_Land_dishForce_6 rfl (by decide) [1, 2, 3, 4, 5, 0] rfl ?_
  refine g_aload_n (pc1 := 9) d_Land_dishForce_8 rfl 0 rfl ?_
  refine g_iload_n (pc1 := 10) d_Land_dishForce_9 rfl 1 rfl ?_
  refine g_callV0 (pc1 := 13) (As := [.int p1]) (rest := []) d_Land_dishForce_10 rfl mo_Land_108 mi_Land_manyIn mv_Land_manyIn rfl (shLa_0 hLd0) (ltLa_0 hLd0) (by decide) rfl rfl (Nat.le_of_ble_eq_true rfl) ?_
  obtain ⟨r4, hq3, h⟩ := bnd h
  refine f_Land_manyIn hld hLd0 hq3 ?_
  dsimp only [psh]
  refine g_istore (pc1 := 15) (lv' := [(0, .ref Ld0), (1, .int p1), (2, .int p2), (3, .int p3), (4, .int p4), (5, .int r2), (6, .int r4)]) d_Land_dishForce_13 rfl (by decide) [1, 2, 3, 4, 5, 6, 0] rfl ?_
  refine g_iload_n (pc1 := 16) d_Land_dishForce_15 rfl 2 rfl ?_
  refine g_if_lt (pc1 := 19) (tgt := 33) d_Land_dishForce_16 (by decide) rfl (fun c5 => ?_) (fun c5 => ?_)
  · replace h := itp h c5
    refine Wp.loc (lv' := [(0, .ref Ld0), (1, .int p1), (3, .int p3), (4, .int p4), (5, .int r2), (6, .int r4)]) [0, 1, 3, 4, 5, 6] rfl ?_
    exact j_Land_dishForce_33 hld hLd0 hQ  h
  · replace h := itn h c5
    refine g_iload (pc1 := 21) d_Land_dishForce_19 rfl 5 rfl ?_
    refine g_aload_n (pc1 := 22) d_Land_dishForce_21 rfl 0 rfl ?_
    refine g_iload_n (pc1 := 23) d_Land_dishForce_22 rfl 2 rfl ?_
    refine g_iload_n (pc1 := 24) d_Land_dishForce_23 rfl 3 rfl ?_
    refine g_callV0 (pc1 := 27) (As := [.int p2, .int p3]) (rest := [.int r2]) d_Land_dishForce_24 rfl mo_Land_86 mi_Land_broughtBy mv_Land_broughtBy rfl (shLa_0 hLd0) (ltLa_0 hLd0) (by decide) rfl rfl (Nat.le_of_ble_eq_true rfl) ?_
    obtain ⟨r12, hq11, h⟩ := bnd h
    refine f_Land_broughtBy hld hLd0 hq11 ?_
    dsimp only [psh]
    refine g_iadd (pc1 := 28) d_Land_dishForce_27 rfl ?_
    refine Wp.lI h (fun x13 h => ?_)
    refine g_istore (pc1 := 30) (lv' := [(0, .ref Ld0), (1, .int p1), (2, .int p2), (3, .int p3), (4, .int p4), (5, .int x13), (6, .int r4)]) d_Land_dishForce_28 rfl (by decide) [1, 2, 3, 4, 5, 0, 6] rfl ?_
    obtain ⟨x14, ex14, h⟩ := ltI h
    refine g_iinc (pc1 := 33) (v := x14) (lv' := [(0, .ref Ld0), (1, .int p1), (2, .int p2), (3, .int p3), (4, .int p4), (5, .int x13), (6, .int x14)]) d_Land_dishForce_30 rfl 6 rfl (by rw [ex14]; rfl) (by decide) [1, 2, 3, 4, 5, 6, 0] rfl ?_
    refine Wp.loc (lv' := [(0, .ref Ld0), (1, .int p1), (3, .int p3), (4, .int p4), (5, .int x13), (6, .int x14)]) [0, 1, 3, 4, 5, 6] rfl ?_
    exact j_Land_dishForce_33 hld hLd0 hQ  h

def F_Land_slipsOf (Ld0 : Nat) (p1 : Int32) (p2 : Int32) (M : gM) : Option (Int32 × gM) :=
  bI (F_Law_isTold (Ld0 + 21) M) (fun r2 => (if r2 = 0 then some (0, M) else bI (F_Main_at (Ld0 + 4) 5 p1 M) (fun r5 => bI (F_Law_let (Ld0 + 21) 1 r5 M) (fun M7 => bI (F_Land_manyIn Ld0 p1 M7) (fun r9 => bI (F_Law_let (Ld0 + 21) 3 r9 M7) (fun M11 => bI (F_Law_let (Ld0 + 21) 4 p2 M11) (fun M13 => bI2 (F_Law_value (Ld0 + 21) M13) (fun r15 M16 => bI (F_Main_within r15 0 100) (fun r18 => some (r18, M16))))))))))
set_option maxHeartbeats 4000000 in
set_option maxRecDepth 20000 in
theorem f_Land_slipsOf {l : Launch} {ld : Nat} {M : gM} {L : gL} {Q : Option Value → gM → gL → gR → Prop} (hld : isLa ld) {Ld0 : Nat} {p1 : Int32} {p2 : Int32} (hLd0 : isLa Ld0) {q : Int32 × gM} (h : F_Land_slipsOf Ld0 p1 p2 M = some q) (hQ : Q (some (.int q.1)) q.2 L (rf ld)) : Tm l y_Land_slipsOf (0, 0, 447) 447 [.ref Ld0, .int p1, .int p2] M L (rf ld) Q := by
  refine Tm.of (by decide) (Nat.le_of_ble_eq_true rfl) ?_
  show Wp l y_Land_slipsOf (0, 0, 447) 447 0 0 0 [(0, .ref Ld0), (1, .int p1), (2, .int p2)] [] M L (rf ld) Q
  unfold F_Land_slipsOf at h
  refine g_aload_n (pc1 := 1) d_Land_slipsOf_0 rfl 0 rfl ?_
  refine g_getr (pc1 := 4) d_Land_slipsOf_1 rfl ⟨_, fo_Land_49⟩ (shLa_0 hLd0) (ltLa_0 hLd0) (rfLa_16 ld hLd0) ?_
  refine g_callV0 (pc1 := 7) (As := []) (rest := []) d_Land_slipsOf_4 rfl mo_Land_89 mi_Law_isTold mv_Law_isTold rfl (shLw_0 (isLw_21 hLd0)) (ltLw_0 (isLw_21 hLd0)) (by decide) rfl rfl (Nat.le_of_ble_eq_true rfl) ?_
  obtain ⟨r2, hq1, h⟩ := bnd h
  refine f_Law_isTold hld (isLw_21 hLd0) hq1 ?_
  dsimp only [psh]
  refine g_if_ne (pc1 := 10) (tgt := 12) d_Land_slipsOf_7 (by decide) rfl (fun c3 => ?_) (fun c3 => ?_)
  · replace h := itn h c3
    refine g_aload_n (pc1 := 13) d_Land_slipsOf_12 rfl 0 rfl ?_
    refine g_getr (pc1 := 16) d_Land_slipsOf_13 rfl ⟨_, fo_Land_49⟩ (shLa_0 hLd0) (ltLa_0 hLd0) (rfLa_16 ld hLd0) ?_
    refine g_iconst (pc1 := 17) (v := 1) d_Land_slipsOf_16 rfl (by decide) ?_
    refine g_aload_n (pc1 := 18) d_Land_slipsOf_17 rfl 0 rfl ?_
    refine g_getr (pc1 := 21) d_Land_slipsOf_18 rfl ⟨_, fo_Land_21⟩ (shLa_0 hLd0) (ltLa_0 hLd0) (rfLa_8 ld hLd0) ?_
    refine g_iload_n (pc1 := 22) d_Land_slipsOf_21 rfl 1 rfl ?_
    refine g_callS0 (pc1 := 25) (As := [.ref (Ld0 + 4), .int p1]) (rest := [.int 1, .ref (Ld0 + 21)]) d_Land_slipsOf_22 rfl mo_Land_78 ms_Main_at (by decide) rfl rfl (Nat.le_of_ble_eq_true rfl) ?_
    obtain ⟨r5, hq4, h⟩ := bnd h
    refine f_Main_at hld (shLa_4 hLd0) (ltLa_4 hLd0) (by decide) hq4 ?_
    dsimp only [psh]
    refine g_callV0 (pc1 := 28) (As := [.int 1, .int r5]) (rest := []) d_Land_slipsOf_25 rfl mo_Land_97 mi_Law_let mv_Law_let rfl (shLw_0 (isLw_21 hLd0)) (ltLw_0 (isLw_21 hLd0)) (by decide) rfl rfl (Nat.le_of_ble_eq_true rfl) ?_
    obtain ⟨M7, hq6, h⟩ := bnd h
    refine f_Law_let hld (isLw_21 hLd0) hq6 ?_
    dsimp only [psh]
    refine g_aload_n (pc1 := 29) d_Land_slipsOf_28 rfl 0 rfl ?_
    refine g_getr (pc1 := 32) d_Land_slipsOf_29 rfl ⟨_, fo_Land_49⟩ (shLa_0 hLd0) (ltLa_0 hLd0) (rfLa_16 ld hLd0) ?_
    refine g_iconst (pc1 := 33) (v := 3) d_Land_slipsOf_32 rfl (by decide) ?_
    refine g_aload_n (pc1 := 34) d_Land_slipsOf_33 rfl 0 rfl ?_
    refine g_iload_n (pc1 := 35) d_Land_slipsOf_34 rfl 1 rfl ?_
    refine g_callV0 (pc1 := 38) (As := [.int p1]) (rest := [.int 3, .ref (Ld0 + 21)]) d_Land_slipsOf_35 rfl mo_Land_108 mi_Land_manyIn mv_Land_manyIn rfl (shLa_0 hLd0) (ltLa_0 hLd0) (by decide) rfl rfl (Nat.le_of_ble_eq_true rfl) ?_
    obtain ⟨r9, hq8, h⟩ := bnd h
    refine f_Land_manyIn hld hLd0 hq8 ?_
    dsimp only [psh]
    refine g_callV0 (pc1 := 41) (As := [.int 3, .int r9]) (rest := []) d_Land_slipsOf_38 rfl mo_Land_97 mi_Law_let mv_Law_let rfl (shLw_0 (isLw_21 hLd0)) (ltLw_0 (isLw_21 hLd0)) (by decide) rfl rfl (Nat.le_of_ble_eq_true rfl) ?_
    obtain ⟨M11, hq10, h⟩ := bnd h
    refine f_Law_let hld (isLw_21 hLd0) hq10 ?_
    dsimp only [psh]
    refine g_aload_n (pc1 := 42) d_Land_slipsOf_41 rfl 0 rfl ?_
    refine g_getr (pc1 := 45) d_Land_slipsOf_42 rfl ⟨_, fo_Land_49⟩ (shLa_0 hLd0) (ltLa_0 hLd0) (rfLa_16 ld hLd0) ?_
    refine g_iconst (pc1 := 46) (v := 4) d_Land_slipsOf_45 rfl (by decide) ?_
    refine g_iload_n (pc1 := 47) d_Land_slipsOf_46 rfl 2 rfl ?_
    refine g_callV0 (pc1 := 50) (As := [.int 4, .int p2]) (rest := []) d_Land_slipsOf_47 rfl mo_Land_97 mi_Law_let mv_Law_let rfl (shLw_0 (isLw_21 hLd0)) (ltLw_0 (isLw_21 hLd0)) (by decide) rfl rfl (Nat.le_of_ble_eq_true rfl) ?_
    obtain ⟨M13, hq12, h⟩ := bnd h
    refine f_Law_let hld (isLw_21 hLd0) hq12 ?_
    dsimp only [psh]
    refine g_aload_n (pc1 := 51) d_Land_slipsOf_50 rfl 0 rfl ?_
    refine g_getr (pc1 := 54) d_Land_slipsOf_51 rfl ⟨_, fo_Land_49⟩ (shLa_0 hLd0) (ltLa_0 hLd0) (rfLa_16 ld hLd0) ?_
    refine g_callV0 (pc1 := 57) (As := []) (rest := []) d_Land_slipsOf_54 rfl mo_Land_101 mi_Law_value mv_Law_value rfl (shLw_0 (isLw_21 hLd0)) (ltLw_0 (isLw_21 hLd0)) (by decide) rfl rfl (Nat.le_of_ble_eq_true rfl) ?_
    obtain ⟨r15, M16, hq14, h⟩ := bnd2 h
    refine f_Law_value hld (isLw_21 hLd0) hq14 ?_
    dsimp only [psh]
    refine g_iconst (pc1 := 58) (v := 0) d_Land_slipsOf_57 rfl (by decide) ?_
    refine g_bipush (pc1 := 60) (v := 100) d_Land_slipsOf_58 rfl (by decide) ?_
    refine g_callS0 (pc1 := 63) (As := [.int r15, .int 0, .int 100]) (rest := []) d_Land_slipsOf_60 rfl mo_Land_93 ms_Main_within (by decide) rfl rfl (Nat.le_of_ble_eq_true rfl) ?_
    obtain ⟨r18, hq17, h⟩ := bnd h
    refine f_Main_within hld  hq17 ?_
    dsimp only [psh]
    refine g_ireturn (Or.inl rfl) d_Land_slipsOf_63 rfl ?_
    cases h; exact hQ
  · replace h := itp h c3
    refine g_iconst (pc1 := 11) (v := 0) d_Land_slipsOf_10 rfl (by decide) ?_
    refine g_ireturn (Or.inl rfl) d_Land_slipsOf_11 rfl ?_
    cases h; exact hQ

def J_PotSearch_isEnough_53 (Ld1 : Nat) (K3 : Int32 → gM → Option (Int32 × gM)) (v2 : Int32) (v3 : Int32) (v4 : Int32) (M : gM) : Option (Int32 × gM) :=
  nmI (v4 + 1) (fun x5 => K3 x5 M)
set_option maxHeartbeats 4000000 in
set_option maxRecDepth 20000 in
theorem j_PotSearch_isEnough_53 {l : Launch} {ld : Nat} {Q : Option Value → gM → gL → gR → Prop} (hld : isLa ld) {Ld1 : Nat} (hLd1 : isLa Ld1) {q : Int32 × gM} {M : gM} {L : gL} (hQ : Q (some (.int q.1)) q.2 L (rf ld)) {K3 : Int32 → gM → Option (Int32 × gM)} {v2 : Int32} {v3 : Int32} {v4 : Int32} (hK3 : ∀ (w4 : Int32) (M : gM), K3 w4 M = some q → Wp l y_PotSearch_isEnough (0, 0, 447) 447 0 0 3 [(0, .ref 391), (1, .ref Ld1), (2, .int v2), (3, .int v3), (4, .int w4)] [] M L (rf ld) Q) (h : J_PotSearch_isEnough_53 Ld1 K3 v2 v3 v4 M = some q) : Wp l y_PotSearch_isEnough (0, 0, 447) 447 0 0 53 [(0, .ref 391), (1, .ref Ld1), (2, .int v2), (3, .int v3), (4, .int v4)] [] M L (rf ld) Q := by
  unfold J_PotSearch_isEnough_53 at h
  obtain ⟨x5, ex5, h⟩ := ltI h
  refine g_iinc (pc1 := 56) (v := x5) (lv' := [(0, .ref 391), (1, .ref Ld1), (2, .int v2), (3, .int v3), (4, .int x5)]) d_PotSearch_isEnough_53 rfl 4 rfl (by rw [ex5]; rfl) (by decide) [1, 2, 3, 4, 0] rfl ?_
  refine g_goto (tgt := 3) d_PotSearch_isEnough_56 (by decide) ?_
  exact hK3 x5 M h
def B_PotSearch_isEnough_3 (Ld1 : Nat) (v2 : Int32) (v3 : Int32) (K3 : Int32 → gM → Option (Int32 × gM)) : Int32 → gM → Option (Int32 × gM) := fun v4 M =>
  (if 3 ≤ v4 then some (1, M) else bI (F_Main_at 392 3 v4 M) (fun r3 => (if r3 ≤ 0 then J_PotSearch_isEnough_53 Ld1 K3 v2 v3 v4 M else bI (F_Main_at 394 3 v4 M) (fun r7 => bI2 (F_Land_potForce Ld1 v4 r7 v2 (M 391 3) v3 M) (fun r9 M10 => (if r3 ≤ r9 then J_PotSearch_isEnough_53 Ld1 K3 v2 v3 v4 M10 else some (0, M10)))))))
def H_PotSearch_isEnough_3 (Ld1 : Nat) (v2 : Int32) (v3 : Int32) : Nat → Int32 → gM → Option (Int32 × gM) := lpK (B_PotSearch_isEnough_3 Ld1 v2 v3) (fun _ _ => none)
set_option maxHeartbeats 4000000 in
set_option maxRecDepth 20000 in
theorem h_PotSearch_isEnough_3 {l : Launch} {ld : Nat} {Q : Option Value → gM → gL → gR → Prop} (hld : isLa ld) {Ld1 : Nat} (hLd1 : isLa Ld1) {q : Int32 × gM} {L : gL} (hQ : Q (some (.int q.1)) q.2 L (rf ld))  {v2 : Int32} {v3 : Int32}  : ∀ (f : Nat) (v4 : Int32) (M : gM), H_PotSearch_isEnough_3 Ld1 v2 v3 f v4 M = some q → Wp l y_PotSearch_isEnough (0, 0, 447) 447 0 0 3 [(0, .ref 391), (1, .ref Ld1), (2, .int v2), (3, .int v3), (4, .int v4)] [] M L (rf ld) Q := by
  intro f
  induction f with
  | zero => intro v4 M h; cases h
  | succ f hK3 =>
    intro v4 M h
    replace h : B_PotSearch_isEnough_3 Ld1 v2 v3 (H_PotSearch_isEnough_3 Ld1 v2 v3 f) v4 M = some q := h
    unfold B_PotSearch_isEnough_3 at h
    refine g_iload (pc1 := 5) d_PotSearch_isEnough_3 rfl 4 rfl ?_
    refine g_iconst (pc1 := 6) (v := 3) d_PotSearch_isEnough_5 rfl (by decide) ?_
    refine g_icmp_ge (pc1 := 9) (tgt := 59) d_PotSearch_isEnough_6 (by decide) rfl (fun c1 => ?_) (fun c1 => ?_)
    · replace h := itp h c1
      refine g_iconst (pc1 := 60) (v := 1) d_PotSearch_isEnough_59 rfl (by decide) ?_
      refine g_ireturn (Or.inr ⟨rfl, rfl⟩) d_PotSearch_isEnough_60 rfl ?_
      cases h; exact hQ
    · replace h := itn h c1
      refine g_aload_n (pc1 := 10) d_PotSearch_isEnough_9 rfl 0 rfl ?_
      refine g_getr (pc1 := 13) d_PotSearch_isEnough_10 rfl ⟨_, fo_PotSearch_9⟩ sh_391 (by decide) (rf_391_0 ld) ?_
      refine g_iload (pc1 := 15) d_PotSearch_isEnough_13 rfl 4 rfl ?_
      refine g_callS0 (pc1 := 18) (As := [.ref 392, .int v4]) (rest := []) d_PotSearch_isEnough_15 rfl mo_PotSearch_75 ms_Main_at (by decide) rfl rfl (Nat.le_of_ble_eq_true rfl) ?_
      obtain ⟨r3, hq2, h⟩ := bnd h
      refine f_Main_at hld sh_392 (by decide) (by decide) hq2 ?_
      dsimp only [psh]
      refine g_istore (pc1 := 20) (lv' := [(0, .ref 391), (1, .ref Ld1), (2, .int v2), (3, .int v3), (4, .int v4), (5, .int r3)]) d_PotSearch_isEnough_18 rfl (by decide) [1, 2, 3, 4, 5, 0] rfl ?_
      refine g_iload (pc1 := 22) d_PotSearch_isEnough_20 rfl 5 rfl ?_
      refine g_if_le (pc1 := 25) (tgt := 53) d_PotSearch_isEnough_22 (by decide) rfl (fun c4 => ?_) (fun c4 => ?_)
      · replace h := itp h c4
        refine Wp.loc (lv' := [(0, .ref 391), (1, .ref Ld1), (2, .int v2), (3, .int v3), (4, .int v4)]) [0, 1, 2, 3, 4] rfl ?_
        exact j_PotSearch_isEnough_53 hld hLd1 hQ hK3 h
      · replace h := itn h c4
        refine g_aload_n (pc1 := 26) d_PotSearch_isEnough_25 rfl 1 rfl ?_
        refine g_iload (pc1 := 28) d_PotSearch_isEnough_26 rfl 4 rfl ?_
        refine g_aload_n (pc1 := 29) d_PotSearch_isEnough_28 rfl 0 rfl ?_
        refine g_getr (pc1 := 32) d_PotSearch_isEnough_29 rfl ⟨_, fo_PotSearch_18⟩ sh_391 (by decide) (rf_391_2 ld) ?_
        refine g_iload (pc1 := 34) d_PotSearch_isEnough_32 rfl 4 rfl ?_
        refine g_callS0 (pc1 := 37) (As := [.ref 394, .int v4]) (rest := [.int v4, .ref Ld1]) d_PotSearch_isEnough_34 rfl mo_PotSearch_75 ms_Main_at (by decide) rfl rfl (Nat.le_of_ble_eq_true rfl) ?_
        obtain ⟨r7, hq6, h⟩ := bnd h
        refine f_Main_at hld sh_394 (by decide) (by decide) hq6 ?_
        dsimp only [psh]
        refine g_iload_n (pc1 := 38) d_PotSearch_isEnough_37 rfl 2 rfl ?_
        refine g_aload_n (pc1 := 39) d_PotSearch_isEnough_38 rfl 0 rfl ?_
        refine g_geti (pc1 := 42) d_PotSearch_isEnough_39 rfl ⟨_, fo_PotSearch_56⟩ sh_391 (by decide) ?_
        refine g_iload_n (pc1 := 43) d_PotSearch_isEnough_42 rfl 3 rfl ?_
        refine g_callV0 (pc1 := 46) (As := [.int v4, .int r7, .int v2, .int (M 391 3), .int v3]) (rest := []) d_PotSearch_isEnough_43 rfl mo_PotSearch_114 mi_Land_potForce mv_Land_potForce rfl (shLa_0 hLd1) (ltLa_0 hLd1) (by decide) rfl rfl (Nat.le_of_ble_eq_true rfl) ?_
        obtain ⟨r9, M10, hq8, h⟩ := bnd2 h
        refine f_Land_potForce hld hLd1 hq8 ?_
        dsimp only [psh]
        refine g_iload (pc1 := 48) d_PotSearch_isEnough_46 rfl 5 rfl ?_
        refine g_icmp_ge (pc1 := 51) (tgt := 53) d_PotSearch_isEnough_48 (by decide) rfl (fun c11 => ?_) (fun c11 => ?_)
        · replace h := itp h c11
          refine Wp.loc (lv' := [(0, .ref 391), (1, .ref Ld1), (2, .int v2), (3, .int v3), (4, .int v4)]) [0, 1, 2, 3, 4] rfl ?_
          exact j_PotSearch_isEnough_53 hld hLd1 hQ hK3 h
        · replace h := itn h c11
          refine g_iconst (pc1 := 52) (v := 0) d_PotSearch_isEnough_51 rfl (by decide) ?_
          refine g_ireturn (Or.inr ⟨rfl, rfl⟩) d_PotSearch_isEnough_52 rfl ?_
          cases h; exact hQ
def F_PotSearch_isEnough (Ld1 : Nat) (p2 : Int32) (p3 : Int32) (M : gM) : Option (Int32 × gM) :=
  H_PotSearch_isEnough_3 Ld1 p2 p3 FU 0 M
set_option maxHeartbeats 4000000 in
set_option maxRecDepth 20000 in
theorem f_PotSearch_isEnough {l : Launch} {ld : Nat} {M : gM} {L : gL} {Q : Option Value → gM → gL → gR → Prop} (hld : isLa ld) {Ld1 : Nat} {p2 : Int32} {p3 : Int32} (hLd1 : isLa Ld1) {q : Int32 × gM} (h : F_PotSearch_isEnough Ld1 p2 p3 M = some q) (hQ : Q (some (.int q.1)) q.2 L (rf ld)) : Tm l y_PotSearch_isEnough (0, 0, 447) 447 [.ref 391, .ref Ld1, .int p2, .int p3] M L (rf ld) Q := by
  refine Tm.of (by decide) (Nat.le_of_ble_eq_true rfl) ?_
  show Wp l y_PotSearch_isEnough (0, 0, 447) 447 0 0 0 [(0, .ref 391), (1, .ref Ld1), (2, .int p2), (3, .int p3)] [] M L (rf ld) Q
  unfold F_PotSearch_isEnough at h
  refine g_iconst (pc1 := 1) (v := 0) d_PotSearch_isEnough_0 rfl (by decide) ?_
  refine g_istore (pc1 := 3) (lv' := [(0, .ref 391), (1, .ref Ld1), (2, .int p2), (3, .int p3), (4, .int 0)]) d_PotSearch_isEnough_1 rfl (by decide) [1, 2, 3, 4, 0] rfl ?_
  exact h_PotSearch_isEnough_3 hld hLd1 hQ  _ 0 M h

def J_Reader_takeIngredient_78 (Ld1 : Nat) (M : gM) (L : gL) : Option (gM) :=
  bI (F_Reader_need 2 M) (fun M5 => some M5)
set_option maxHeartbeats 4000000 in
set_option maxRecDepth 20000 in
theorem j_Reader_takeIngredient_78 {l : Launch} {ld : Nat} {Q : Option Value → gM → gL → gR → Prop} (hld : isLa ld) {Ld1 : Nat} (hLd1 : isLa Ld1) {q : gM} {M : gM} {L : gL} (hQ : Q none q L (rf ld))    (h : J_Reader_takeIngredient_78 Ld1 M L = some q) : Wp l y_Reader_takeIngredient (0, 0, 447) 447 0 0 78 [(0, .ref 3)] [] M L (rf ld) Q := by
  unfold J_Reader_takeIngredient_78 at h
  refine g_aload_n (pc1 := 79) d_Reader_takeIngredient_78 rfl 0 rfl ?_
  refine g_iconst (pc1 := 80) (v := 2) d_Reader_takeIngredient_79 rfl (by decide) ?_
  refine g_callV0 (pc1 := 83) (As := [.int 2]) (rest := []) d_Reader_takeIngredient_80 rfl mo_Reader_118 mi_Reader_need mv_Reader_need rfl sh_3 (by decide) (by decide) rfl rfl (Nat.le_of_ble_eq_true rfl) ?_
  obtain ⟨M5, hq4, h⟩ := bnd h
  refine f_Reader_need hld  hq4 ?_
  dsimp only [psh]
  refine g_return rfl d_Reader_takeIngredient_83 rfl ?_
  cases h; exact hQ
def J_Reader_takeIngredient_40 (Ld1 : Nat) (v2 : Int32) (s0 : Int32) (M : gM) (L : gL) : Option (gM) :=
  (if 0 ≤ s0 then bI (F_Land_inDish Ld1 v2 s0 M) (fun r15 => bI (F_Main_put (Ld1 + 5) 30 ((v2 * 6) + s0) (r15 + 1) M) (fun M17 => J_Reader_takeIngredient_78 Ld1 M17 L)) else bI (F_Reader_stopLate 4 M) (fun M19 => J_Reader_takeIngredient_78 Ld1 M19 L))
set_option maxHeartbeats 4000000 in
set_option maxRecDepth 20000 in
theorem j_Reader_takeIngredient_40 {l : Launch} {ld : Nat} {Q : Option Value → gM → gL → gR → Prop} (hld : isLa ld) {Ld1 : Nat} (hLd1 : isLa Ld1) {q : gM} {M : gM} {L : gL} (hQ : Q none q L (rf ld))  {v2 : Int32} {s0 : Int32}  (h : J_Reader_takeIngredient_40 Ld1 v2 s0 M L = some q) : Wp l y_Reader_takeIngredient (0, 0, 447) 447 0 0 40 [(0, .ref 3), (1, .ref Ld1), (2, .int v2)] [.int s0] M L (rf ld) Q := by
  unfold J_Reader_takeIngredient_40 at h
  refine g_istore (pc1 := 42) (lv' := [(0, .ref 3), (1, .ref Ld1), (2, .int v2), (4, .int s0)]) d_Reader_takeIngredient_40 rfl (by decide) [1, 2, 3, 0] rfl ?_
  refine g_iload (pc1 := 44) d_Reader_takeIngredient_42 rfl 3 rfl ?_
  refine g_if_ge (pc1 := 47) (tgt := 55) d_Reader_takeIngredient_44 (by decide) rfl (fun c13 => ?_) (fun c13 => ?_)
  · replace h := itp h c13
    refine g_aload_n (pc1 := 56) d_Reader_takeIngredient_55 rfl 1 rfl ?_
    refine g_getr (pc1 := 59) d_Reader_takeIngredient_56 rfl ⟨_, fo_Reader_158⟩ (shLa_0 hLd1) (ltLa_0 hLd1) (rfLa_9 ld hLd1) ?_
    refine g_iload_n (pc1 := 60) d_Reader_takeIngredient_59 rfl 2 rfl ?_
    refine g_bipush (pc1 := 62) (v := 6) d_Reader_takeIngredient_60 rfl (by decide) ?_
    refine g_imul (pc1 := 63) d_Reader_takeIngredient_62 rfl ?_
    refine g_iload (pc1 := 65) d_Reader_takeIngredient_63 rfl 3 rfl ?_
    refine g_iadd (pc1 := 66) d_Reader_takeIngredient_65 rfl ?_
    refine g_aload_n (pc1 := 67) d_Reader_takeIngredient_66 rfl 1 rfl ?_
    refine g_iload_n (pc1 := 68) d_Reader_takeIngredient_67 rfl 2 rfl ?_
    refine g_iload (pc1 := 70) d_Reader_takeIngredient_68 rfl 3 rfl ?_
    refine g_callV0 (pc1 := 73) (As := [.int v2, .int s0]) (rest := [.int ((v2 * 6) + s0), .ref (Ld1 + 5)]) d_Reader_takeIngredient_70 rfl mo_Reader_161 mi_Land_inDish mv_Land_inDish rfl (shLa_0 hLd1) (ltLa_0 hLd1) (by decide) rfl rfl (Nat.le_of_ble_eq_true rfl) ?_
    obtain ⟨r15, hq14, h⟩ := bnd h
    refine f_Land_inDish hld hLd1 hq14 ?_
    dsimp only [psh]
    refine g_iconst (pc1 := 74) (v := 1) d_Reader_takeIngredient_73 rfl (by decide) ?_
    refine g_iadd (pc1 := 75) d_Reader_takeIngredient_74 rfl ?_
    refine g_callS0 (pc1 := 78) (As := [.ref (Ld1 + 5), .int ((v2 * 6) + s0), .int (r15 + 1)]) (rest := []) d_Reader_takeIngredient_75 rfl mo_Reader_138 ms_Main_put (by decide) rfl rfl (Nat.le_of_ble_eq_true rfl) ?_
    obtain ⟨M17, hq16, h⟩ := bnd h
    refine f_Main_put hld (shLa_5 hLd1) (ltLa_5 hLd1) (by decide) hq16 ?_
    dsimp only [psh]
    refine Wp.loc (lv' := [(0, .ref 3)]) [0] rfl ?_
    exact j_Reader_takeIngredient_78 hld hLd1 hQ  h
  · replace h := itn h c13
    refine g_aload_n (pc1 := 48) d_Reader_takeIngredient_47 rfl 0 rfl ?_
    refine g_iconst (pc1 := 49) (v := 4) d_Reader_takeIngredient_48 rfl (by decide) ?_
    refine g_callV0 (pc1 := 52) (As := [.int 4]) (rest := []) d_Reader_takeIngredient_49 rfl mo_Reader_115 mi_Reader_stopLate mv_Reader_stopLate rfl sh_3 (by decide) (by decide) rfl rfl (Nat.le_of_ble_eq_true rfl) ?_
    obtain ⟨M19, hq18, h⟩ := bnd h
    refine f_Reader_stopLate hld  hq18 ?_
    dsimp only [psh]
    refine g_goto (tgt := 78) d_Reader_takeIngredient_52 (by decide) ?_
    refine Wp.loc (lv' := [(0, .ref 3)]) [0] rfl ?_
    exact j_Reader_takeIngredient_78 hld hLd1 hQ  h
def F_Reader_takeIngredient (Ld1 : Nat) (p2 : Int32) (M : gM) (L : gL) : Option (gM) :=
  bI (F_Reader_is 2 M) (fun r2 => (if r2 = 0 then J_Reader_takeIngredient_78 Ld1 M L else bI (F_Tokens_valueAt (M 3 1) L) (fun r7 => bI (F_Reader_indexOf r7 M L) (fun r9 => (if 0 ≤ r9 then bI (F_Main_at 10 21 r9 M) (fun r12 => J_Reader_takeIngredient_40 Ld1 p2 r12 M L) else J_Reader_takeIngredient_40 Ld1 p2 (-1) M L)))))
set_option maxHeartbeats 4000000 in
set_option maxRecDepth 20000 in
theorem f_Reader_takeIngredient {l : Launch} {ld : Nat} {M : gM} {L : gL} {Q : Option Value → gM → gL → gR → Prop} (hld : isLa ld) {Ld1 : Nat} {p2 : Int32} (hLd1 : isLa Ld1) {q : gM} (h : F_Reader_takeIngredient Ld1 p2 M L = some q) (hQ : Q none q L (rf ld)) : Tm l y_Reader_takeIngredient (0, 0, 447) 447 [.ref 3, .ref Ld1, .int p2] M L (rf ld) Q := by
  refine Tm.of (by decide) (Nat.le_of_ble_eq_true rfl) ?_
  show Wp l y_Reader_takeIngredient (0, 0, 447) 447 0 0 0 [(0, .ref 3), (1, .ref Ld1), (2, .int p2)] [] M L (rf ld) Q
  unfold F_Reader_takeIngredient at h
  refine g_aload_n (pc1 := 1) d_Reader_takeIngredient_0 rfl 0 rfl ?_
  refine g_iconst (pc1 := 2) (v := 2) d_Reader_takeIngredient_1 rfl (by decide) ?_
  refine g_callV0 (pc1 := 5) (As := [.int 2]) (rest := []) d_Reader_takeIngredient_2 rfl mo_Reader_51 mi_Reader_is mv_Reader_is rfl sh_3 (by decide) (by decide) rfl rfl (Nat.le_of_ble_eq_true rfl) ?_
  obtain ⟨r2, hq1, h⟩ := bnd h
  refine f_Reader_is hld  hq1 ?_
  dsimp only [psh]
  refine g_if_eq (pc1 := 8) (tgt := 78) d_Reader_takeIngredient_5 (by decide) rfl (fun c3 => ?_) (fun c3 => ?_)
  · replace h := itp h c3
    refine Wp.loc (lv' := [(0, .ref 3)]) [0] rfl ?_
    exact j_Reader_takeIngredient_78 hld hLd1 hQ  h
  · replace h := itn h c3
    refine g_aload_n (pc1 := 9) d_Reader_takeIngredient_8 rfl 0 rfl ?_
    refine g_aload_n (pc1 := 10) d_Reader_takeIngredient_9 rfl 0 rfl ?_
    refine g_getr (pc1 := 13) d_Reader_takeIngredient_10 rfl ⟨_, fo_Reader_12⟩ sh_3 (by decide) (rf_3_0 ld) ?_
    refine g_aload_n (pc1 := 14) d_Reader_takeIngredient_13 rfl 0 rfl ?_
    refine g_geti (pc1 := 17) d_Reader_takeIngredient_14 rfl ⟨_, fo_Reader_38⟩ sh_3 (by decide) ?_
    refine g_callV0 (pc1 := 20) (As := [.int (M 3 1)]) (rest := [.ref 3]) d_Reader_takeIngredient_17 rfl mo_Reader_111 mi_Tokens_valueAt mv_Tokens_valueAt rfl sh_4 (by decide) (by decide) rfl rfl (Nat.le_of_ble_eq_true rfl) ?_
    obtain ⟨r7, hq6, h⟩ := bnd h
    refine f_Tokens_valueAt hld  hq6 ?_
    dsimp only [psh]
    refine g_callV0 (pc1 := 23) (As := [.long r7]) (rest := []) d_Reader_takeIngredient_20 rfl mo_Reader_121 mi_Reader_indexOf mv_Reader_indexOf rfl sh_3 (by decide) (by decide) rfl rfl (Nat.le_of_ble_eq_true rfl) ?_
    obtain ⟨r9, hq8, h⟩ := bnd h
    refine f_Reader_indexOf hld  hq8 ?_
    dsimp only [psh]
    refine g_istore_n (pc1 := 24) (lv' := [(0, .ref 3), (1, .ref Ld1), (2, .int p2), (3, .int r9)]) d_Reader_takeIngredient_23 rfl rfl (by decide) [1, 2, 3, 0] rfl ?_
    refine g_iload_n (pc1 := 25) d_Reader_takeIngredient_24 rfl 3 rfl ?_
    refine g_if_ge (pc1 := 28) (tgt := 32) d_Reader_takeIngredient_25 (by decide) rfl (fun c10 => ?_) (fun c10 => ?_)
    · replace h := itp h c10
      refine g_aload_n (pc1 := 33) d_Reader_takeIngredient_32 rfl 0 rfl ?_
      refine g_getr (pc1 := 36) d_Reader_takeIngredient_33 rfl ⟨_, fo_Reader_22⟩ sh_3 (by decide) (rf_3_7 ld) ?_
      refine g_iload_n (pc1 := 37) d_Reader_takeIngredient_36 rfl 3 rfl ?_
      refine g_callS0 (pc1 := 40) (As := [.ref 10, .int r9]) (rest := []) d_Reader_takeIngredient_37 rfl mo_Reader_58 ms_Main_at (by decide) rfl rfl (Nat.le_of_ble_eq_true rfl) ?_
      obtain ⟨r12, hq11, h⟩ := bnd h
      refine f_Main_at hld sh_10 (by decide) (by decide) hq11 ?_
      dsimp only [psh]
      refine Wp.loc (lv' := [(0, .ref 3), (1, .ref Ld1), (2, .int p2)]) [0, 1, 2] rfl ?_
      exact j_Reader_takeIngredient_40 hld hLd1 hQ  h
    · replace h := itn h c10
      refine g_iconst (pc1 := 29) (v := (-1)) d_Reader_takeIngredient_28 rfl (by decide) ?_
      refine g_goto (tgt := 40) d_Reader_takeIngredient_29 (by decide) ?_
      refine Wp.loc (lv' := [(0, .ref 3), (1, .ref Ld1), (2, .int p2)]) [0, 1, 2] rfl ?_
      exact j_Reader_takeIngredient_40 hld hLd1 hQ  h

def J_Reader_takeInt_31 (v2 : Int32) (M : gM) (L : gL) : Option (Int32 × gM) :=
  bI (F_Reader_need 3 M) (fun M8 => some (v2, M8))
set_option maxHeartbeats 4000000 in
set_option maxRecDepth 20000 in
theorem j_Reader_takeInt_31 {l : Launch} {ld : Nat} {Q : Option Value → gM → gL → gR → Prop} (hld : isLa ld)   {q : Int32 × gM} {M : gM} {L : gL} (hQ : Q (some (.int q.1)) q.2 L (rf ld))  {v2 : Int32}  (h : J_Reader_takeInt_31 v2 M L = some q) : Wp l y_Reader_takeInt (0, 0, 447) 447 0 0 31 [(0, .ref 3), (2, .int v2)] [] M L (rf ld) Q := by
  unfold J_Reader_takeInt_31 at h
  refine g_aload_n (pc1 := 32) d_Reader_takeInt_31 rfl 0 rfl ?_
  refine g_iconst (pc1 := 33) (v := 3) d_Reader_takeInt_32 rfl (by decide) ?_
  refine g_callV0 (pc1 := 36) (As := [.int 3]) (rest := []) d_Reader_takeInt_33 rfl mo_Reader_118 mi_Reader_need mv_Reader_need rfl sh_3 (by decide) (by decide) rfl rfl (Nat.le_of_ble_eq_true rfl) ?_
  obtain ⟨M8, hq7, h⟩ := bnd h
  refine f_Reader_need hld  hq7 ?_
  dsimp only [psh]
  refine g_iload_n (pc1 := 37) d_Reader_takeInt_36 rfl 1 rfl ?_
  refine g_ireturn (Or.inl rfl) d_Reader_takeInt_37 rfl ?_
  cases h; exact hQ
def F_Reader_takeInt (p1 : Int32) (M : gM) (L : gL) : Option (Int32 × gM) :=
  bI (F_Tokens_valueAt (M 3 1) L) (fun r2 => nmI ((r2 : Int64).toInt32) (fun x3 => bI (F_Reader_is 3 M) (fun r5 => (if r5 = 0 then J_Reader_takeInt_31 x3 M L else (if x3 ≤ p1 then J_Reader_takeInt_31 x3 M L else bI (F_Reader_stopLate 5 M) (fun M11 => J_Reader_takeInt_31 x3 M11 L))))))
set_option maxHeartbeats 4000000 in
set_option maxRecDepth 20000 in
theorem f_Reader_takeInt {l : Launch} {ld : Nat} {M : gM} {L : gL} {Q : Option Value → gM → gL → gR → Prop} (hld : isLa ld) {p1 : Int32}  {q : Int32 × gM} (h : F_Reader_takeInt p1 M L = some q) (hQ : Q (some (.int q.1)) q.2 L (rf ld)) : Tm l y_Reader_takeInt (0, 0, 447) 447 [.ref 3, .int p1] M L (rf ld) Q := by
  refine Tm.of (by decide) (Nat.le_of_ble_eq_true rfl) ?_
  show Wp l y_Reader_takeInt (0, 0, 447) 447 0 0 0 [(0, .ref 3), (1, .int p1)] [] M L (rf ld) Q
  unfold F_Reader_takeInt at h
  refine g_aload_n (pc1 := 1) d_Reader_takeInt_0 rfl 0 rfl ?_
  refine g_getr (pc1 := 4) d_Reader_takeInt_1 rfl ⟨_, fo_Reader_12⟩ sh_3 (by decide) (rf_3_0 ld) ?_
  refine g_aload_n (pc1 := 5) d_Reader_takeInt_4 rfl 0 rfl ?_
  refine g_geti (pc1 := 8) d_Reader_takeInt_5 rfl ⟨_, fo_Reader_38⟩ sh_3 (by decide) ?_
  refine g_callV0 (pc1 := 11) (As := [.int (M 3 1)]) (rest := []) d_Reader_takeInt_8 rfl mo_Reader_111 mi_Tokens_valueAt mv_Tokens_valueAt rfl sh_4 (by decide) (by decide) rfl rfl (Nat.le_of_ble_eq_true rfl) ?_
  obtain ⟨r2, hq1, h⟩ := bnd h
  refine f_Tokens_valueAt hld  hq1 ?_
  dsimp only [psh]
  refine g_l2i (pc1 := 12) d_Reader_takeInt_11 rfl ?_
  refine Wp.lI h (fun x3 h => ?_)
  refine g_istore_n (pc1 := 13) (lv' := [(0, .ref 3), (1, .int p1), (2, .int x3)]) d_Reader_takeInt_12 rfl rfl (by decide) [1, 2, 0] rfl ?_
  refine g_aload_n (pc1 := 14) d_Reader_takeInt_13 rfl 0 rfl ?_
  refine g_iconst (pc1 := 15) (v := 3) d_Reader_takeInt_14 rfl (by decide) ?_
  refine g_callV0 (pc1 := 18) (As := [.int 3]) (rest := []) d_Reader_takeInt_15 rfl mo_Reader_51 mi_Reader_is mv_Reader_is rfl sh_3 (by decide) (by decide) rfl rfl (Nat.le_of_ble_eq_true rfl) ?_
  obtain ⟨r5, hq4, h⟩ := bnd h
  refine f_Reader_is hld  hq4 ?_
  dsimp only [psh]
  refine g_if_eq (pc1 := 21) (tgt := 31) d_Reader_takeInt_18 (by decide) rfl (fun c6 => ?_) (fun c6 => ?_)
  · replace h := itp h c6
    refine Wp.loc (lv' := [(0, .ref 3), (2, .int x3)]) [0, 2] rfl ?_
    exact j_Reader_takeInt_31 hld  hQ  h
  · replace h := itn h c6
    refine g_iload_n (pc1 := 22) d_Reader_takeInt_21 rfl 2 rfl ?_
    refine g_iload_n (pc1 := 23) d_Reader_takeInt_22 rfl 1 rfl ?_
    refine g_icmp_le (pc1 := 26) (tgt := 31) d_Reader_takeInt_23 (by decide) rfl (fun c9 => ?_) (fun c9 => ?_)
    · replace h := itp h c9
      refine Wp.loc (lv' := [(0, .ref 3), (2, .int x3)]) [0, 2] rfl ?_
      exact j_Reader_takeInt_31 hld  hQ  h
    · replace h := itn h c9
      refine g_aload_n (pc1 := 27) d_Reader_takeInt_26 rfl 0 rfl ?_
      refine g_iconst (pc1 := 28) (v := 5) d_Reader_takeInt_27 rfl (by decide) ?_
      refine g_callV0 (pc1 := 31) (As := [.int 5]) (rest := []) d_Reader_takeInt_28 rfl mo_Reader_115 mi_Reader_stopLate mv_Reader_stopLate rfl sh_3 (by decide) (by decide) rfl rfl (Nat.le_of_ble_eq_true rfl) ?_
      obtain ⟨M11, hq10, h⟩ := bnd h
      refine f_Reader_stopLate hld  hq10 ?_
      dsimp only [psh]
      refine Wp.loc (lv' := [(0, .ref 3), (2, .int x3)]) [0, 2] rfl ?_
      exact j_Reader_takeInt_31 hld  hQ  h

def J_Reader_takeNewName_97 (M : gM) (L : gL) : Option (gM × gL) :=
  bI (F_Reader_need 2 M) (fun M5 => some (M5, L))
set_option maxHeartbeats 4000000 in
set_option maxRecDepth 20000 in
theorem j_Reader_takeNewName_97 {l : Launch} {ld : Nat} {Q : Option Value → gM → gL → gR → Prop} (hld : isLa ld)   {q : gM × gL} {M : gM} {L : gL} (hQ : Q none q.1 q.2 (rf ld))    (h : J_Reader_takeNewName_97 M L = some q) : Wp l y_Reader_takeNewName (0, 0, 447) 447 0 0 97 [(0, .ref 3)] [] M L (rf ld) Q := by
  unfold J_Reader_takeNewName_97 at h
  refine g_aload_n (pc1 := 98) d_Reader_takeNewName_97 rfl 0 rfl ?_
  refine g_iconst (pc1 := 99) (v := 2) d_Reader_takeNewName_98 rfl (by decide) ?_
  refine g_callV0 (pc1 := 102) (As := [.int 2]) (rest := []) d_Reader_takeNewName_99 rfl mo_Reader_118 mi_Reader_need mv_Reader_need rfl sh_3 (by decide) (by decide) rfl rfl (Nat.le_of_ble_eq_true rfl) ?_
  obtain ⟨M5, hq4, h⟩ := bnd h
  refine f_Reader_need hld  hq4 ?_
  dsimp only [psh]
  refine g_return rfl d_Reader_takeNewName_102 rfl ?_
  cases h; exact hQ
def F_Reader_takeNewName (p1 : Int32) (M : gM) (L : gL) : Option (gM × gL) :=
  bI (F_Reader_is 2 M) (fun r2 => (if r2 = 0 then J_Reader_takeNewName_97 M L else bI (F_Tokens_valueAt (M 3 1) L) (fun r7 => bI (F_Reader_indexOf r7 M L) (fun r9 => (if r9 < 0 then (if (M 3 8) < 0 then J_Reader_takeNewName_97 M L else (if 21 ≤ (M 3 8) then J_Reader_takeNewName_97 M L else (if 21 ≤ (M 3 8) then J_Reader_takeNewName_97 M L else (if ((M 3 8) : Int32) < 0 ∨ 21 ≤ ((M 3 8) : Int32).toNatClampNeg then none else nmL (uL L 9 ((M 3 8) : Int32).toNatClampNeg r7) (fun L15 => (if ((M 3 8) : Int32) < 0 ∨ 21 ≤ ((M 3 8) : Int32).toNatClampNeg then none else nmM (uM M 10 ((M 3 8) : Int32).toNatClampNeg p1) (fun M17 => nmM (uM M17 3 8 ((M17 3 8) + 1)) (fun M18 => J_Reader_takeNewName_97 M18 L15)))))))) else bI (F_Reader_stopLate 3 M) (fun M20 => J_Reader_takeNewName_97 M20 L))))))
set_option maxHeartbeats 4000000 in
set_option maxRecDepth 20000 in
theorem f_Reader_takeNewName {l : Launch} {ld : Nat} {M : gM} {L : gL} {Q : Option Value → gM → gL → gR → Prop} (hld : isLa ld) {p1 : Int32}  {q : gM × gL} (h : F_Reader_takeNewName p1 M L = some q) (hQ : Q none q.1 q.2 (rf ld)) : Tm l y_Reader_takeNewName (0, 0, 447) 447 [.ref 3, .int p1] M L (rf ld) Q := by
  refine Tm.of (by decide) (Nat.le_of_ble_eq_true rfl) ?_
  show Wp l y_Reader_takeNewName (0, 0, 447) 447 0 0 0 [(0, .ref 3), (1, .int p1)] [] M L (rf ld) Q
  unfold F_Reader_takeNewName at h
  refine g_aload_n (pc1 := 1) d_Reader_takeNewName_0 rfl 0 rfl ?_
  refine g_iconst (pc1 := 2) (v := 2) d_Reader_takeNewName_1 rfl (by decide) ?_
  refine g_callV0 (pc1 := 5) (As := [.int 2]) (rest := []) d_Reader_takeNewName_2 rfl mo_Reader_51 mi_Reader_is mv_Reader_is rfl sh_3 (by decide) (by decide) rfl rfl (Nat.le_of_ble_eq_true rfl) ?_
  obtain ⟨r2, hq1, h⟩ := bnd h
  refine f_Reader_is hld  hq1 ?_
  dsimp only [psh]
  refine g_if_eq (pc1 := 8) (tgt := 97) d_Reader_takeNewName_5 (by decide) rfl (fun c3 => ?_) (fun c3 => ?_)
  · replace h := itp h c3
    refine Wp.loc (lv' := [(0, .ref 3)]) [0] rfl ?_
    exact j_Reader_takeNewName_97 hld  hQ  h
  · replace h := itn h c3
    refine g_aload_n (pc1 := 9) d_Reader_takeNewName_8 rfl 0 rfl ?_
    refine g_getr (pc1 := 12) d_Reader_takeNewName_9 rfl ⟨_, fo_Reader_12⟩ sh_3 (by decide) (rf_3_0 ld) ?_
    refine g_aload_n (pc1 := 13) d_Reader_takeNewName_12 rfl 0 rfl ?_
    refine g_geti (pc1 := 16) d_Reader_takeNewName_13 rfl ⟨_, fo_Reader_38⟩ sh_3 (by decide) ?_
    refine g_callV0 (pc1 := 19) (As := [.int (M 3 1)]) (rest := []) d_Reader_takeNewName_16 rfl mo_Reader_111 mi_Tokens_valueAt mv_Tokens_valueAt rfl sh_4 (by decide) (by decide) rfl rfl (Nat.le_of_ble_eq_true rfl) ?_
    obtain ⟨r7, hq6, h⟩ := bnd h
    refine f_Tokens_valueAt hld  hq6 ?_
    dsimp only [psh]
    refine g_lstore_n (pc1 := 20) (lv' := [(0, .ref 3), (1, .int p1), (2, .long r7)]) d_Reader_takeNewName_19 rfl rfl (by decide) [1, 2, 0] rfl ?_
    refine g_aload_n (pc1 := 21) d_Reader_takeNewName_20 rfl 0 rfl ?_
    refine g_lload_n (pc1 := 22) d_Reader_takeNewName_21 rfl 2 rfl ?_
    refine g_callV0 (pc1 := 25) (As := [.long r7]) (rest := []) d_Reader_takeNewName_22 rfl mo_Reader_121 mi_Reader_indexOf mv_Reader_indexOf rfl sh_3 (by decide) (by decide) rfl rfl (Nat.le_of_ble_eq_true rfl) ?_
    obtain ⟨r9, hq8, h⟩ := bnd h
    refine f_Reader_indexOf hld  hq8 ?_
    dsimp only [psh]
    refine g_if_lt (pc1 := 28) (tgt := 36) d_Reader_takeNewName_25 (by decide) rfl (fun c10 => ?_) (fun c10 => ?_)
    · replace h := itp h c10
      refine g_aload_n (pc1 := 37) d_Reader_takeNewName_36 rfl 0 rfl ?_
      refine g_geti (pc1 := 40) d_Reader_takeNewName_37 rfl ⟨_, fo_Reader_48⟩ sh_3 (by decide) ?_
      refine g_if_lt (pc1 := 43) (tgt := 97) d_Reader_takeNewName_40 (by decide) rfl (fun c11 => ?_) (fun c11 => ?_)
      · replace h := itp h c11
        refine Wp.loc (lv' := [(0, .ref 3)]) [0] rfl ?_
        exact j_Reader_takeNewName_97 hld  hQ  h
      · replace h := itn h c11
        refine g_aload_n (pc1 := 44) d_Reader_takeNewName_43 rfl 0 rfl ?_
        refine g_geti (pc1 := 47) d_Reader_takeNewName_44 rfl ⟨_, fo_Reader_48⟩ sh_3 (by decide) ?_
        refine g_aload_n (pc1 := 48) d_Reader_takeNewName_47 rfl 0 rfl ?_
        refine g_getr (pc1 := 51) d_Reader_takeNewName_48 rfl ⟨_, fo_Reader_18⟩ sh_3 (by decide) (rf_3_6 ld) ?_
        refine g_alen (pc1 := 52) (v := 21) d_Reader_takeNewName_51 rfl sh_9 (by decide) (by decide) (by decide) (by decide) ?_
        refine g_icmp_ge (pc1 := 55) (tgt := 97) d_Reader_takeNewName_52 (by decide) rfl (fun c12 => ?_) (fun c12 => ?_)
        · replace h := itp h c12
          refine Wp.loc (lv' := [(0, .ref 3)]) [0] rfl ?_
          exact j_Reader_takeNewName_97 hld  hQ  h
        · replace h := itn h c12
          refine g_aload_n (pc1 := 56) d_Reader_takeNewName_55 rfl 0 rfl ?_
          refine g_geti (pc1 := 59) d_Reader_takeNewName_56 rfl ⟨_, fo_Reader_48⟩ sh_3 (by decide) ?_
          refine g_aload_n (pc1 := 60) d_Reader_takeNewName_59 rfl 0 rfl ?_
          refine g_getr (pc1 := 63) d_Reader_takeNewName_60 rfl ⟨_, fo_Reader_22⟩ sh_3 (by decide) (rf_3_7 ld) ?_
          refine g_alen (pc1 := 64) (v := 21) d_Reader_takeNewName_63 rfl sh_10 (by decide) (by decide) (by decide) (by decide) ?_
          refine g_icmp_ge (pc1 := 67) (tgt := 97) d_Reader_takeNewName_64 (by decide) rfl (fun c13 => ?_) (fun c13 => ?_)
          · replace h := itp h c13
            refine Wp.loc (lv' := [(0, .ref 3)]) [0] rfl ?_
            exact j_Reader_takeNewName_97 hld  hQ  h
          · replace h := itn h c13
            refine g_aload_n (pc1 := 68) d_Reader_takeNewName_67 rfl 0 rfl ?_
            refine g_getr (pc1 := 71) d_Reader_takeNewName_68 rfl ⟨_, fo_Reader_18⟩ sh_3 (by decide) (rf_3_6 ld) ?_
            refine g_aload_n (pc1 := 72) d_Reader_takeNewName_71 rfl 0 rfl ?_
            refine g_geti (pc1 := 75) d_Reader_takeNewName_72 rfl ⟨_, fo_Reader_48⟩ sh_3 (by decide) ?_
            refine g_lload_n (pc1 := 76) d_Reader_takeNewName_75 rfl 2 rfl ?_
            obtain ⟨g14, h⟩ := gdn h
            refine g_last (pc1 := 77) d_Reader_takeNewName_76 rfl sh_9 (by decide) g14 ?_
            refine Wp.lL h (fun L15 h => ?_)
            refine g_aload_n (pc1 := 78) d_Reader_takeNewName_77 rfl 0 rfl ?_
            refine g_getr (pc1 := 81) d_Reader_takeNewName_78 rfl ⟨_, fo_Reader_22⟩ sh_3 (by decide) (rf_3_7 ld) ?_
            refine g_aload_n (pc1 := 82) d_Reader_takeNewName_81 rfl 0 rfl ?_
            refine g_geti (pc1 := 85) d_Reader_takeNewName_82 rfl ⟨_, fo_Reader_48⟩ sh_3 (by decide) ?_
            refine g_iload_n (pc1 := 86) d_Reader_takeNewName_85 rfl 1 rfl ?_
            obtain ⟨g16, h⟩ := gdn h
            refine g_iast (pc1 := 87) d_Reader_takeNewName_86 rfl sh_10 (by decide) g16 ?_
            refine Wp.lM h (fun M17 h => ?_)
            refine g_aload_n (pc1 := 88) d_Reader_takeNewName_87 rfl 0 rfl ?_
            refine g_dup (pc1 := 89) d_Reader_takeNewName_88 rfl rfl ?_
            refine g_geti (pc1 := 92) d_Reader_takeNewName_89 rfl ⟨_, fo_Reader_48⟩ sh_3 (by decide) ?_
            refine g_iconst (pc1 := 93) (v := 1) d_Reader_takeNewName_92 rfl (by decide) ?_
            refine g_iadd (pc1 := 94) d_Reader_takeNewName_93 rfl ?_
            refine g_puti (pc1 := 97) d_Reader_takeNewName_94 rfl fo_Reader_48 (po_2_8 _) sh_3 (by decide) ?_
            refine Wp.lM h (fun M18 h => ?_)
            refine Wp.loc (lv' := [(0, .ref 3)]) [0] rfl ?_
            exact j_Reader_takeNewName_97 hld  hQ  h
    · replace h := itn h c10
      refine g_aload_n (pc1 := 29) d_Reader_takeNewName_28 rfl 0 rfl ?_
      refine g_iconst (pc1 := 30) (v := 3) d_Reader_takeNewName_29 rfl (by decide) ?_
      refine g_callV0 (pc1 := 33) (As := [.int 3]) (rest := []) d_Reader_takeNewName_30 rfl mo_Reader_115 mi_Reader_stopLate mv_Reader_stopLate rfl sh_3 (by decide) (by decide) rfl rfl (Nat.le_of_ble_eq_true rfl) ?_
      obtain ⟨M20, hq19, h⟩ := bnd h
      refine f_Reader_stopLate hld  hq19 ?_
      dsimp only [psh]
      refine g_goto (tgt := 97) d_Reader_takeNewName_33 (by decide) ?_
      refine Wp.loc (lv' := [(0, .ref 3)]) [0] rfl ?_
      exact j_Reader_takeNewName_97 hld  hQ  h

def J_Reader_takeSum_89 (Wl1 : Nat) (M : gM) (L : gL) : Option (gM) :=
  bI (F_Reader_layHeld Wl1 1 M) (fun M5 => some M5)
set_option maxHeartbeats 4000000 in
set_option maxRecDepth 20000 in
theorem j_Reader_takeSum_89 {l : Launch} {ld : Nat} {Q : Option Value → gM → gL → gR → Prop} (hld : isLa ld) {Wl1 : Nat} (hWl1 : isLw Wl1) {q : gM} {M : gM} {L : gL} (hQ : Q none q L (rf ld))    (h : J_Reader_takeSum_89 Wl1 M L = some q) : Wp l y_Reader_takeSum (0, 0, 447) 447 0 0 89 [(0, .ref 3), (1, .ref Wl1)] [] M L (rf ld) Q := by
  unfold J_Reader_takeSum_89 at h
  refine g_aload_n (pc1 := 90) d_Reader_takeSum_89 rfl 0 rfl ?_
  refine g_aload_n (pc1 := 91) d_Reader_takeSum_90 rfl 1 rfl ?_
  refine g_iconst (pc1 := 92) (v := 1) d_Reader_takeSum_91 rfl (by decide) ?_
  refine g_callV0 (pc1 := 95) (As := [.ref Wl1, .int 1]) (rest := []) d_Reader_takeSum_92 rfl mo_Reader_215 mi_Reader_layHeld mv_Reader_layHeld rfl sh_3 (by decide) (by decide) rfl rfl (Nat.le_of_ble_eq_true rfl) ?_
  obtain ⟨M5, hq4, h⟩ := bnd h
  refine f_Reader_layHeld hld hWl1 hq4 ?_
  dsimp only [psh]
  refine g_return rfl d_Reader_takeSum_95 rfl ?_
  cases h; exact hQ
def J_Reader_takeSum_83 (Wl1 : Nat) (K14 : Int32 → Int32 → gM → Option (gM)) (v2 : Int32) (v3 : Int32) (M : gM) (L : gL) : Option (gM) :=
  nmI (v3 + 1) (fun x16 => K14 v2 x16 M)
set_option maxHeartbeats 4000000 in
set_option maxRecDepth 20000 in
theorem j_Reader_takeSum_83 {l : Launch} {ld : Nat} {Q : Option Value → gM → gL → gR → Prop} (hld : isLa ld) {Wl1 : Nat} (hWl1 : isLw Wl1) {q : gM} {M : gM} {L : gL} (hQ : Q none q L (rf ld)) {K14 : Int32 → Int32 → gM → Option (gM)} {v2 : Int32} {v3 : Int32} (hK14 : ∀ (w2 : Int32) (w3 : Int32) (M : gM), K14 w2 w3 M = some q → Wp l y_Reader_takeSum (0, 0, 447) 447 0 0 14 [(0, .ref 3), (1, .ref Wl1), (2, .int w2), (3, .int w3)] [] M L (rf ld) Q) (h : J_Reader_takeSum_83 Wl1 K14 v2 v3 M L = some q) : Wp l y_Reader_takeSum (0, 0, 447) 447 0 0 83 [(0, .ref 3), (1, .ref Wl1), (2, .int v2), (3, .int v3)] [] M L (rf ld) Q := by
  unfold J_Reader_takeSum_83 at h
  obtain ⟨x16, ex16, h⟩ := ltI h
  refine g_iinc (pc1 := 86) (v := x16) (lv' := [(0, .ref 3), (1, .ref Wl1), (2, .int v2), (3, .int x16)]) d_Reader_takeSum_83 rfl 3 rfl (by rw [ex16]; rfl) (by decide) [1, 2, 3, 0] rfl ?_
  refine g_goto (tgt := 14) d_Reader_takeSum_86 (by decide) ?_
  exact hK14 v2 x16 M h
def B_Reader_takeSum_14 (Wl1 : Nat) (L : gL) (K14 : Int32 → Int32 → gM → Option (gM)) : Int32 → Int32 → gM → Option (gM) := fun v2 v3 M =>
  (if 400 < v3 then J_Reader_takeSum_89 Wl1 M L else (if (M 3 2) = 0 then (if v2 = 0 then bI (F_Main_at 6 401 (M 3 1) M) (fun r9 => bI (F_Reader_rank r9) (fun r11 => (if r11 ≤ 0 then (if (M 3 11) ≤ 0 then J_Reader_takeSum_89 Wl1 M L else bI (F_Reader_takeClose Wl1 M) (fun M15 => J_Reader_takeSum_83 Wl1 K14 v2 v3 M15 L)) else bI (F_Reader_takeSign Wl1 M) (fun M18 => J_Reader_takeSum_83 Wl1 K14 1 v3 M18 L)))) else bI2 (F_Reader_takeUnit Wl1 M L) (fun r20 M21 => J_Reader_takeSum_83 Wl1 K14 r20 v3 M21 L)) else J_Reader_takeSum_89 Wl1 M L))
def H_Reader_takeSum_14 (Wl1 : Nat) (L : gL) : Nat → Int32 → Int32 → gM → Option (gM) := lpK (B_Reader_takeSum_14 Wl1 L) (fun _ _ _ => none)
set_option maxHeartbeats 4000000 in
set_option maxRecDepth 20000 in
theorem h_Reader_takeSum_14 {l : Launch} {ld : Nat} {Q : Option Value → gM → gL → gR → Prop} (hld : isLa ld) {Wl1 : Nat} (hWl1 : isLw Wl1) {q : gM} {L : gL} (hQ : Q none q L (rf ld))    : ∀ (f : Nat) (v2 : Int32) (v3 : Int32) (M : gM), H_Reader_takeSum_14 Wl1 L f v2 v3 M = some q → Wp l y_Reader_takeSum (0, 0, 447) 447 0 0 14 [(0, .ref 3), (1, .ref Wl1), (2, .int v2), (3, .int v3)] [] M L (rf ld) Q := by
  intro f
  induction f with
  | zero => intro v2 v3 M h; cases h
  | succ f hK14 =>
    intro v2 v3 M h
    replace h : B_Reader_takeSum_14 Wl1 L (H_Reader_takeSum_14 Wl1 L f) v2 v3 M = some q := h
    unfold B_Reader_takeSum_14 at h
    refine g_iload_n (pc1 := 15) d_Reader_takeSum_14 rfl 3 rfl ?_
    refine g_sipush (pc1 := 18) (v := 400) d_Reader_takeSum_15 rfl (by decide) ?_
    refine g_icmp_gt (pc1 := 21) (tgt := 89) d_Reader_takeSum_18 (by decide) rfl (fun c3 => ?_) (fun c3 => ?_)
    · replace h := itp h c3
      refine Wp.loc (lv' := [(0, .ref 3), (1, .ref Wl1)]) [0, 1] rfl ?_
      exact j_Reader_takeSum_89 hld hWl1 hQ  h
    · replace h := itn h c3
      refine g_aload_n (pc1 := 22) d_Reader_takeSum_21 rfl 0 rfl ?_
      refine g_geti (pc1 := 25) d_Reader_takeSum_22 rfl ⟨_, fo_Reader_42⟩ sh_3 (by decide) ?_
      refine g_if_ne (pc1 := 28) (tgt := 89) d_Reader_takeSum_25 (by decide) rfl (fun c6 => ?_) (fun c6 => ?_)
      · replace h := itn h c6
        refine Wp.loc (lv' := [(0, .ref 3), (1, .ref Wl1)]) [0, 1] rfl ?_
        exact j_Reader_takeSum_89 hld hWl1 hQ  h
      · replace h := itp h c6
        refine g_iload_n (pc1 := 29) d_Reader_takeSum_28 rfl 2 rfl ?_
        refine g_if_eq (pc1 := 32) (tgt := 41) d_Reader_takeSum_29 (by decide) rfl (fun c7 => ?_) (fun c7 => ?_)
        · replace h := itp h c7
          refine g_aload_n (pc1 := 42) d_Reader_takeSum_41 rfl 0 rfl ?_
          refine g_getr (pc1 := 45) d_Reader_takeSum_42 rfl ⟨_, fo_Reader_12⟩ sh_3 (by decide) (rf_3_0 ld) ?_
          refine g_getr (pc1 := 48) d_Reader_takeSum_45 rfl ⟨_, fo_Reader_55⟩ sh_4 (by decide) (rf_4_1 ld) ?_
          refine g_aload_n (pc1 := 49) d_Reader_takeSum_48 rfl 0 rfl ?_
          refine g_geti (pc1 := 52) d_Reader_takeSum_49 rfl ⟨_, fo_Reader_38⟩ sh_3 (by decide) ?_
          refine g_callS0 (pc1 := 55) (As := [.ref 6, .int (M 3 1)]) (rest := []) d_Reader_takeSum_52 rfl mo_Reader_58 ms_Main_at (by decide) rfl rfl (Nat.le_of_ble_eq_true rfl) ?_
          obtain ⟨r9, hq8, h⟩ := bnd h
          refine f_Main_at hld sh_6 (by decide) (by decide) hq8 ?_
          dsimp only [psh]
          refine g_callS0 (pc1 := 58) (As := [.int r9]) (rest := []) d_Reader_takeSum_55 rfl mo_Reader_206 ms_Reader_rank (by decide) rfl rfl (Nat.le_of_ble_eq_true rfl) ?_
          obtain ⟨r11, hq10, h⟩ := bnd h
          refine f_Reader_rank hld  hq10 ?_
          dsimp only [psh]
          refine g_if_le (pc1 := 61) (tgt := 71) d_Reader_takeSum_58 (by decide) rfl (fun c12 => ?_) (fun c12 => ?_)
          · replace h := itp h c12
            refine g_aload_n (pc1 := 72) d_Reader_takeSum_71 rfl 0 rfl ?_
            refine g_geti (pc1 := 75) d_Reader_takeSum_72 rfl ⟨_, fo_Reader_196⟩ sh_3 (by decide) ?_
            refine g_if_le (pc1 := 78) (tgt := 89) d_Reader_takeSum_75 (by decide) rfl (fun c13 => ?_) (fun c13 => ?_)
            · replace h := itp h c13
              refine Wp.loc (lv' := [(0, .ref 3), (1, .ref Wl1)]) [0, 1] rfl ?_
              exact j_Reader_takeSum_89 hld hWl1 hQ  h
            · replace h := itn h c13
              refine g_aload_n (pc1 := 79) d_Reader_takeSum_78 rfl 0 rfl ?_
              refine g_aload_n (pc1 := 80) d_Reader_takeSum_79 rfl 1 rfl ?_
              refine g_callV0 (pc1 := 83) (As := [.ref Wl1]) (rest := []) d_Reader_takeSum_80 rfl mo_Reader_212 mi_Reader_takeClose mv_Reader_takeClose rfl sh_3 (by decide) (by decide) rfl rfl (Nat.le_of_ble_eq_true rfl) ?_
              obtain ⟨M15, hq14, h⟩ := bnd h
              refine f_Reader_takeClose hld hWl1 hq14 ?_
              dsimp only [psh]
              exact j_Reader_takeSum_83 hld hWl1 hQ hK14 h
          · replace h := itn h c12
            refine g_aload_n (pc1 := 62) d_Reader_takeSum_61 rfl 0 rfl ?_
            refine g_aload_n (pc1 := 63) d_Reader_takeSum_62 rfl 1 rfl ?_
            refine g_callV0 (pc1 := 66) (As := [.ref Wl1]) (rest := []) d_Reader_takeSum_63 rfl mo_Reader_209 mi_Reader_takeSign mv_Reader_takeSign rfl sh_3 (by decide) (by decide) rfl rfl (Nat.le_of_ble_eq_true rfl) ?_
            obtain ⟨M18, hq17, h⟩ := bnd h
            refine f_Reader_takeSign hld hWl1 hq17 ?_
            dsimp only [psh]
            refine g_iconst (pc1 := 67) (v := 1) d_Reader_takeSum_66 rfl (by decide) ?_
            refine g_istore_n (pc1 := 68) (lv' := [(0, .ref 3), (1, .ref Wl1), (2, .int 1), (3, .int v3)]) d_Reader_takeSum_67 rfl rfl (by decide) [1, 2, 0, 3] rfl ?_
            refine g_goto (tgt := 83) d_Reader_takeSum_68 (by decide) ?_
            exact j_Reader_takeSum_83 hld hWl1 hQ hK14 h
        · replace h := itn h c7
          refine g_aload_n (pc1 := 33) d_Reader_takeSum_32 rfl 0 rfl ?_
          refine g_aload_n (pc1 := 34) d_Reader_takeSum_33 rfl 1 rfl ?_
          refine g_callV0 (pc1 := 37) (As := [.ref Wl1]) (rest := []) d_Reader_takeSum_34 rfl mo_Reader_202 mi_Reader_takeUnit mv_Reader_takeUnit rfl sh_3 (by decide) (by decide) rfl rfl (Nat.le_of_ble_eq_true rfl) ?_
          obtain ⟨r20, M21, hq19, h⟩ := bnd2 h
          refine f_Reader_takeUnit hld hWl1 hq19 ?_
          dsimp only [psh]
          refine g_istore_n (pc1 := 38) (lv' := [(0, .ref 3), (1, .ref Wl1), (2, .int r20), (3, .int v3)]) d_Reader_takeSum_37 rfl rfl (by decide) [1, 2, 0, 3] rfl ?_
          refine g_goto (tgt := 83) d_Reader_takeSum_38 (by decide) ?_
          exact j_Reader_takeSum_83 hld hWl1 hQ hK14 h
def F_Reader_takeSum (Wl1 : Nat) (M : gM) (L : gL) : Option (gM) :=
  nmM (uM M 3 11 0) (fun M1 => nmM (uM M1 3 10 0) (fun M2 => H_Reader_takeSum_14 Wl1 L FU 1 0 M2))
set_option maxHeartbeats 4000000 in
set_option maxRecDepth 20000 in
theorem f_Reader_takeSum {l : Launch} {ld : Nat} {M : gM} {L : gL} {Q : Option Value → gM → gL → gR → Prop} (hld : isLa ld) {Wl1 : Nat} (hWl1 : isLw Wl1) {q : gM} (h : F_Reader_takeSum Wl1 M L = some q) (hQ : Q none q L (rf ld)) : Tm l y_Reader_takeSum (0, 0, 447) 447 [.ref 3, .ref Wl1] M L (rf ld) Q := by
  refine Tm.of (by decide) (Nat.le_of_ble_eq_true rfl) ?_
  show Wp l y_Reader_takeSum (0, 0, 447) 447 0 0 0 [(0, .ref 3), (1, .ref Wl1)] [] M L (rf ld) Q
  unfold F_Reader_takeSum at h
  refine g_aload_n (pc1 := 1) d_Reader_takeSum_0 rfl 0 rfl ?_
  refine g_iconst (pc1 := 2) (v := 0) d_Reader_takeSum_1 rfl (by decide) ?_
  refine g_puti (pc1 := 5) d_Reader_takeSum_2 rfl fo_Reader_196 (po_2_11 _) sh_3 (by decide) ?_
  refine Wp.lM h (fun M1 h => ?_)
  refine g_aload_n (pc1 := 6) d_Reader_takeSum_5 rfl 0 rfl ?_
  refine g_iconst (pc1 := 7) (v := 0) d_Reader_takeSum_6 rfl (by decide) ?_
  refine g_puti (pc1 := 10) d_Reader_takeSum_7 rfl fo_Reader_199 (po_2_10 _) sh_3 (by decide) ?_
  refine Wp.lM h (fun M2 h => ?_)
  refine g_iconst (pc1 := 11) (v := 1) d_Reader_takeSum_10 rfl (by decide) ?_
  refine g_istore_n (pc1 := 12) (lv' := [(0, .ref 3), (1, .ref Wl1), (2, .int 1)]) d_Reader_takeSum_11 rfl rfl (by decide) [1, 2, 0] rfl ?_
  refine g_iconst (pc1 := 13) (v := 0) d_Reader_takeSum_12 rfl (by decide) ?_
  refine g_istore_n (pc1 := 14) (lv' := [(0, .ref 3), (1, .ref Wl1), (2, .int 1), (3, .int 0)]) d_Reader_takeSum_13 rfl rfl (by decide) [1, 2, 3, 0] rfl ?_
  exact h_Reader_takeSum_14 hld hWl1 hQ  _ 1 0 M2 h

def F_State_boundOf (X0 : Nat) (Ld1 : Nat) (p2 : Int32) (p3 : Int32) (p4 : Int32) (M : gM) : Option (Int32 × gM) :=
  bI (F_State_hasEaten X0 p2 M) (fun r2 => (if r2 = 0 then some (0, M) else bI (F_Main_at (X0 + 6) 12 ((p2 * 3) + p3) M) (fun r5 => bI (F_State_agoOf X0 p2 M) (fun r7 => bI2 (F_Land_boundBy Ld1 p2 p3 r5 (r7 + p4) ((M X0 0) + p4) M) (fun r9 M10 => some (r9, M10))))))
set_option maxHeartbeats 4000000 in
set_option maxRecDepth 20000 in
theorem f_State_boundOf {l : Launch} {ld : Nat} {M : gM} {L : gL} {Q : Option Value → gM → gL → gR → Prop} (hld : isLa ld) {X0 : Nat} {Ld1 : Nat} {p2 : Int32} {p3 : Int32} {p4 : Int32} (hX0 : isSt X0) (hLd1 : isLa Ld1) {q : Int32 × gM} (h : F_State_boundOf X0 Ld1 p2 p3 p4 M = some q) (hQ : Q (some (.int q.1)) q.2 L (rf ld)) : Tm l y_State_boundOf (0, 0, 447) 447 [.ref X0, .ref Ld1, .int p2, .int p3, .int p4] M L (rf ld) Q := by
  refine Tm.of (by decide) (Nat.le_of_ble_eq_true rfl) ?_
  show Wp l y_State_boundOf (0, 0, 447) 447 0 0 0 [(0, .ref X0), (1, .ref Ld1), (2, .int p2), (3, .int p3), (4, .int p4)] [] M L (rf ld) Q
  unfold F_State_boundOf at h
  refine g_aload_n (pc1 := 1) d_State_boundOf_0 rfl 0 rfl ?_
  refine g_iload_n (pc1 := 2) d_State_boundOf_1 rfl 2 rfl ?_
  refine g_callV0 (pc1 := 5) (As := [.int p2]) (rest := []) d_State_boundOf_2 rfl mo_State_97 mi_State_hasEaten mv_State_hasEaten rfl (shSt_0 hX0) (ltSt_0 hX0) (by decide) rfl rfl (Nat.le_of_ble_eq_true rfl) ?_
  obtain ⟨r2, hq1, h⟩ := bnd h
  refine f_State_hasEaten hld hX0 hq1 ?_
  dsimp only [psh]
  refine g_if_ne (pc1 := 8) (tgt := 10) d_State_boundOf_5 (by decide) rfl (fun c3 => ?_) (fun c3 => ?_)
  · replace h := itn h c3
    refine g_aload_n (pc1 := 11) d_State_boundOf_10 rfl 1 rfl ?_
    refine g_iload_n (pc1 := 12) d_State_boundOf_11 rfl 2 rfl ?_
    refine g_iload_n (pc1 := 13) d_State_boundOf_12 rfl 3 rfl ?_
    refine g_aload_n (pc1 := 14) d_State_boundOf_13 rfl 0 rfl ?_
    refine g_getr (pc1 := 17) d_State_boundOf_14 rfl ⟨_, fo_State_31⟩ (shSt_0 hX0) (ltSt_0 hX0) (rfSt_9 ld hX0) ?_
    refine g_iload_n (pc1 := 18) d_State_boundOf_17 rfl 2 rfl ?_
    refine g_iconst (pc1 := 19) (v := 3) d_State_boundOf_18 rfl (by decide) ?_
    refine g_imul (pc1 := 20) d_State_boundOf_19 rfl ?_
    refine g_iload_n (pc1 := 21) d_State_boundOf_20 rfl 3 rfl ?_
    refine g_iadd (pc1 := 22) d_State_boundOf_21 rfl ?_
    refine g_callS0 (pc1 := 25) (As := [.ref (X0 + 6), .int ((p2 * 3) + p3)]) (rest := [.int p3, .int p2, .ref Ld1]) d_State_boundOf_22 rfl mo_State_53 ms_Main_at (by decide) rfl rfl (Nat.le_of_ble_eq_true rfl) ?_
    obtain ⟨r5, hq4, h⟩ := bnd h
    refine f_Main_at hld (shSt_6 hX0) (ltSt_6 hX0) (by decide) hq4 ?_
    dsimp only [psh]
    refine g_aload_n (pc1 := 26) d_State_boundOf_25 rfl 0 rfl ?_
    refine g_iload_n (pc1 := 27) d_State_boundOf_26 rfl 2 rfl ?_
    refine g_callV0 (pc1 := 30) (As := [.int p2]) (rest := [.int r5, .int p3, .int p2, .ref Ld1]) d_State_boundOf_27 rfl mo_State_101 mi_State_agoOf mv_State_agoOf rfl (shSt_0 hX0) (ltSt_0 hX0) (by decide) rfl rfl (Nat.le_of_ble_eq_true rfl) ?_
    obtain ⟨r7, hq6, h⟩ := bnd h
    refine f_State_agoOf hld hX0 hq6 ?_
    dsimp only [psh]
    refine g_iload (pc1 := 32) d_State_boundOf_30 rfl 4 rfl ?_
    refine g_iadd (pc1 := 33) d_State_boundOf_32 rfl ?_
    refine g_aload_n (pc1 := 34) d_State_boundOf_33 rfl 0 rfl ?_
    refine g_geti (pc1 := 37) d_State_boundOf_34 rfl ⟨_, fo_State_34⟩ (shSt_0 hX0) (ltSt_0 hX0) ?_
    refine g_iload (pc1 := 39) d_State_boundOf_37 rfl 4 rfl ?_
    refine g_iadd (pc1 := 40) d_State_boundOf_39 rfl ?_
    refine g_callV0 (pc1 := 43) (As := [.int p2, .int p3, .int r5, .int (r7 + p4), .int ((M X0 0) + p4)]) (rest := []) d_State_boundOf_40 rfl mo_State_104 mi_Land_boundBy mv_Land_boundBy rfl (shLa_0 hLd1) (ltLa_0 hLd1) (by decide) rfl rfl (Nat.le_of_ble_eq_true rfl) ?_
    obtain ⟨r9, M10, hq8, h⟩ := bnd2 h
    refine f_Land_boundBy hld hLd1 hq8 ?_
    dsimp only [psh]
    refine g_ireturn (Or.inl rfl) d_State_boundOf_43 rfl ?_
    cases h; exact hQ
  · replace h := itp h c3
    refine g_iconst (pc1 := 9) (v := 0) d_State_boundOf_8 rfl (by decide) ?_
    refine g_ireturn (Or.inl rfl) d_State_boundOf_9 rfl ?_
    cases h; exact hQ

def J_State_passDays_66 (X0 : Nat) (Ld1 : Nat) (K2 : Int32 → gM → Option (gM)) (v2 : Int32) (v3 : Int32) (M : gM) : Option (gM) :=
  nmM (uM M X0 0 ((M X0 0) + 1)) (fun M3 => nmI (v3 + 1) (fun x4 => K2 x4 M3))
set_option maxHeartbeats 4000000 in
set_option maxRecDepth 20000 in
theorem j_State_passDays_66 {l : Launch} {ld : Nat} {Q : Option Value → gM → gL → gR → Prop} (hld : isLa ld) {X0 : Nat} {Ld1 : Nat} (hX0 : isSt X0) (hLd1 : isLa Ld1) {q : gM} {M : gM} {L : gL} (hQ : Q none q L (rf ld)) {K2 : Int32 → gM → Option (gM)} {v2 : Int32} {v3 : Int32} (hK2 : ∀ (w3 : Int32) (M : gM), K2 w3 M = some q → Wp l y_State_passDays (0, 0, 447) 447 0 0 2 [(0, .ref X0), (1, .ref Ld1), (2, .int v2), (3, .int w3)] [] M L (rf ld) Q) (h : J_State_passDays_66 X0 Ld1 K2 v2 v3 M = some q) : Wp l y_State_passDays (0, 0, 447) 447 0 0 66 [(0, .ref X0), (1, .ref Ld1), (2, .int v2), (3, .int v3)] [] M L (rf ld) Q := by
  unfold J_State_passDays_66 at h
  refine g_aload_n (pc1 := 67) d_State_passDays_66 rfl 0 rfl ?_
  refine g_dup (pc1 := 68) d_State_passDays_67 rfl rfl ?_
  refine g_geti (pc1 := 71) d_State_passDays_68 rfl ⟨_, fo_State_34⟩ (shSt_0 hX0) (ltSt_0 hX0) ?_
  refine g_iconst (pc1 := 72) (v := 1) d_State_passDays_71 rfl (by decide) ?_
  refine g_iadd (pc1 := 73) d_State_passDays_72 rfl ?_
  refine g_puti (pc1 := 76) d_State_passDays_73 rfl fo_State_34 (po_6_0 _) (shSt_0 hX0) (ltSt_0 hX0) ?_
  refine Wp.lM h (fun M3 h => ?_)
  obtain ⟨x4, ex4, h⟩ := ltI h
  refine g_iinc (pc1 := 79) (v := x4) (lv' := [(0, .ref X0), (1, .ref Ld1), (2, .int v2), (3, .int x4)]) d_State_passDays_76 rfl 3 rfl (by rw [ex4]; rfl) (by decide) [1, 2, 3, 0] rfl ?_
  refine g_goto (tgt := 2) d_State_passDays_79 (by decide) ?_
  exact hK2 x4 M3 h
def B_State_passDays_10 (X0 : Nat) (Ld1 : Nat) (K2 : Int32 → gM → Option (gM)) (v2 : Int32) (v3 : Int32) (K10 : Int32 → gM → Option (gM)) : Int32 → gM → Option (gM) := fun v4 M =>
  (if (M Ld1 0) ≤ v4 then J_State_passDays_66 X0 Ld1 K2 v2 v3 M else bI (F_Main_at (X0 + 2) 6 v4 M) (fun r6 => bI2 (F_Land_fillOf Ld1 v4 r6 (M X0 0) M) (fun r8 M9 => bI (F_Main_within (r6 + r8) 0 99) (fun r11 => bI (F_Main_put (X0 + 2) 6 v4 r11 M9) (fun M13 => nmI (v4 + 1) (fun x14 => K10 x14 M13))))))
def H_State_passDays_10 (X0 : Nat) (Ld1 : Nat) (K2 : Int32 → gM → Option (gM)) (v2 : Int32) (v3 : Int32) : Nat → Int32 → gM → Option (gM) := lpK (B_State_passDays_10 X0 Ld1 K2 v2 v3) (fun _ _ => none)
set_option maxHeartbeats 4000000 in
set_option maxRecDepth 20000 in
theorem h_State_passDays_10 {l : Launch} {ld : Nat} {Q : Option Value → gM → gL → gR → Prop} (hld : isLa ld) {X0 : Nat} {Ld1 : Nat} (hX0 : isSt X0) (hLd1 : isLa Ld1) {q : gM} {L : gL} (hQ : Q none q L (rf ld)) {K2 : Int32 → gM → Option (gM)} {v2 : Int32} {v3 : Int32} (hK2 : ∀ (w3 : Int32) (M : gM), K2 w3 M = some q → Wp l y_State_passDays (0, 0, 447) 447 0 0 2 [(0, .ref X0), (1, .ref Ld1), (2, .int v2), (3, .int w3)] [] M L (rf ld) Q) : ∀ (f : Nat) (v4 : Int32) (M : gM), H_State_passDays_10 X0 Ld1 K2 v2 v3 f v4 M = some q → Wp l y_State_passDays (0, 0, 447) 447 0 0 10 [(0, .ref X0), (1, .ref Ld1), (2, .int v2), (3, .int v3), (4, .int v4)] [] M L (rf ld) Q := by
  intro f
  induction f with
  | zero => intro v4 M h; cases h
  | succ f hK10 =>
    intro v4 M h
    replace h : B_State_passDays_10 X0 Ld1 K2 v2 v3 (H_State_passDays_10 X0 Ld1 K2 v2 v3 f) v4 M = some q := h
    unfold B_State_passDays_10 at h
    refine g_iload (pc1 := 12) d_State_passDays_10 rfl 4 rfl ?_
    refine g_aload_n (pc1 := 13) d_State_passDays_12 rfl 1 rfl ?_
    refine g_geti (pc1 := 16) d_State_passDays_13 rfl ⟨_, fo_State_47⟩ (shLa_0 hLd1) (ltLa_0 hLd1) ?_
    refine g_icmp_ge (pc1 := 19) (tgt := 66) d_State_passDays_16 (by decide) rfl (fun c2 => ?_) (fun c2 => ?_)
    · replace h := itp h c2
      refine Wp.loc (lv' := [(0, .ref X0), (1, .ref Ld1), (2, .int v2), (3, .int v3)]) [0, 1, 2, 3] rfl ?_
      exact j_State_passDays_66 hld hX0 hLd1 hQ hK2 h
    · replace h := itn h c2
      refine g_aload_n (pc1 := 20) d_State_passDays_19 rfl 0 rfl ?_
      refine g_getr (pc1 := 23) d_State_passDays_20 rfl ⟨_, fo_State_19⟩ (shSt_0 hX0) (ltSt_0 hX0) (rfSt_5 ld hX0) ?_
      refine g_iload (pc1 := 25) d_State_passDays_23 rfl 4 rfl ?_
      refine g_callS0 (pc1 := 28) (As := [.ref (X0 + 2), .int v4]) (rest := []) d_State_passDays_25 rfl mo_State_53 ms_Main_at (by decide) rfl rfl (Nat.le_of_ble_eq_true rfl) ?_
      obtain ⟨r6, hq5, h⟩ := bnd h
      refine f_Main_at hld (shSt_2 hX0) (ltSt_2 hX0) (by decide) hq5 ?_
      dsimp only [psh]
      refine g_istore (pc1 := 30) (lv' := [(0, .ref X0), (1, .ref Ld1), (2, .int v2), (3, .int v3), (4, .int v4), (5, .int r6)]) d_State_passDays_28 rfl (by decide) [1, 2, 3, 4, 5, 0] rfl ?_
      refine g_aload_n (pc1 := 31) d_State_passDays_30 rfl 0 rfl ?_
      refine g_getr (pc1 := 34) d_State_passDays_31 rfl ⟨_, fo_State_19⟩ (shSt_0 hX0) (ltSt_0 hX0) (rfSt_5 ld hX0) ?_
      refine g_iload (pc1 := 36) d_State_passDays_34 rfl 4 rfl ?_
      refine g_iload (pc1 := 38) d_State_passDays_36 rfl 5 rfl ?_
      refine g_aload_n (pc1 := 39) d_State_passDays_38 rfl 1 rfl ?_
      refine g_iload (pc1 := 41) d_State_passDays_39 rfl 4 rfl ?_
      refine g_iload (pc1 := 43) d_State_passDays_41 rfl 5 rfl ?_
      refine g_aload_n (pc1 := 44) d_State_passDays_43 rfl 0 rfl ?_
      refine g_geti (pc1 := 47) d_State_passDays_44 rfl ⟨_, fo_State_34⟩ (shSt_0 hX0) (ltSt_0 hX0) ?_
      refine g_callV0 (pc1 := 50) (As := [.int v4, .int r6, .int (M X0 0)]) (rest := [.int r6, .int v4, .ref (X0 + 2)]) d_State_passDays_47 rfl mo_State_91 mi_Land_fillOf mv_Land_fillOf rfl (shLa_0 hLd1) (ltLa_0 hLd1) (by decide) rfl rfl (Nat.le_of_ble_eq_true rfl) ?_
      obtain ⟨r8, M9, hq7, h⟩ := bnd2 h
      refine f_Land_fillOf hld hLd1 hq7 ?_
      dsimp only [psh]
      refine g_iadd (pc1 := 51) d_State_passDays_50 rfl ?_
      refine g_iconst (pc1 := 52) (v := 0) d_State_passDays_51 rfl (by decide) ?_
      refine g_bipush (pc1 := 54) (v := 99) d_State_passDays_52 rfl (by decide) ?_
      refine g_callS0 (pc1 := 57) (As := [.int (r6 + r8), .int 0, .int 99]) (rest := [.int v4, .ref (X0 + 2)]) d_State_passDays_54 rfl mo_State_94 ms_Main_within (by decide) rfl rfl (Nat.le_of_ble_eq_true rfl) ?_
      obtain ⟨r11, hq10, h⟩ := bnd h
      refine f_Main_within hld  hq10 ?_
      dsimp only [psh]
      refine g_callS0 (pc1 := 60) (As := [.ref (X0 + 2), .int v4, .int r11]) (rest := []) d_State_passDays_57 rfl mo_State_57 ms_Main_put (by decide) rfl rfl (Nat.le_of_ble_eq_true rfl) ?_
      obtain ⟨M13, hq12, h⟩ := bnd h
      refine f_Main_put hld (shSt_2 hX0) (ltSt_2 hX0) (by decide) hq12 ?_
      dsimp only [psh]
      obtain ⟨x14, ex14, h⟩ := ltI h
      refine g_iinc (pc1 := 63) (v := x14) (lv' := [(0, .ref X0), (1, .ref Ld1), (2, .int v2), (3, .int v3), (4, .int x14), (5, .int r6)]) d_State_passDays_60 rfl 4 rfl (by rw [ex14]; rfl) (by decide) [1, 2, 3, 4, 0, 5] rfl ?_
      refine g_goto (tgt := 10) d_State_passDays_63 (by decide) ?_
      refine Wp.loc (lv' := [(0, .ref X0), (1, .ref Ld1), (2, .int v2), (3, .int v3), (4, .int x14)]) [0, 1, 2, 3, 4] rfl ?_
      exact hK10 x14 M13 h
def B_State_passDays_2 (X0 : Nat) (Ld1 : Nat) (v2 : Int32) (K2 : Int32 → gM → Option (gM)) : Int32 → gM → Option (gM) := fun v3 M =>
  (if v2 ≤ v3 then some M else H_State_passDays_10 X0 Ld1 K2 v2 v3 FU 0 M)
def H_State_passDays_2 (X0 : Nat) (Ld1 : Nat) (v2 : Int32) : Nat → Int32 → gM → Option (gM) := lpK (B_State_passDays_2 X0 Ld1 v2) (fun _ _ => none)
set_option maxHeartbeats 4000000 in
set_option maxRecDepth 20000 in
theorem h_State_passDays_2 {l : Launch} {ld : Nat} {Q : Option Value → gM → gL → gR → Prop} (hld : isLa ld) {X0 : Nat} {Ld1 : Nat} (hX0 : isSt X0) (hLd1 : isLa Ld1) {q : gM} {L : gL} (hQ : Q none q L (rf ld))  {v2 : Int32}  : ∀ (f : Nat) (v3 : Int32) (M : gM), H_State_passDays_2 X0 Ld1 v2 f v3 M = some q → Wp l y_State_passDays (0, 0, 447) 447 0 0 2 [(0, .ref X0), (1, .ref Ld1), (2, .int v2), (3, .int v3)] [] M L (rf ld) Q := by
  intro f
  induction f with
  | zero => intro v3 M h; cases h
  | succ f hK2 =>
    intro v3 M h
    replace h : B_State_passDays_2 X0 Ld1 v2 (H_State_passDays_2 X0 Ld1 v2 f) v3 M = some q := h
    unfold B_State_passDays_2 at h
    refine g_iload_n (pc1 := 3) d_State_passDays_2 rfl 3 rfl ?_
    refine g_iload_n (pc1 := 4) d_State_passDays_3 rfl 2 rfl ?_
    refine g_icmp_ge (pc1 := 7) (tgt := 82) d_State_passDays_4 (by decide) rfl (fun c1 => ?_) (fun c1 => ?_)
    · replace h := itp h c1
      refine g_return rfl d_State_passDays_82 rfl ?_
      cases h; exact hQ
    · replace h := itn h c1
      refine g_iconst (pc1 := 8) (v := 0) d_State_passDays_7 rfl (by decide) ?_
      refine g_istore (pc1 := 10) (lv' := [(0, .ref X0), (1, .ref Ld1), (2, .int v2), (3, .int v3), (4, .int 0)]) d_State_passDays_8 rfl (by decide) [1, 2, 3, 4, 0] rfl ?_
      exact h_State_passDays_10 hld hX0 hLd1 hQ hK2 _ 0 M h
def F_State_passDays (X0 : Nat) (Ld1 : Nat) (p2 : Int32) (M : gM) : Option (gM) :=
  H_State_passDays_2 X0 Ld1 p2 FU 0 M
set_option maxHeartbeats 4000000 in
set_option maxRecDepth 20000 in
theorem f_State_passDays {l : Launch} {ld : Nat} {M : gM} {L : gL} {Q : Option Value → gM → gL → gR → Prop} (hld : isLa ld) {X0 : Nat} {Ld1 : Nat} {p2 : Int32} (hX0 : isSt X0) (hLd1 : isLa Ld1) {q : gM} (h : F_State_passDays X0 Ld1 p2 M = some q) (hQ : Q none q L (rf ld)) : Tm l y_State_passDays (0, 0, 447) 447 [.ref X0, .ref Ld1, .int p2] M L (rf ld) Q := by
  refine Tm.of (by decide) (Nat.le_of_ble_eq_true rfl) ?_
  show Wp l y_State_passDays (0, 0, 447) 447 0 0 0 [(0, .ref X0), (1, .ref Ld1), (2, .int p2)] [] M L (rf ld) Q
  unfold F_State_passDays at h
  refine g_iconst (pc1 := 1) (v := 0) d_State_passDays_0 rfl (by decide) ?_
  refine g_istore_n (pc1 := 2) (lv' := [(0, .ref X0), (1, .ref Ld1), (2, .int p2), (3, .int 0)]) d_State_passDays_1 rfl rfl (by decide) [1, 2, 3, 0] rfl ?_
  exact h_State_passDays_2 hld hX0 hLd1 hQ  _ 0 M h

def J_Tokens_cut_58 (M : gM) (L : gL) : Option (gM × gL) :=
  some (M, L)
set_option maxHeartbeats 4000000 in
set_option maxRecDepth 20000 in
theorem j_Tokens_cut_58 {l : Launch} {ld : Nat} {Q : Option Value → gM → gL → gR → Prop} (hld : isLa ld)   {q : gM × gL} {M : gM} {L : gL} (hQ : Q none q.1 q.2 (rf ld))    (h : J_Tokens_cut_58 M L = some q) : Wp l y_Tokens_cut (0, 0, 447) 447 0 0 58 [] [] M L (rf ld) Q := by
  unfold J_Tokens_cut_58 at h
  refine g_goto (tgt := 67) d_Tokens_cut_58 (by decide) ?_
  refine g_return rfl d_Tokens_cut_67 rfl ?_
  cases h; exact hQ
def B_Tokens_cut_4  (K4 : Int32 → Int32 → gM → gL → Option (gM × gL)) : Int32 → Int32 → gM → gL → Option (gM × gL) := fun v2 v3 M L =>
  (if 401 ≤ v3 then some (M, L) else bI (F_Tokens_behindBlanks v2 M) (fun r3 => bI3 (F_Tokens_cutOne r3 v3 M L) (fun r5 M6 L7 => bI (F_Main_put 7 401 v3 r3 M6) (fun M9 => (if (v3 : Int32) < 0 ∨ 401 ≤ (v3 : Int32).toNatClampNeg then none else (if (M9 6 (v3 : Int32).toNatClampNeg) = 0 then some (M9, L7) else (if (v3 : Int32) < 0 ∨ 401 ≤ (v3 : Int32).toNatClampNeg then none else (if (M9 6 (v3 : Int32).toNatClampNeg) = 1 then J_Tokens_cut_58 M9 L7 else nmI (v3 + 1) (fun x14 => K4 r5 x14 M9 L7)))))))))
def H_Tokens_cut_4  : Nat → Int32 → Int32 → gM → gL → Option (gM × gL) := lpK (B_Tokens_cut_4 ) (fun _ _ _ _ => none)
set_option maxHeartbeats 4000000 in
set_option maxRecDepth 20000 in
theorem h_Tokens_cut_4 {l : Launch} {ld : Nat} {Q : Option Value → gM → gL → gR → Prop} (hld : isLa ld)   {q : gM × gL} (hQ : Q none q.1 q.2 (rf ld))    : ∀ (f : Nat) (v2 : Int32) (v3 : Int32) (M : gM) (L : gL), H_Tokens_cut_4  f v2 v3 M L = some q → Wp l y_Tokens_cut (0, 0, 447) 447 0 0 4 [(0, .ref 4), (1, .ref 1), (2, .int v2), (3, .int v3)] [] M L (rf ld) Q := by
  intro f
  induction f with
  | zero => intro v2 v3 M L h; cases h
  | succ f hK4 =>
    intro v2 v3 M L h
    replace h : B_Tokens_cut_4  (H_Tokens_cut_4  f) v2 v3 M L = some q := h
    unfold B_Tokens_cut_4 at h
    refine g_iload_n (pc1 := 5) d_Tokens_cut_4 rfl 3 rfl ?_
    refine g_aload_n (pc1 := 6) d_Tokens_cut_5 rfl 0 rfl ?_
    refine g_getr (pc1 := 9) d_Tokens_cut_6 rfl ⟨_, fo_Tokens_15⟩ sh_4 (by decide) (rf_4_1 ld) ?_
    refine g_alen (pc1 := 10) (v := 401) d_Tokens_cut_9 rfl sh_6 (by decide) (by decide) (by decide) (by decide) ?_
    refine g_icmp_ge (pc1 := 13) (tgt := 67) d_Tokens_cut_10 (by decide) rfl (fun c1 => ?_) (fun c1 => ?_)
    · replace h := itp h c1
      refine g_return rfl d_Tokens_cut_67 rfl ?_
      cases h; exact hQ
    · replace h := itn h c1
      refine g_aload_n (pc1 := 14) d_Tokens_cut_13 rfl 1 rfl ?_
      refine g_iload_n (pc1 := 15) d_Tokens_cut_14 rfl 2 rfl ?_
      refine g_callS0 (pc1 := 18) (As := [.ref 1, .int v2]) (rest := []) d_Tokens_cut_15 rfl mo_Tokens_43 ms_Tokens_behindBlanks (by decide) rfl rfl (Nat.le_of_ble_eq_true rfl) ?_
      obtain ⟨r3, hq2, h⟩ := bnd h
      refine f_Tokens_behindBlanks hld  hq2 ?_
      dsimp only [psh]
      refine g_istore (pc1 := 20) (lv' := [(0, .ref 4), (1, .ref 1), (2, .int v2), (3, .int v3), (4, .int r3)]) d_Tokens_cut_18 rfl (by decide) [1, 2, 3, 4, 0] rfl ?_
      refine g_aload_n (pc1 := 21) d_Tokens_cut_20 rfl 0 rfl ?_
      refine g_aload_n (pc1 := 22) d_Tokens_cut_21 rfl 1 rfl ?_
      refine g_iload (pc1 := 24) d_Tokens_cut_22 rfl 4 rfl ?_
      refine g_iload_n (pc1 := 25) d_Tokens_cut_24 rfl 3 rfl ?_
      refine g_callV0 (pc1 := 28) (As := [.ref 1, .int r3, .int v3]) (rest := []) d_Tokens_cut_25 rfl mo_Tokens_47 mi_Tokens_cutOne mv_Tokens_cutOne rfl sh_4 (by decide) (by decide) rfl rfl (Nat.le_of_ble_eq_true rfl) ?_
      obtain ⟨r5, M6, L7, hq4, h⟩ := bnd3 h
      refine f_Tokens_cutOne hld  hq4 ?_
      dsimp only [psh]
      refine g_istore_n (pc1 := 29) (lv' := [(0, .ref 4), (1, .ref 1), (2, .int r5), (3, .int v3), (4, .int r3)]) d_Tokens_cut_28 rfl rfl (by decide) [1, 2, 0, 3, 4] rfl ?_
      refine g_aload_n (pc1 := 30) d_Tokens_cut_29 rfl 0 rfl ?_
      refine g_getr (pc1 := 33) d_Tokens_cut_30 rfl ⟨_, fo_Tokens_19⟩ sh_4 (by decide) (rf_4_2 ld) ?_
      refine g_iload_n (pc1 := 34) d_Tokens_cut_33 rfl 3 rfl ?_
      refine g_iload (pc1 := 36) d_Tokens_cut_34 rfl 4 rfl ?_
      refine g_callS0 (pc1 := 39) (As := [.ref 7, .int v3, .int r3]) (rest := []) d_Tokens_cut_36 rfl mo_Tokens_51 ms_Main_put (by decide) rfl rfl (Nat.le_of_ble_eq_true rfl) ?_
      obtain ⟨M9, hq8, h⟩ := bnd h
      refine f_Main_put hld sh_7 (by decide) (by decide) hq8 ?_
      dsimp only [psh]
      refine g_aload_n (pc1 := 40) d_Tokens_cut_39 rfl 0 rfl ?_
      refine g_getr (pc1 := 43) d_Tokens_cut_40 rfl ⟨_, fo_Tokens_15⟩ sh_4 (by decide) (rf_4_1 ld) ?_
      refine g_iload_n (pc1 := 44) d_Tokens_cut_43 rfl 3 rfl ?_
      obtain ⟨g10, h⟩ := gdn h
      refine g_iald (pc1 := 45) d_Tokens_cut_44 rfl sh_6 (by decide) g10 ?_
      refine g_if_eq (pc1 := 48) (tgt := 67) d_Tokens_cut_45 (by decide) rfl (fun c11 => ?_) (fun c11 => ?_)
      · replace h := itp h c11
        refine g_return rfl d_Tokens_cut_67 rfl ?_
        cases h; exact hQ
      · replace h := itn h c11
        refine g_aload_n (pc1 := 49) d_Tokens_cut_48 rfl 0 rfl ?_
        refine g_getr (pc1 := 52) d_Tokens_cut_49 rfl ⟨_, fo_Tokens_15⟩ sh_4 (by decide) (rf_4_1 ld) ?_
        refine g_iload_n (pc1 := 53) d_Tokens_cut_52 rfl 3 rfl ?_
        obtain ⟨g12, h⟩ := gdn h
        refine g_iald (pc1 := 54) d_Tokens_cut_53 rfl sh_6 (by decide) g12 ?_
        refine g_iconst (pc1 := 55) (v := 1) d_Tokens_cut_54 rfl (by decide) ?_
        refine g_icmp_ne (pc1 := 58) (tgt := 61) d_Tokens_cut_55 (by decide) rfl (fun c13 => ?_) (fun c13 => ?_)
        · replace h := itn h c13
          obtain ⟨x14, ex14, h⟩ := ltI h
          refine g_iinc (pc1 := 64) (v := x14) (lv' := [(0, .ref 4), (1, .ref 1), (2, .int r5), (3, .int x14), (4, .int r3)]) d_Tokens_cut_61 rfl 3 rfl (by rw [ex14]; rfl) (by decide) [1, 2, 3, 0, 4] rfl ?_
          refine g_goto (tgt := 4) d_Tokens_cut_64 (by decide) ?_
          refine Wp.loc (lv' := [(0, .ref 4), (1, .ref 1), (2, .int r5), (3, .int x14)]) [0, 1, 2, 3] rfl ?_
          exact hK4 r5 x14 M9 L7 h
        · replace h := itp h c13
          refine Wp.loc (lv' := []) [] rfl ?_
          exact j_Tokens_cut_58 hld  hQ  h
def F_Tokens_cut (M : gM) (L : gL) : Option (gM × gL) :=
  H_Tokens_cut_4 FU 0 0 M L
set_option maxHeartbeats 4000000 in
set_option maxRecDepth 20000 in
theorem f_Tokens_cut {l : Launch} {ld : Nat} {M : gM} {L : gL} {Q : Option Value → gM → gL → gR → Prop} (hld : isLa ld)   {q : gM × gL} (h : F_Tokens_cut M L = some q) (hQ : Q none q.1 q.2 (rf ld)) : Tm l y_Tokens_cut (0, 0, 447) 447 [.ref 4, .ref 1] M L (rf ld) Q := by
  refine Tm.of (by decide) (Nat.le_of_ble_eq_true rfl) ?_
  show Wp l y_Tokens_cut (0, 0, 447) 447 0 0 0 [(0, .ref 4), (1, .ref 1)] [] M L (rf ld) Q
  unfold F_Tokens_cut at h
  refine g_iconst (pc1 := 1) (v := 0) d_Tokens_cut_0 rfl (by decide) ?_
  refine g_istore_n (pc1 := 2) (lv' := [(0, .ref 4), (1, .ref 1), (2, .int 0)]) d_Tokens_cut_1 rfl rfl (by decide) [1, 2, 0] rfl ?_
  refine g_iconst (pc1 := 3) (v := 0) d_Tokens_cut_2 rfl (by decide) ?_
  refine g_istore_n (pc1 := 4) (lv' := [(0, .ref 4), (1, .ref 1), (2, .int 0), (3, .int 0)]) d_Tokens_cut_3 rfl rfl (by decide) [1, 2, 3, 0] rfl ?_
  exact h_Tokens_cut_4 hld  hQ  _ 0 0 M L h

def F_Told_forceOf (Ld1 : Nat) (p2 : Int32) (p3 : Int32) (p4 : Int32) (p5 : Int32) (M : gM) : Option (Int32 × gM) :=
  bI (F_Main_at 389 195 ((p3 * 3) + p4) M) (fun r2 => bI (F_Main_at 388 65 p3 M) (fun r4 => bI2 (F_Land_potForce Ld1 p4 r2 p5 r4 p2 M) (fun r6 M7 => some (r6, M7))))
set_option maxHeartbeats 4000000 in
set_option maxRecDepth 20000 in
theorem f_Told_forceOf {l : Launch} {ld : Nat} {M : gM} {L : gL} {Q : Option Value → gM → gL → gR → Prop} (hld : isLa ld) {Ld1 : Nat} {p2 : Int32} {p3 : Int32} {p4 : Int32} {p5 : Int32} (hLd1 : isLa Ld1) {q : Int32 × gM} (h : F_Told_forceOf Ld1 p2 p3 p4 p5 M = some q) (hQ : Q (some (.int q.1)) q.2 L (rf ld)) : Tm l y_Told_forceOf (0, 0, 447) 447 [.ref 383, .ref Ld1, .int p2, .int p3, .int p4, .int p5] M L (rf ld) Q := by
  refine Tm.of (by decide) (Nat.le_of_ble_eq_true rfl) ?_
  show Wp l y_Told_forceOf (0, 0, 447) 447 0 0 0 [(0, .ref 383), (1, .ref Ld1), (2, .int p2), (3, .int p3), (4, .int p4), (5, .int p5)] [] M L (rf ld) Q
  unfold F_Told_forceOf at h
  refine g_aload_n (pc1 := 1) d_Told_forceOf_0 rfl 1 rfl ?_
  refine g_iload (pc1 := 3) d_Told_forceOf_1 rfl 4 rfl ?_
  refine g_aload_n (pc1 := 4) d_Told_forceOf_3 rfl 0 rfl ?_
  refine g_getr (pc1 := 7) d_Told_forceOf_4 rfl ⟨_, fo_Told_27⟩ sh_383 (by decide) (rf_383_6 ld) ?_
  refine g_iload_n (pc1 := 8) d_Told_forceOf_7 rfl 3 rfl ?_
  refine g_iconst (pc1 := 9) (v := 3) d_Told_forceOf_8 rfl (by decide) ?_
  refine g_imul (pc1 := 10) d_Told_forceOf_9 rfl ?_
  refine g_iload (pc1 := 12) d_Told_forceOf_10 rfl 4 rfl ?_
  refine g_iadd (pc1 := 13) d_Told_forceOf_12 rfl ?_
  refine g_callS0 (pc1 := 16) (As := [.ref 389, .int ((p3 * 3) + p4)]) (rest := [.int p4, .ref Ld1]) d_Told_forceOf_13 rfl mo_Told_73 ms_Main_at (by decide) rfl rfl (Nat.le_of_ble_eq_true rfl) ?_
  obtain ⟨r2, hq1, h⟩ := bnd h
  refine f_Main_at hld sh_389 (by decide) (by decide) hq1 ?_
  dsimp only [psh]
  refine g_iload (pc1 := 18) d_Told_forceOf_16 rfl 5 rfl ?_
  refine g_aload_n (pc1 := 19) d_Told_forceOf_18 rfl 0 rfl ?_
  refine g_getr (pc1 := 22) d_Told_forceOf_19 rfl ⟨_, fo_Told_24⟩ sh_383 (by decide) (rf_383_5 ld) ?_
  refine g_iload_n (pc1 := 23) d_Told_forceOf_22 rfl 3 rfl ?_
  refine g_callS0 (pc1 := 26) (As := [.ref 388, .int p3]) (rest := [.int p5, .int r2, .int p4, .ref Ld1]) d_Told_forceOf_23 rfl mo_Told_73 ms_Main_at (by decide) rfl rfl (Nat.le_of_ble_eq_true rfl) ?_
  obtain ⟨r4, hq3, h⟩ := bnd h
  refine f_Main_at hld sh_388 (by decide) (by decide) hq3 ?_
  dsimp only [psh]
  refine g_iload_n (pc1 := 27) d_Told_forceOf_26 rfl 2 rfl ?_
  refine g_callV0 (pc1 := 30) (As := [.int p4, .int r2, .int p5, .int r4, .int p2]) (rest := []) d_Told_forceOf_27 rfl mo_Told_81 mi_Land_potForce mv_Land_potForce rfl (shLa_0 hLd1) (ltLa_0 hLd1) (by decide) rfl rfl (Nat.le_of_ble_eq_true rfl) ?_
  obtain ⟨r6, M7, hq5, h⟩ := bnd2 h
  refine f_Land_potForce hld hLd1 hq5 ?_
  dsimp only [psh]
  refine g_ireturn (Or.inl rfl) d_Told_forceOf_30 rfl ?_
  cases h; exact hQ

def J_Told_lay_141 (Ld1 : Nat) (K115 : Int32 → gM → Option (Int32 × gM)) (v2 : Int32) (v4 : Int32) (v5 : Int32) (v7 : Int32) (s0 : Int32) (M : gM) : Option (Int32 × gM) :=
  bI (F_Land_sumOf Ld1 v2 v7 M) (fun r19 => bI (F_Main_put 389 195 (((M 383 7) * 3) + v7) (r19 + s0) M) (fun M21 => nmI (v7 + 1) (fun x22 => K115 x22 M21)))
set_option maxHeartbeats 4000000 in
set_option maxRecDepth 20000 in
theorem j_Told_lay_141 {l : Launch} {ld : Nat} {Q : Option Value → gM → gL → gR → Prop} (hld : isLa ld) {Ld1 : Nat} (hLd1 : isLa Ld1) {q : Int32 × gM} {M : gM} {L : gL} (hQ : Q (some (.int q.1)) q.2 L (rf ld)) {K115 : Int32 → gM → Option (Int32 × gM)} {v2 : Int32} {v4 : Int32} {v5 : Int32} {v7 : Int32} {s0 : Int32} (hK115 : ∀ (w7 : Int32) (M : gM), K115 w7 M = some q → Wp l y_Told_lay (0, 0, 447) 447 0 0 115 [(0, .ref 383), (1, .ref Ld1), (2, .int v2), (4, .int v4), (5, .int v5), (7, .int w7)] [] M L (rf ld) Q) (h : J_Told_lay_141 Ld1 K115 v2 v4 v5 v7 s0 M = some q) : Wp l y_Told_lay (0, 0, 447) 447 0 0 141 [(0, .ref 383), (1, .ref Ld1), (2, .int v2), (4, .int v4), (5, .int v5), (7, .int v7)] [.int s0] M L (rf ld) Q := by
  unfold J_Told_lay_141 at h
  refine g_istore (pc1 := 143) (lv' := [(0, .ref 383), (1, .ref Ld1), (2, .int v2), (4, .int v4), (5, .int v5), (7, .int v7), (8, .int s0)]) d_Told_lay_141 rfl (by decide) [1, 2, 3, 4, 5, 6, 0] rfl ?_
  refine g_aload_n (pc1 := 144) d_Told_lay_143 rfl 0 rfl ?_
  refine g_getr (pc1 := 147) d_Told_lay_144 rfl ⟨_, fo_Told_27⟩ sh_383 (by decide) (rf_383_6 ld) ?_
  refine g_aload_n (pc1 := 148) d_Told_lay_147 rfl 0 rfl ?_
  refine g_geti (pc1 := 151) d_Told_lay_148 rfl ⟨_, fo_Told_41⟩ sh_383 (by decide) ?_
  refine g_iconst (pc1 := 152) (v := 3) d_Told_lay_151 rfl (by decide) ?_
  refine g_imul (pc1 := 153) d_Told_lay_152 rfl ?_
  refine g_iload (pc1 := 155) d_Told_lay_153 rfl 5 rfl ?_
  refine g_iadd (pc1 := 156) d_Told_lay_155 rfl ?_
  refine g_aload_n (pc1 := 157) d_Told_lay_156 rfl 1 rfl ?_
  refine g_iload_n (pc1 := 158) d_Told_lay_157 rfl 2 rfl ?_
  refine g_iload (pc1 := 160) d_Told_lay_158 rfl 5 rfl ?_
  refine g_callV0 (pc1 := 163) (As := [.int v2, .int v7]) (rest := [.int (((M 383 7) * 3) + v7), .ref 389]) d_Told_lay_160 rfl mo_Told_70 mi_Land_sumOf mv_Land_sumOf rfl (shLa_0 hLd1) (ltLa_0 hLd1) (by decide) rfl rfl (Nat.le_of_ble_eq_true rfl) ?_
  obtain ⟨r19, hq18, h⟩ := bnd h
  refine f_Land_sumOf hld hLd1 hq18 ?_
  dsimp only [psh]
  refine g_iload (pc1 := 165) d_Told_lay_163 rfl 6 rfl ?_
  refine g_iadd (pc1 := 166) d_Told_lay_165 rfl ?_
  refine g_callS0 (pc1 := 169) (As := [.ref 389, .int (((M 383 7) * 3) + v7), .int (r19 + s0)]) (rest := []) d_Told_lay_166 rfl mo_Told_37 ms_Main_put (by decide) rfl rfl (Nat.le_of_ble_eq_true rfl) ?_
  obtain ⟨M21, hq20, h⟩ := bnd h
  refine f_Main_put hld sh_389 (by decide) (by decide) hq20 ?_
  dsimp only [psh]
  obtain ⟨x22, ex22, h⟩ := ltI h
  refine g_iinc (pc1 := 172) (v := x22) (lv' := [(0, .ref 383), (1, .ref Ld1), (2, .int v2), (4, .int v4), (5, .int v5), (7, .int x22), (8, .int s0)]) d_Told_lay_169 rfl 5 rfl (by rw [ex22]; rfl) (by decide) [1, 2, 3, 4, 5, 0, 6] rfl ?_
  refine g_goto (tgt := 115) d_Told_lay_172 (by decide) ?_
  refine Wp.loc (lv' := [(0, .ref 383), (1, .ref Ld1), (2, .int v2), (4, .int v4), (5, .int v5), (7, .int x22)]) [0, 1, 2, 3, 4, 5] rfl ?_
  exact hK115 x22 M21 h
def B_Told_lay_115 (Ld1 : Nat) (v2 : Int32) (v4 : Int32) (v5 : Int32) (K115 : Int32 → gM → Option (Int32 × gM)) : Int32 → gM → Option (Int32 × gM) := fun v7 M =>
  (if 3 ≤ v7 then some (1, M) else (if v4 = 0 then J_Told_lay_141 Ld1 K115 v2 v4 v5 v7 0 M else bI (F_Land_broughtBy Ld1 v5 v7 M) (fun r17 => J_Told_lay_141 Ld1 K115 v2 v4 v5 v7 (v4 * r17) M)))
def H_Told_lay_115 (Ld1 : Nat) (v2 : Int32) (v4 : Int32) (v5 : Int32) : Nat → Int32 → gM → Option (Int32 × gM) := lpK (B_Told_lay_115 Ld1 v2 v4 v5) (fun _ _ => none)
set_option maxHeartbeats 4000000 in
set_option maxRecDepth 20000 in
theorem h_Told_lay_115 {l : Launch} {ld : Nat} {Q : Option Value → gM → gL → gR → Prop} (hld : isLa ld) {Ld1 : Nat} (hLd1 : isLa Ld1) {q : Int32 × gM} {L : gL} (hQ : Q (some (.int q.1)) q.2 L (rf ld))  {v2 : Int32} {v4 : Int32} {v5 : Int32}  : ∀ (f : Nat) (v7 : Int32) (M : gM), H_Told_lay_115 Ld1 v2 v4 v5 f v7 M = some q → Wp l y_Told_lay (0, 0, 447) 447 0 0 115 [(0, .ref 383), (1, .ref Ld1), (2, .int v2), (4, .int v4), (5, .int v5), (7, .int v7)] [] M L (rf ld) Q := by
  intro f
  induction f with
  | zero => intro v7 M h; cases h
  | succ f hK115 =>
    intro v7 M h
    replace h : B_Told_lay_115 Ld1 v2 v4 v5 (H_Told_lay_115 Ld1 v2 v4 v5 f) v7 M = some q := h
    unfold B_Told_lay_115 at h
    refine g_iload (pc1 := 117) d_Told_lay_115 rfl 5 rfl ?_
    refine g_iconst (pc1 := 118) (v := 3) d_Told_lay_117 rfl (by decide) ?_
    refine g_icmp_ge (pc1 := 121) (tgt := 175) d_Told_lay_118 (by decide) rfl (fun c14 => ?_) (fun c14 => ?_)
    · replace h := itp h c14
      refine g_iconst (pc1 := 176) (v := 1) d_Told_lay_175 rfl (by decide) ?_
      refine g_ireturn (Or.inr ⟨rfl, rfl⟩) d_Told_lay_176 rfl ?_
      cases h; exact hQ
    · replace h := itn h c14
      refine g_iload (pc1 := 123) d_Told_lay_121 rfl 3 rfl ?_
      refine g_if_ne (pc1 := 126) (tgt := 130) d_Told_lay_123 (by decide) rfl (fun c15 => ?_) (fun c15 => ?_)
      · replace h := itn h c15
        refine g_iload (pc1 := 132) d_Told_lay_130 rfl 3 rfl ?_
        refine g_aload_n (pc1 := 133) d_Told_lay_132 rfl 1 rfl ?_
        refine g_iload (pc1 := 135) d_Told_lay_133 rfl 4 rfl ?_
        refine g_iload (pc1 := 137) d_Told_lay_135 rfl 5 rfl ?_
        refine g_callV0 (pc1 := 140) (As := [.int v5, .int v7]) (rest := [.int v4]) d_Told_lay_137 rfl mo_Told_67 mi_Land_broughtBy mv_Land_broughtBy rfl (shLa_0 hLd1) (ltLa_0 hLd1) (by decide) rfl rfl (Nat.le_of_ble_eq_true rfl) ?_
        obtain ⟨r17, hq16, h⟩ := bnd h
        refine f_Land_broughtBy hld hLd1 hq16 ?_
        dsimp only [psh]
        refine g_imul (pc1 := 141) d_Told_lay_140 rfl ?_
        exact j_Told_lay_141 hld hLd1 hQ hK115 h
      · replace h := itp h c15
        refine g_iconst (pc1 := 127) (v := 0) d_Told_lay_126 rfl (by decide) ?_
        refine g_goto (tgt := 141) d_Told_lay_127 (by decide) ?_
        exact j_Told_lay_141 hld hLd1 hQ hK115 h
def J_Told_lay_79 (Ld1 : Nat) (v2 : Int32) (v4 : Int32) (v5 : Int32) (v6 : Int32) (M : gM) : Option (Int32 × gM) :=
  (if 1 ≤ v6 then bI (F_Main_put 387 65 (M 383 7) v2 M) (fun M11 => bI (F_Main_put 388 65 (M11 383 7) v6 M11) (fun M13 => H_Told_lay_115 Ld1 v2 v4 v5 FU 0 M13)) else some (0, M))
set_option maxHeartbeats 4000000 in
set_option maxRecDepth 20000 in
theorem j_Told_lay_79 {l : Launch} {ld : Nat} {Q : Option Value → gM → gL → gR → Prop} (hld : isLa ld) {Ld1 : Nat} (hLd1 : isLa Ld1) {q : Int32 × gM} {M : gM} {L : gL} (hQ : Q (some (.int q.1)) q.2 L (rf ld))  {v2 : Int32} {v4 : Int32} {v5 : Int32} {v6 : Int32}  (h : J_Told_lay_79 Ld1 v2 v4 v5 v6 M = some q) : Wp l y_Told_lay (0, 0, 447) 447 0 0 79 [(0, .ref 383), (1, .ref Ld1), (2, .int v2), (4, .int v4), (5, .int v5), (6, .int v6)] [] M L (rf ld) Q := by
  unfold J_Told_lay_79 at h
  refine g_iload (pc1 := 81) d_Told_lay_79 rfl 5 rfl ?_
  refine g_iconst (pc1 := 82) (v := 1) d_Told_lay_81 rfl (by decide) ?_
  refine g_icmp_ge (pc1 := 85) (tgt := 87) d_Told_lay_82 (by decide) rfl (fun c9 => ?_) (fun c9 => ?_)
  · replace h := itp h c9
    refine g_aload_n (pc1 := 88) d_Told_lay_87 rfl 0 rfl ?_
    refine g_getr (pc1 := 91) d_Told_lay_88 rfl ⟨_, fo_Told_21⟩ sh_383 (by decide) (rf_383_4 ld) ?_
    refine g_aload_n (pc1 := 92) d_Told_lay_91 rfl 0 rfl ?_
    refine g_geti (pc1 := 95) d_Told_lay_92 rfl ⟨_, fo_Told_41⟩ sh_383 (by decide) ?_
    refine g_iload_n (pc1 := 96) d_Told_lay_95 rfl 2 rfl ?_
    refine g_callS0 (pc1 := 99) (As := [.ref 387, .int (M 383 7), .int v2]) (rest := []) d_Told_lay_96 rfl mo_Told_37 ms_Main_put (by decide) rfl rfl (Nat.le_of_ble_eq_true rfl) ?_
    obtain ⟨M11, hq10, h⟩ := bnd h
    refine f_Main_put hld sh_387 (by decide) (by decide) hq10 ?_
    dsimp only [psh]
    refine g_aload_n (pc1 := 100) d_Told_lay_99 rfl 0 rfl ?_
    refine g_getr (pc1 := 103) d_Told_lay_100 rfl ⟨_, fo_Told_24⟩ sh_383 (by decide) (rf_383_5 ld) ?_
    refine g_aload_n (pc1 := 104) d_Told_lay_103 rfl 0 rfl ?_
    refine g_geti (pc1 := 107) d_Told_lay_104 rfl ⟨_, fo_Told_41⟩ sh_383 (by decide) ?_
    refine g_iload (pc1 := 109) d_Told_lay_107 rfl 5 rfl ?_
    refine g_callS0 (pc1 := 112) (As := [.ref 388, .int (M11 383 7), .int v6]) (rest := []) d_Told_lay_109 rfl mo_Told_37 ms_Main_put (by decide) rfl rfl (Nat.le_of_ble_eq_true rfl) ?_
    obtain ⟨M13, hq12, h⟩ := bnd h
    refine f_Main_put hld sh_388 (by decide) (by decide) hq12 ?_
    dsimp only [psh]
    refine g_iconst (pc1 := 113) (v := 0) d_Told_lay_112 rfl (by decide) ?_
    refine g_istore (pc1 := 115) (lv' := [(0, .ref 383), (1, .ref Ld1), (2, .int v2), (4, .int v4), (5, .int v5), (6, .int v6), (7, .int 0)]) d_Told_lay_113 rfl (by decide) [1, 2, 3, 4, 5, 6, 0] rfl ?_
    refine Wp.loc (lv' := [(0, .ref 383), (1, .ref Ld1), (2, .int v2), (4, .int v4), (5, .int v5), (7, .int 0)]) [0, 1, 2, 3, 4, 6] rfl ?_
    exact h_Told_lay_115 hld hLd1 hQ  _ 0 M13 h
  · replace h := itn h c9
    refine g_iconst (pc1 := 86) (v := 0) d_Told_lay_85 rfl (by decide) ?_
    refine g_ireturn (Or.inr ⟨rfl, rfl⟩) d_Told_lay_86 rfl ?_
    cases h; exact hQ
def J_Told_lay_64 (Ld1 : Nat) (v2 : Int32) (v4 : Int32) (v5 : Int32) (v6 : Int32) (M : gM) : Option (Int32 × gM) :=
  (if 0 ≤ v4 then J_Told_lay_79 Ld1 v2 v4 v5 v6 M else bI (F_Land_inDish Ld1 v2 v5 M) (fun r24 => (if r24 = 0 then some (0, M) else J_Told_lay_79 Ld1 v2 v4 v5 v6 M)))
set_option maxHeartbeats 4000000 in
set_option maxRecDepth 20000 in
theorem j_Told_lay_64 {l : Launch} {ld : Nat} {Q : Option Value → gM → gL → gR → Prop} (hld : isLa ld) {Ld1 : Nat} (hLd1 : isLa Ld1) {q : Int32 × gM} {M : gM} {L : gL} (hQ : Q (some (.int q.1)) q.2 L (rf ld))  {v2 : Int32} {v4 : Int32} {v5 : Int32} {v6 : Int32}  (h : J_Told_lay_64 Ld1 v2 v4 v5 v6 M = some q) : Wp l y_Told_lay (0, 0, 447) 447 0 0 64 [(0, .ref 383), (1, .ref Ld1), (2, .int v2), (4, .int v4), (5, .int v5), (6, .int v6)] [] M L (rf ld) Q := by
  unfold J_Told_lay_64 at h
  refine g_iload (pc1 := 66) d_Told_lay_64 rfl 3 rfl ?_
  refine g_if_ge (pc1 := 69) (tgt := 79) d_Told_lay_66 (by decide) rfl (fun c8 => ?_) (fun c8 => ?_)
  · replace h := itp h c8
    exact j_Told_lay_79 hld hLd1 hQ  h
  · replace h := itn h c8
    refine g_aload_n (pc1 := 70) d_Told_lay_69 rfl 1 rfl ?_
    refine g_iload_n (pc1 := 71) d_Told_lay_70 rfl 2 rfl ?_
    refine g_iload (pc1 := 73) d_Told_lay_71 rfl 4 rfl ?_
    refine g_callV0 (pc1 := 76) (As := [.int v2, .int v5]) (rest := []) d_Told_lay_73 rfl mo_Told_63 mi_Land_inDish mv_Land_inDish rfl (shLa_0 hLd1) (ltLa_0 hLd1) (by decide) rfl rfl (Nat.le_of_ble_eq_true rfl) ?_
    obtain ⟨r24, hq23, h⟩ := bnd h
    refine f_Land_inDish hld hLd1 hq23 ?_
    dsimp only [psh]
    refine g_if_eq (pc1 := 79) (tgt := 85) d_Told_lay_76 (by decide) rfl (fun c25 => ?_) (fun c25 => ?_)
    · replace h := itp h c25
      refine g_iconst (pc1 := 86) (v := 0) d_Told_lay_85 rfl (by decide) ?_
      refine g_ireturn (Or.inr ⟨rfl, rfl⟩) d_Told_lay_86 rfl ?_
      cases h; exact hQ
    · replace h := itn h c25
      exact j_Told_lay_79 hld hLd1 hQ  h
def J_Told_lay_38 (Ld1 : Nat) (v2 : Int32) (v4 : Int32) (s0 : Int32) (M : gM) : Option (Int32 × gM) :=
  bI (F_Land_manyIn Ld1 v2 M) (fun r5 => nmI (r5 + v4) (fun x6 => (if v4 = 0 then J_Told_lay_64 Ld1 v2 v4 s0 x6 M else (if (M Ld1 0) ≤ s0 then some (0, M) else J_Told_lay_64 Ld1 v2 v4 s0 x6 M))))
set_option maxHeartbeats 4000000 in
set_option maxRecDepth 20000 in
theorem j_Told_lay_38 {l : Launch} {ld : Nat} {Q : Option Value → gM → gL → gR → Prop} (hld : isLa ld) {Ld1 : Nat} (hLd1 : isLa Ld1) {q : Int32 × gM} {M : gM} {L : gL} (hQ : Q (some (.int q.1)) q.2 L (rf ld))  {v2 : Int32} {v4 : Int32} {s0 : Int32}  (h : J_Told_lay_38 Ld1 v2 v4 s0 M = some q) : Wp l y_Told_lay (0, 0, 447) 447 0 0 38 [(0, .ref 383), (1, .ref Ld1), (2, .int v2), (4, .int v4)] [.int s0] M L (rf ld) Q := by
  unfold J_Told_lay_38 at h
  refine g_istore (pc1 := 40) (lv' := [(0, .ref 383), (1, .ref Ld1), (2, .int v2), (4, .int v4), (5, .int s0)]) d_Told_lay_38 rfl (by decide) [1, 2, 3, 4, 0] rfl ?_
  refine g_aload_n (pc1 := 41) d_Told_lay_40 rfl 1 rfl ?_
  refine g_iload_n (pc1 := 42) d_Told_lay_41 rfl 2 rfl ?_
  refine g_callV0 (pc1 := 45) (As := [.int v2]) (rest := []) d_Told_lay_42 rfl mo_Told_56 mi_Land_manyIn mv_Land_manyIn rfl (shLa_0 hLd1) (ltLa_0 hLd1) (by decide) rfl rfl (Nat.le_of_ble_eq_true rfl) ?_
  obtain ⟨r5, hq4, h⟩ := bnd h
  refine f_Land_manyIn hld hLd1 hq4 ?_
  dsimp only [psh]
  refine g_iload (pc1 := 47) d_Told_lay_45 rfl 3 rfl ?_
  refine g_iadd (pc1 := 48) d_Told_lay_47 rfl ?_
  refine Wp.lI h (fun x6 h => ?_)
  refine g_istore (pc1 := 50) (lv' := [(0, .ref 383), (1, .ref Ld1), (2, .int v2), (4, .int v4), (5, .int s0), (6, .int x6)]) d_Told_lay_48 rfl (by decide) [1, 2, 3, 4, 5, 0] rfl ?_
  refine g_iload (pc1 := 52) d_Told_lay_50 rfl 3 rfl ?_
  refine g_if_eq (pc1 := 55) (tgt := 64) d_Told_lay_52 (by decide) rfl (fun c7 => ?_) (fun c7 => ?_)
  · replace h := itp h c7
    exact j_Told_lay_64 hld hLd1 hQ  h
  · replace h := itn h c7
    refine g_iload (pc1 := 57) d_Told_lay_55 rfl 4 rfl ?_
    refine g_aload_n (pc1 := 58) d_Told_lay_57 rfl 1 rfl ?_
    refine g_geti (pc1 := 61) d_Told_lay_58 rfl ⟨_, fo_Told_60⟩ (shLa_0 hLd1) (ltLa_0 hLd1) ?_
    refine g_icmp_ge (pc1 := 64) (tgt := 85) d_Told_lay_61 (by decide) rfl (fun c26 => ?_) (fun c26 => ?_)
    · replace h := itp h c26
      refine g_iconst (pc1 := 86) (v := 0) d_Told_lay_85 rfl (by decide) ?_
      refine g_ireturn (Or.inr ⟨rfl, rfl⟩) d_Told_lay_86 rfl ?_
      cases h; exact hQ
    · replace h := itn h c26
      exact j_Told_lay_64 hld hLd1 hQ  h
def J_Told_lay_19 (Ld1 : Nat) (v2 : Int32) (v3 : Int32) (s0 : Int32) (M : gM) : Option (Int32 × gM) :=
  (if s0 ≤ 0 then J_Told_lay_38 Ld1 v2 s0 ((v3 - 1) - 6) M else J_Told_lay_38 Ld1 v2 s0 (v3 - 1) M)
set_option maxHeartbeats 4000000 in
set_option maxRecDepth 20000 in
theorem j_Told_lay_19 {l : Launch} {ld : Nat} {Q : Option Value → gM → gL → gR → Prop} (hld : isLa ld) {Ld1 : Nat} (hLd1 : isLa Ld1) {q : Int32 × gM} {M : gM} {L : gL} (hQ : Q (some (.int q.1)) q.2 L (rf ld))  {v2 : Int32} {v3 : Int32} {s0 : Int32}  (h : J_Told_lay_19 Ld1 v2 v3 s0 M = some q) : Wp l y_Told_lay (0, 0, 447) 447 0 0 19 [(0, .ref 383), (1, .ref Ld1), (2, .int v2), (3, .int v3)] [.int s0] M L (rf ld) Q := by
  unfold J_Told_lay_19 at h
  refine g_istore (pc1 := 21) (lv' := [(0, .ref 383), (1, .ref Ld1), (2, .int v2), (3, .int v3), (4, .int s0)]) d_Told_lay_19 rfl (by decide) [1, 2, 3, 4, 0] rfl ?_
  refine g_iload (pc1 := 23) d_Told_lay_21 rfl 4 rfl ?_
  refine g_if_le (pc1 := 26) (tgt := 32) d_Told_lay_23 (by decide) rfl (fun c3 => ?_) (fun c3 => ?_)
  · replace h := itp h c3
    refine g_iload_n (pc1 := 33) d_Told_lay_32 rfl 3 rfl ?_
    refine g_iconst (pc1 := 34) (v := 1) d_Told_lay_33 rfl (by decide) ?_
    refine g_isub (pc1 := 35) d_Told_lay_34 rfl ?_
    refine g_bipush (pc1 := 37) (v := 6) d_Told_lay_35 rfl (by decide) ?_
    refine g_isub (pc1 := 38) d_Told_lay_37 rfl ?_
    refine Wp.loc (lv' := [(0, .ref 383), (1, .ref Ld1), (2, .int v2), (4, .int s0)]) [0, 1, 2, 4] rfl ?_
    exact j_Told_lay_38 hld hLd1 hQ  h
  · replace h := itn h c3
    refine g_iload_n (pc1 := 27) d_Told_lay_26 rfl 3 rfl ?_
    refine g_iconst (pc1 := 28) (v := 1) d_Told_lay_27 rfl (by decide) ?_
    refine g_isub (pc1 := 29) d_Told_lay_28 rfl ?_
    refine g_goto (tgt := 38) d_Told_lay_29 (by decide) ?_
    refine Wp.loc (lv' := [(0, .ref 383), (1, .ref Ld1), (2, .int v2), (4, .int s0)]) [0, 1, 2, 4] rfl ?_
    exact j_Told_lay_38 hld hLd1 hQ  h
def F_Told_lay (Ld1 : Nat) (p2 : Int32) (p3 : Int32) (M : gM) : Option (Int32 × gM) :=
  (if p3 = 0 then J_Told_lay_19 Ld1 p2 p3 0 M else (if 6 < p3 then J_Told_lay_19 Ld1 p2 p3 (-1) M else J_Told_lay_19 Ld1 p2 p3 1 M))
set_option maxHeartbeats 4000000 in
set_option maxRecDepth 20000 in
theorem f_Told_lay {l : Launch} {ld : Nat} {M : gM} {L : gL} {Q : Option Value → gM → gL → gR → Prop} (hld : isLa ld) {Ld1 : Nat} {p2 : Int32} {p3 : Int32} (hLd1 : isLa Ld1) {q : Int32 × gM} (h : F_Told_lay Ld1 p2 p3 M = some q) (hQ : Q (some (.int q.1)) q.2 L (rf ld)) : Tm l y_Told_lay (0, 0, 447) 447 [.ref 383, .ref Ld1, .int p2, .int p3] M L (rf ld) Q := by
  refine Tm.of (by decide) (Nat.le_of_ble_eq_true rfl) ?_
  show Wp l y_Told_lay (0, 0, 447) 447 0 0 0 [(0, .ref 383), (1, .ref Ld1), (2, .int p2), (3, .int p3)] [] M L (rf ld) Q
  unfold F_Told_lay at h
  refine g_iload_n (pc1 := 1) d_Told_lay_0 rfl 3 rfl ?_
  refine g_if_ne (pc1 := 4) (tgt := 8) d_Told_lay_1 (by decide) rfl (fun c1 => ?_) (fun c1 => ?_)
  · replace h := itn h c1
    refine g_iload_n (pc1 := 9) d_Told_lay_8 rfl 3 rfl ?_
    refine g_bipush (pc1 := 11) (v := 6) d_Told_lay_9 rfl (by decide) ?_
    refine g_icmp_gt (pc1 := 14) (tgt := 18) d_Told_lay_11 (by decide) rfl (fun c2 => ?_) (fun c2 => ?_)
    · replace h := itp h c2
      refine g_iconst (pc1 := 19) (v := (-1)) d_Told_lay_18 rfl (by decide) ?_
      exact j_Told_lay_19 hld hLd1 hQ  h
    · replace h := itn h c2
      refine g_iconst (pc1 := 15) (v := 1) d_Told_lay_14 rfl (by decide) ?_
      refine g_goto (tgt := 19) d_Told_lay_15 (by decide) ?_
      exact j_Told_lay_19 hld hLd1 hQ  h
  · replace h := itp h c1
    refine g_iconst (pc1 := 5) (v := 0) d_Told_lay_4 rfl (by decide) ?_
    refine g_goto (tgt := 19) d_Told_lay_5 (by decide) ?_
    exact j_Told_lay_19 hld hLd1 hQ  h

def F_Main_boundIn (ld : Nat) (p1 : Int32) (p2 : Int32) (p3 : Int32) (M : gM) : Option (Int32 × gM) :=
  bI (F_Main_isOne p1 (M ld 2)) (fun r2 => (if r2 = 0 then some ((-1), M) else bI (F_Main_isOne p2 3) (fun r5 => (if r5 = 0 then some ((-1), M) else (if p3 < 0 then some ((-1), M) else (if p3 ≤ 60 then bI2 (F_State_boundOf 64 ld p1 p2 p3 M) (fun r10 M11 => some (r10, M11)) else some ((-1), M)))))))
set_option maxHeartbeats 4000000 in
set_option maxRecDepth 20000 in
theorem f_Main_boundIn {l : Launch} {ld : Nat} {M : gM} {L : gL} {Q : Option Value → gM → gL → gR → Prop} (hld : isLa ld) {p1 : Int32} {p2 : Int32} {p3 : Int32}  {q : Int32 × gM} (h : F_Main_boundIn ld p1 p2 p3 M = some q) (hQ : Q (some (.int q.1)) q.2 L (rf ld)) : Tm l y_Main_boundIn (0, 0, 447) 447 [.ref 0, .int p1, .int p2, .int p3] M L (rf ld) Q := by
  refine Tm.of (by decide) (Nat.le_of_ble_eq_true rfl) ?_
  show Wp l y_Main_boundIn (0, 0, 447) 447 0 0 0 [(0, .ref 0), (1, .int p1), (2, .int p2), (3, .int p3)] [] M L (rf ld) Q
  unfold F_Main_boundIn at h
  refine g_iload_n (pc1 := 1) d_Main_boundIn_0 rfl 1 rfl ?_
  refine g_aload_n (pc1 := 2) d_Main_boundIn_1 rfl 0 rfl ?_
  refine g_getr (pc1 := 5) d_Main_boundIn_2 rfl ⟨_, fo_Main_26⟩ sh_0 (by decide) (rf_0_2 ld) ?_
  refine g_geti (pc1 := 8) d_Main_boundIn_5 rfl ⟨_, fo_Main_157⟩ (shLa_0 hld) (ltLa_0 hld) ?_
  refine g_callS0 (pc1 := 11) (As := [.int p1, .int (M ld 2)]) (rest := []) d_Main_boundIn_8 rfl mo_Main_112 ms_Main_isOne (by decide) rfl rfl (Nat.le_of_ble_eq_true rfl) ?_
  obtain ⟨r2, hq1, h⟩ := bnd h
  refine f_Main_isOne hld  hq1 ?_
  dsimp only [psh]
  refine g_if_eq (pc1 := 14) (tgt := 32) d_Main_boundIn_11 (by decide) rfl (fun c3 => ?_) (fun c3 => ?_)
  · replace h := itp h c3
    refine g_iconst (pc1 := 33) (v := (-1)) d_Main_boundIn_32 rfl (by decide) ?_
    refine g_ireturn (Or.inl rfl) d_Main_boundIn_33 rfl ?_
    cases h; exact hQ
  · replace h := itn h c3
    refine g_iload_n (pc1 := 15) d_Main_boundIn_14 rfl 2 rfl ?_
    refine g_iconst (pc1 := 16) (v := 3) d_Main_boundIn_15 rfl (by decide) ?_
    refine g_callS0 (pc1 := 19) (As := [.int p2, .int 3]) (rest := []) d_Main_boundIn_16 rfl mo_Main_112 ms_Main_isOne (by decide) rfl rfl (Nat.le_of_ble_eq_true rfl) ?_
    obtain ⟨r5, hq4, h⟩ := bnd h
    refine f_Main_isOne hld  hq4 ?_
    dsimp only [psh]
    refine g_if_eq (pc1 := 22) (tgt := 32) d_Main_boundIn_19 (by decide) rfl (fun c6 => ?_) (fun c6 => ?_)
    · replace h := itp h c6
      refine g_iconst (pc1 := 33) (v := (-1)) d_Main_boundIn_32 rfl (by decide) ?_
      refine g_ireturn (Or.inl rfl) d_Main_boundIn_33 rfl ?_
      cases h; exact hQ
    · replace h := itn h c6
      refine g_iload_n (pc1 := 23) d_Main_boundIn_22 rfl 3 rfl ?_
      refine g_if_lt (pc1 := 26) (tgt := 32) d_Main_boundIn_23 (by decide) rfl (fun c7 => ?_) (fun c7 => ?_)
      · replace h := itp h c7
        refine g_iconst (pc1 := 33) (v := (-1)) d_Main_boundIn_32 rfl (by decide) ?_
        refine g_ireturn (Or.inl rfl) d_Main_boundIn_33 rfl ?_
        cases h; exact hQ
      · replace h := itn h c7
        refine g_iload_n (pc1 := 27) d_Main_boundIn_26 rfl 3 rfl ?_
        refine g_bipush (pc1 := 29) (v := 60) d_Main_boundIn_27 rfl (by decide) ?_
        refine g_icmp_le (pc1 := 32) (tgt := 34) d_Main_boundIn_29 (by decide) rfl (fun c8 => ?_) (fun c8 => ?_)
        · replace h := itp h c8
          refine g_aload_n (pc1 := 35) d_Main_boundIn_34 rfl 0 rfl ?_
          refine g_getr (pc1 := 38) d_Main_boundIn_35 rfl ⟨_, fo_Main_36⟩ sh_0 (by decide) (rf_0_4 ld) ?_
          refine g_aload_n (pc1 := 39) d_Main_boundIn_38 rfl 0 rfl ?_
          refine g_getr (pc1 := 42) d_Main_boundIn_39 rfl ⟨_, fo_Main_26⟩ sh_0 (by decide) (rf_0_2 ld) ?_
          refine g_iload_n (pc1 := 43) d_Main_boundIn_42 rfl 1 rfl ?_
          refine g_iload_n (pc1 := 44) d_Main_boundIn_43 rfl 2 rfl ?_
          refine g_iload_n (pc1 := 45) d_Main_boundIn_44 rfl 3 rfl ?_
          refine g_callV0 (pc1 := 48) (As := [.ref ld, .int p1, .int p2, .int p3]) (rest := []) d_Main_boundIn_45 rfl mo_Main_173 mi_State_boundOf mv_State_boundOf rfl (shSt_0 isSt_64) (ltSt_0 isSt_64) (by decide) rfl rfl (Nat.le_of_ble_eq_true rfl) ?_
          obtain ⟨r10, M11, hq9, h⟩ := bnd2 h
          refine f_State_boundOf hld isSt_64 hld hq9 ?_
          dsimp only [psh]
          refine g_ireturn (Or.inl rfl) d_Main_boundIn_48 rfl ?_
          cases h; exact hQ
        · replace h := itn h c8
          refine g_iconst (pc1 := 33) (v := (-1)) d_Main_boundIn_32 rfl (by decide) ?_
          refine g_ireturn (Or.inl rfl) d_Main_boundIn_33 rfl ?_
          cases h; exact hQ

def B_Main_changeBy_5 (ld : Nat) (v1 : Int32) (v2 : Int32) (K5 : Int32 → Int32 → gM → Option (Int32 × gM)) : Int32 → Int32 → gM → Option (Int32 × gM) := fun v3 v4 M =>
  (if 3 ≤ v4 then some (v3, M) else bI2 (F_Land_dishForce ld v1 v2 v4 (M 64 0) M) (fun r3 M4 => bI2 (F_Land_dishForce ld v1 (-2) v4 (M4 64 0) M4) (fun r6 M7 => nmI (v3 + (if 0 ≤ (r3 - r6) then (r3 - r6) else 0 - (r3 - r6))) (fun x8 => nmI (v4 + 1) (fun x9 => K5 x8 x9 M7)))))
def H_Main_changeBy_5 (ld : Nat) (v1 : Int32) (v2 : Int32) : Nat → Int32 → Int32 → gM → Option (Int32 × gM) := lpK (B_Main_changeBy_5 ld v1 v2) (fun _ _ _ => none)
set_option maxHeartbeats 4000000 in
set_option maxRecDepth 20000 in
theorem h_Main_changeBy_5 {l : Launch} {ld : Nat} {Q : Option Value → gM → gL → gR → Prop} (hld : isLa ld)   {q : Int32 × gM} {L : gL} (hQ : Q (some (.int q.1)) q.2 L (rf ld))  {v1 : Int32} {v2 : Int32}  : ∀ (f : Nat) (v3 : Int32) (v4 : Int32) (M : gM), H_Main_changeBy_5 ld v1 v2 f v3 v4 M = some q → Wp l y_Main_changeBy (0, 0, 447) 447 0 0 5 [(0, .ref 0), (1, .int v1), (2, .int v2), (3, .int v3), (4, .int v4)] [] M L (rf ld) Q := by
  intro f
  induction f with
  | zero => intro v3 v4 M h; cases h
  | succ f hK5 =>
    intro v3 v4 M h
    replace h : B_Main_changeBy_5 ld v1 v2 (H_Main_changeBy_5 ld v1 v2 f) v3 v4 M = some q := h
    unfold B_Main_changeBy_5 at h
    refine g_iload (pc1 := 7) d_Main_changeBy_5 rfl 4 rfl ?_
    refine g_iconst (pc1 := 8) (v := 3) d_Main_changeBy_7 rfl (by decide) ?_
    refine g_icmp_ge (pc1 := 11) (tgt := 69) d_Main_changeBy_8 (by decide) rfl (fun c1 => ?_) (fun c1 => ?_)
    · replace h := itp h c1
      refine g_iload_n (pc1 := 70) d_Main_changeBy_69 rfl 3 rfl ?_
      refine g_ireturn (Or.inl rfl) d_Main_changeBy_70 rfl ?_
      cases h; exact hQ
    · replace h := itn h c1
      refine g_aload_n (pc1 := 12) d_Main_changeBy_11 rfl 0 rfl ?_
      refine g_getr (pc1 := 15) d_Main_changeBy_12 rfl ⟨_, fo_Main_26⟩ sh_0 (by decide) (rf_0_2 ld) ?_
      refine g_iload_n (pc1 := 16) d_Main_changeBy_15 rfl 1 rfl ?_
      refine g_iload_n (pc1 := 17) d_Main_changeBy_16 rfl 2 rfl ?_
      refine g_iload (pc1 := 19) d_Main_changeBy_17 rfl 4 rfl ?_
      refine g_aload_n (pc1 := 20) d_Main_changeBy_19 rfl 0 rfl ?_
      refine g_getr (pc1 := 23) d_Main_changeBy_20 rfl ⟨_, fo_Main_36⟩ sh_0 (by decide) (rf_0_4 ld) ?_
      refine g_geti (pc1 := 26) d_Main_changeBy_23 rfl ⟨_, fo_Main_144⟩ (shSt_0 isSt_64) (ltSt_0 isSt_64) ?_
      refine g_callV0 (pc1 := 29) (As := [.int v1, .int v2, .int v4, .int (M 64 0)]) (rest := []) d_Main_changeBy_26 rfl mo_Main_147 mi_Land_dishForce mv_Land_dishForce rfl (shLa_0 hld) (ltLa_0 hld) (by decide) rfl rfl (Nat.le_of_ble_eq_true rfl) ?_
      obtain ⟨r3, M4, hq2, h⟩ := bnd2 h
      refine f_Land_dishForce hld hld hq2 ?_
      dsimp only [psh]
      refine g_istore (pc1 := 31) (lv' := [(0, .ref 0), (1, .int v1), (2, .int v2), (3, .int v3), (4, .int v4), (5, .int r3)]) d_Main_changeBy_29 rfl (by decide) [1, 2, 3, 4, 5, 0] rfl ?_
      refine g_aload_n (pc1 := 32) d_Main_changeBy_31 rfl 0 rfl ?_
      refine g_getr (pc1 := 35) d_Main_changeBy_32 rfl ⟨_, fo_Main_26⟩ sh_0 (by decide) (rf_0_2 ld) ?_
      refine g_iload_n (pc1 := 36) d_Main_changeBy_35 rfl 1 rfl ?_
      refine g_bipush (pc1 := 38) (v := (-2)) d_Main_changeBy_36 rfl (by decide) ?_
      refine g_iload (pc1 := 40) d_Main_changeBy_38 rfl 4 rfl ?_
      refine g_aload_n (pc1 := 41) d_Main_changeBy_40 rfl 0 rfl ?_
      refine g_getr (pc1 := 44) d_Main_changeBy_41 rfl ⟨_, fo_Main_36⟩ sh_0 (by decide) (rf_0_4 ld) ?_
      refine g_geti (pc1 := 47) d_Main_changeBy_44 rfl ⟨_, fo_Main_144⟩ (shSt_0 isSt_64) (ltSt_0 isSt_64) ?_
      refine g_callV0 (pc1 := 50) (As := [.int v1, .int (-2), .int v4, .int (M4 64 0)]) (rest := []) d_Main_changeBy_47 rfl mo_Main_147 mi_Land_dishForce mv_Land_dishForce rfl (shLa_0 hld) (ltLa_0 hld) (by decide) rfl rfl (Nat.le_of_ble_eq_true rfl) ?_
      obtain ⟨r6, M7, hq5, h⟩ := bnd2 h
      refine f_Land_dishForce hld hld hq5 ?_
      dsimp only [psh]
      refine g_istore (pc1 := 52) (lv' := [(0, .ref 0), (1, .int v1), (2, .int v2), (3, .int v3), (4, .int v4), (5, .int r3), (6, .int r6)]) d_Main_changeBy_50 rfl (by decide) [1, 2, 3, 4, 5, 6, 0] rfl ?_
      refine g_iload_n (pc1 := 53) d_Main_changeBy_52 rfl 3 rfl ?_
      refine g_iload (pc1 := 55) d_Main_changeBy_53 rfl 5 rfl ?_
      refine g_iload (pc1 := 57) d_Main_changeBy_55 rfl 6 rfl ?_
      refine g_isub (pc1 := 58) d_Main_changeBy_57 rfl ?_
      refine g_mabs (pc1 := 61) d_Main_changeBy_58 rfl mm_Main_238 (by decide) ⟨Nat.le_refl 0, Nat.le_refl 0⟩ (Nat.le_of_ble_eq_true rfl) ?_
      refine g_iadd (pc1 := 62) d_Main_changeBy_61 rfl ?_
      refine Wp.lI h (fun x8 h => ?_)
      refine g_istore_n (pc1 := 63) (lv' := [(0, .ref 0), (1, .int v1), (2, .int v2), (3, .int x8), (4, .int v4), (5, .int r3), (6, .int r6)]) d_Main_changeBy_62 rfl rfl (by decide) [1, 2, 3, 0, 4, 5, 6] rfl ?_
      obtain ⟨x9, ex9, h⟩ := ltI h
      refine g_iinc (pc1 := 66) (v := x9) (lv' := [(0, .ref 0), (1, .int v1), (2, .int v2), (3, .int x8), (4, .int x9), (5, .int r3), (6, .int r6)]) d_Main_changeBy_63 rfl 4 rfl (by rw [ex9]; rfl) (by decide) [1, 2, 3, 4, 0, 5, 6] rfl ?_
      refine g_goto (tgt := 5) d_Main_changeBy_66 (by decide) ?_
      refine Wp.loc (lv' := [(0, .ref 0), (1, .int v1), (2, .int v2), (3, .int x8), (4, .int x9)]) [0, 1, 2, 3, 4] rfl ?_
      exact hK5 x8 x9 M7 h
def F_Main_changeBy (ld : Nat) (p1 : Int32) (p2 : Int32) (M : gM) : Option (Int32 × gM) :=
  H_Main_changeBy_5 ld p1 p2 FU 0 0 M
set_option maxHeartbeats 4000000 in
set_option maxRecDepth 20000 in
theorem f_Main_changeBy {l : Launch} {ld : Nat} {M : gM} {L : gL} {Q : Option Value → gM → gL → gR → Prop} (hld : isLa ld) {p1 : Int32} {p2 : Int32}  {q : Int32 × gM} (h : F_Main_changeBy ld p1 p2 M = some q) (hQ : Q (some (.int q.1)) q.2 L (rf ld)) : Tm l y_Main_changeBy (0, 0, 447) 447 [.ref 0, .int p1, .int p2] M L (rf ld) Q := by
  refine Tm.of (by decide) (Nat.le_of_ble_eq_true rfl) ?_
  show Wp l y_Main_changeBy (0, 0, 447) 447 0 0 0 [(0, .ref 0), (1, .int p1), (2, .int p2)] [] M L (rf ld) Q
  unfold F_Main_changeBy at h
  refine g_iconst (pc1 := 1) (v := 0) d_Main_changeBy_0 rfl (by decide) ?_
  refine g_istore_n (pc1 := 2) (lv' := [(0, .ref 0), (1, .int p1), (2, .int p2), (3, .int 0)]) d_Main_changeBy_1 rfl rfl (by decide) [1, 2, 3, 0] rfl ?_
  refine g_iconst (pc1 := 3) (v := 0) d_Main_changeBy_2 rfl (by decide) ?_
  refine g_istore (pc1 := 5) (lv' := [(0, .ref 0), (1, .int p1), (2, .int p2), (3, .int 0), (4, .int 0)]) d_Main_changeBy_3 rfl (by decide) [1, 2, 3, 4, 0] rfl ?_
  exact h_Main_changeBy_5 hld  hQ  _ 0 0 M h

def F_Main_days (ld : Nat) (p1 : Int32) (M : gM) : Option (Int32 × gM) :=
  (if p1 < 0 then some ((-1), M) else (if p1 ≤ 60 then (if p1 ≤ 0 then some ((M 64 0), M) else bI (F_Past_keep 64 M) (fun M5 => bI (F_State_passDays 64 ld p1 M5) (fun M7 => some ((M7 64 0), M7)))) else some ((-1), M)))
set_option maxHeartbeats 4000000 in
set_option maxRecDepth 20000 in
theorem f_Main_days {l : Launch} {ld : Nat} {M : gM} {L : gL} {Q : Option Value → gM → gL → gR → Prop} (hld : isLa ld) {p1 : Int32}  {q : Int32 × gM} (h : F_Main_days ld p1 M = some q) (hQ : Q (some (.int q.1)) q.2 L (rf ld)) : Tm l y_Main_days (0, 0, 447) 447 [.ref 0, .int p1] M L (rf ld) Q := by
  refine Tm.of (by decide) (Nat.le_of_ble_eq_true rfl) ?_
  show Wp l y_Main_days (0, 0, 447) 447 0 0 0 [(0, .ref 0), (1, .int p1)] [] M L (rf ld) Q
  unfold F_Main_days at h
  refine g_iload_n (pc1 := 1) d_Main_days_0 rfl 1 rfl ?_
  refine g_if_lt (pc1 := 4) (tgt := 10) d_Main_days_1 (by decide) rfl (fun c1 => ?_) (fun c1 => ?_)
  · replace h := itp h c1
    refine g_iconst (pc1 := 11) (v := (-1)) d_Main_days_10 rfl (by decide) ?_
    refine g_ireturn (Or.inl rfl) d_Main_days_11 rfl ?_
    cases h; exact hQ
  · replace h := itn h c1
    refine g_iload_n (pc1 := 5) d_Main_days_4 rfl 1 rfl ?_
    refine g_bipush (pc1 := 7) (v := 60) d_Main_days_5 rfl (by decide) ?_
    refine g_icmp_le (pc1 := 10) (tgt := 12) d_Main_days_7 (by decide) rfl (fun c2 => ?_) (fun c2 => ?_)
    · replace h := itp h c2
      refine g_iload_n (pc1 := 13) d_Main_days_12 rfl 1 rfl ?_
      refine g_if_le (pc1 := 16) (tgt := 39) d_Main_days_13 (by decide) rfl (fun c3 => ?_) (fun c3 => ?_)
      · replace h := itp h c3
        refine g_aload_n (pc1 := 40) d_Main_days_39 rfl 0 rfl ?_
        refine g_getr (pc1 := 43) d_Main_days_40 rfl ⟨_, fo_Main_36⟩ sh_0 (by decide) (rf_0_4 ld) ?_
        refine g_geti (pc1 := 46) d_Main_days_43 rfl ⟨_, fo_Main_144⟩ (shSt_0 isSt_64) (ltSt_0 isSt_64) ?_
        refine g_ireturn (Or.inl rfl) d_Main_days_46 rfl ?_
        cases h; exact hQ
      · replace h := itn h c3
        refine g_aload_n (pc1 := 17) d_Main_days_16 rfl 0 rfl ?_
        refine g_getr (pc1 := 20) d_Main_days_17 rfl ⟨_, fo_Main_46⟩ sh_0 (by decide) (rf_0_6 ld) ?_
        refine g_aload_n (pc1 := 21) d_Main_days_20 rfl 0 rfl ?_
        refine g_getr (pc1 := 24) d_Main_days_21 rfl ⟨_, fo_Main_36⟩ sh_0 (by decide) (rf_0_4 ld) ?_
        refine g_callV0 (pc1 := 27) (As := [.ref 64]) (rest := []) d_Main_days_24 rfl mo_Main_200 mi_Past_keep mv_Past_keep rfl sh_78 (by decide) (by decide) rfl rfl (Nat.le_of_ble_eq_true rfl) ?_
        obtain ⟨M5, hq4, h⟩ := bnd h
        refine f_Past_keep hld isSt_64 hq4 ?_
        dsimp only [psh]
        refine g_aload_n (pc1 := 28) d_Main_days_27 rfl 0 rfl ?_
        refine g_getr (pc1 := 31) d_Main_days_28 rfl ⟨_, fo_Main_36⟩ sh_0 (by decide) (rf_0_4 ld) ?_
        refine g_aload_n (pc1 := 32) d_Main_days_31 rfl 0 rfl ?_
        refine g_getr (pc1 := 35) d_Main_days_32 rfl ⟨_, fo_Main_26⟩ sh_0 (by decide) (rf_0_2 ld) ?_
        refine g_iload_n (pc1 := 36) d_Main_days_35 rfl 1 rfl ?_
        refine g_callV0 (pc1 := 39) (As := [.ref ld, .int p1]) (rest := []) d_Main_days_36 rfl mo_Main_214 mi_State_passDays mv_State_passDays rfl (shSt_0 isSt_64) (ltSt_0 isSt_64) (by decide) rfl rfl (Nat.le_of_ble_eq_true rfl) ?_
        obtain ⟨M7, hq6, h⟩ := bnd h
        refine f_State_passDays hld isSt_64 hld hq6 ?_
        dsimp only [psh]
        refine g_aload_n (pc1 := 40) d_Main_days_39 rfl 0 rfl ?_
        refine g_getr (pc1 := 43) d_Main_days_40 rfl ⟨_, fo_Main_36⟩ sh_0 (by decide) (rf_0_4 ld) ?_
        refine g_geti (pc1 := 46) d_Main_days_43 rfl ⟨_, fo_Main_144⟩ (shSt_0 isSt_64) (ltSt_0 isSt_64) ?_
        refine g_ireturn (Or.inl rfl) d_Main_days_46 rfl ?_
        cases h; exact hQ
    · replace h := itn h c2
      refine g_iconst (pc1 := 11) (v := (-1)) d_Main_days_10 rfl (by decide) ?_
      refine g_ireturn (Or.inl rfl) d_Main_days_11 rfl ?_
      cases h; exact hQ

def F_Main_dish (ld : Nat) (p1 : Int32) (p2 : Int32) (M : gM) : Option (Int32 × gM) :=
  bI (F_Main_isOne p1 (M ld 1)) (fun r2 => (if r2 = 0 then some ((-1), M) else (if p2 = 0 then bI (F_Main_at (ld + 4) 5 p1 M) (fun r6 => some (r6, M)) else (if p2 = 1 then bI (F_Land_manyIn ld p1 M) (fun r9 => some (r9, M)) else (if p2 = 2 then bI (F_Land_priceOf ld p1 M) (fun r12 => some (r12, M)) else (if p2 = 3 then bI2 (F_Land_dishForce ld p1 (-2) (p2 - 3) (M 64 0) M) (fun r15 M16 => some (r15, M16)) else (if p2 = 4 then bI2 (F_Land_dishForce ld p1 (-2) (p2 - 3) (M 64 0) M) (fun r19 M20 => some (r19, M20)) else (if p2 = 5 then bI2 (F_Land_dishForce ld p1 (-2) (p2 - 3) (M 64 0) M) (fun r23 M24 => some (r23, M24)) else (if p2 = 6 then bI (F_Main_at (64 + 3) 5 p1 M) (fun r27 => some (r27, M)) else some ((-1), M))))))))))
set_option maxHeartbeats 4000000 in
set_option maxRecDepth 20000 in
theorem f_Main_dish {l : Launch} {ld : Nat} {M : gM} {L : gL} {Q : Option Value → gM → gL → gR → Prop} (hld : isLa ld) {p1 : Int32} {p2 : Int32}  {q : Int32 × gM} (h : F_Main_dish ld p1 p2 M = some q) (hQ : Q (some (.int q.1)) q.2 L (rf ld)) : Tm l y_Main_dish (0, 0, 447) 447 [.ref 0, .int p1, .int p2] M L (rf ld) Q := by
  refine Tm.of (by decide) (Nat.le_of_ble_eq_true rfl) ?_
  show Wp l y_Main_dish (0, 0, 447) 447 0 0 0 [(0, .ref 0), (1, .int p1), (2, .int p2)] [] M L (rf ld) Q
  unfold F_Main_dish at h
  refine g_iload_n (pc1 := 1) d_Main_dish_0 rfl 1 rfl ?_
  refine g_aload_n (pc1 := 2) d_Main_dish_1 rfl 0 rfl ?_
  refine g_getr (pc1 := 5) d_Main_dish_2 rfl ⟨_, fo_Main_26⟩ sh_0 (by decide) (rf_0_2 ld) ?_
  refine g_geti (pc1 := 8) d_Main_dish_5 rfl ⟨_, fo_Main_131⟩ (shLa_0 hld) (ltLa_0 hld) ?_
  refine g_callS0 (pc1 := 11) (As := [.int p1, .int (M ld 1)]) (rest := []) d_Main_dish_8 rfl mo_Main_112 ms_Main_isOne (by decide) rfl rfl (Nat.le_of_ble_eq_true rfl) ?_
  obtain ⟨r2, hq1, h⟩ := bnd h
  refine f_Main_isOne hld  hq1 ?_
  dsimp only [psh]
  refine g_if_ne (pc1 := 14) (tgt := 16) d_Main_dish_11 (by decide) rfl (fun c3 => ?_) (fun c3 => ?_)
  · replace h := itn h c3
    refine g_iload_n (pc1 := 17) d_Main_dish_16 rfl 2 rfl ?_
    by_cases c4 : p2 = 0
    · replace h := itp h c4
      refine g_tabK (tgt := 60) (off := 43) d_Main_dish_17 c4 (by decide) (by decide) (by decide) (by decide) ?_
      refine g_aload_n (pc1 := 61) d_Main_dish_60 rfl 0 rfl ?_
      refine g_getr (pc1 := 64) d_Main_dish_61 rfl ⟨_, fo_Main_26⟩ sh_0 (by decide) (rf_0_2 ld) ?_
      refine g_getr (pc1 := 67) d_Main_dish_64 rfl ⟨_, fo_Main_134⟩ (shLa_0 hld) (ltLa_0 hld) (rfLa_8 ld hld) ?_
      refine g_iload_n (pc1 := 68) d_Main_dish_67 rfl 1 rfl ?_
      refine g_callS0 (pc1 := 71) (As := [.ref (ld + 4), .int p1]) (rest := []) d_Main_dish_68 rfl mo_Main_120 ms_Main_at (by decide) rfl rfl (Nat.le_of_ble_eq_true rfl) ?_
      obtain ⟨r6, hq5, h⟩ := bnd h
      refine f_Main_at hld (shLa_4 hld) (ltLa_4 hld) (by decide) hq5 ?_
      dsimp only [psh]
      refine g_ireturn (Or.inl rfl) d_Main_dish_71 rfl ?_
      cases h; exact hQ
    replace h := itn h c4
    by_cases c7 : p2 = 1
    · replace h := itp h c7
      refine g_tabK (tgt := 72) (off := 55) d_Main_dish_17 c7 (by decide) (by decide) (by decide) (by decide) ?_
      refine g_aload_n (pc1 := 73) d_Main_dish_72 rfl 0 rfl ?_
      refine g_getr (pc1 := 76) d_Main_dish_73 rfl ⟨_, fo_Main_26⟩ sh_0 (by decide) (rf_0_2 ld) ?_
      refine g_iload_n (pc1 := 77) d_Main_dish_76 rfl 1 rfl ?_
      refine g_callV0 (pc1 := 80) (As := [.int p1]) (rest := []) d_Main_dish_77 rfl mo_Main_137 mi_Land_manyIn mv_Land_manyIn rfl (shLa_0 hld) (ltLa_0 hld) (by decide) rfl rfl (Nat.le_of_ble_eq_true rfl) ?_
      obtain ⟨r9, hq8, h⟩ := bnd h
      refine f_Land_manyIn hld hld hq8 ?_
      dsimp only [psh]
      refine g_ireturn (Or.inl rfl) d_Main_dish_80 rfl ?_
      cases h; exact hQ
    replace h := itn h c7
    by_cases c10 : p2 = 2
    · replace h := itp h c10
      refine g_tabK (tgt := 81) (off := 64) d_Main_dish_17 c10 (by decide) (by decide) (by decide) (by decide) ?_
      refine g_aload_n (pc1 := 82) d_Main_dish_81 rfl 0 rfl ?_
      refine g_getr (pc1 := 85) d_Main_dish_82 rfl ⟨_, fo_Main_26⟩ sh_0 (by decide) (rf_0_2 ld) ?_
      refine g_iload_n (pc1 := 86) d_Main_dish_85 rfl 1 rfl ?_
      refine g_callV0 (pc1 := 89) (As := [.int p1]) (rest := []) d_Main_dish_86 rfl mo_Main_141 mi_Land_priceOf mv_Land_priceOf rfl (shLa_0 hld) (ltLa_0 hld) (by decide) rfl rfl (Nat.le_of_ble_eq_true rfl) ?_
      obtain ⟨r12, hq11, h⟩ := bnd h
      refine f_Land_priceOf hld hld hq11 ?_
      dsimp only [psh]
      refine g_ireturn (Or.inl rfl) d_Main_dish_89 rfl ?_
      cases h; exact hQ
    replace h := itn h c10
    by_cases c13 : p2 = 3
    · replace h := itp h c13
      refine g_tabK (tgt := 90) (off := 73) d_Main_dish_17 c13 (by decide) (by decide) (by decide) (by decide) ?_
      refine g_aload_n (pc1 := 91) d_Main_dish_90 rfl 0 rfl ?_
      refine g_getr (pc1 := 94) d_Main_dish_91 rfl ⟨_, fo_Main_26⟩ sh_0 (by decide) (rf_0_2 ld) ?_
      refine g_iload_n (pc1 := 95) d_Main_dish_94 rfl 1 rfl ?_
      refine g_bipush (pc1 := 97) (v := (-2)) d_Main_dish_95 rfl (by decide) ?_
      refine g_iload_n (pc1 := 98) d_Main_dish_97 rfl 2 rfl ?_
      refine g_iconst (pc1 := 99) (v := 3) d_Main_dish_98 rfl (by decide) ?_
      refine g_isub (pc1 := 100) d_Main_dish_99 rfl ?_
      refine g_aload_n (pc1 := 101) d_Main_dish_100 rfl 0 rfl ?_
      refine g_getr (pc1 := 104) d_Main_dish_101 rfl ⟨_, fo_Main_36⟩ sh_0 (by decide) (rf_0_4 ld) ?_
      refine g_geti (pc1 := 107) d_Main_dish_104 rfl ⟨_, fo_Main_144⟩ (shSt_0 isSt_64) (ltSt_0 isSt_64) ?_
      refine g_callV0 (pc1 := 110) (As := [.int p1, .int (-2), .int (p2 - 3), .int (M 64 0)]) (rest := []) d_Main_dish_107 rfl mo_Main_147 mi_Land_dishForce mv_Land_dishForce rfl (shLa_0 hld) (ltLa_0 hld) (by decide) rfl rfl (Nat.le_of_ble_eq_true rfl) ?_
      obtain ⟨r15, M16, hq14, h⟩ := bnd2 h
      refine f_Land_dishForce hld hld hq14 ?_
      dsimp only [psh]
      refine g_ireturn (Or.inl rfl) d_Main_dish_110 rfl ?_
      cases h; exact hQ
    replace h := itn h c13
    by_cases c17 : p2 = 4
    · replace h := itp h c17
      refine g_tabK (tgt := 90) (off := 73) d_Main_dish_17 c17 (by decide) (by decide) (by decide) (by decide) ?_
      refine g_aload_n (pc1 := 91) d_Main_dish_90 rfl 0 rfl ?_
      refine g_getr (pc1 := 94) d_Main_dish_91 rfl ⟨_, fo_Main_26⟩ sh_0 (by decide) (rf_0_2 ld) ?_
      refine g_iload_n (pc1 := 95) d_Main_dish_94 rfl 1 rfl ?_
      refine g_bipush (pc1 := 97) (v := (-2)) d_Main_dish_95 rfl (by decide) ?_
      refine g_iload_n (pc1 := 98) d_Main_dish_97 rfl 2 rfl ?_
      refine g_iconst (pc1 := 99) (v := 3) d_Main_dish_98 rfl (by decide) ?_
      refine g_isub (pc1 := 100) d_Main_dish_99 rfl ?_
      refine g_aload_n (pc1 := 101) d_Main_dish_100 rfl 0 rfl ?_
      refine g_getr (pc1 := 104) d_Main_dish_101 rfl ⟨_, fo_Main_36⟩ sh_0 (by decide) (rf_0_4 ld) ?_
      refine g_geti (pc1 := 107) d_Main_dish_104 rfl ⟨_, fo_Main_144⟩ (shSt_0 isSt_64) (ltSt_0 isSt_64) ?_
      refine g_callV0 (pc1 := 110) (As := [.int p1, .int (-2), .int (p2 - 3), .int (M 64 0)]) (rest := []) d_Main_dish_107 rfl mo_Main_147 mi_Land_dishForce mv_Land_dishForce rfl (shLa_0 hld) (ltLa_0 hld) (by decide) rfl rfl (Nat.le_of_ble_eq_true rfl) ?_
      obtain ⟨r19, M20, hq18, h⟩ := bnd2 h
      refine f_Land_dishForce hld hld hq18 ?_
      dsimp only [psh]
      refine g_ireturn (Or.inl rfl) d_Main_dish_110 rfl ?_
      cases h; exact hQ
    replace h := itn h c17
    by_cases c21 : p2 = 5
    · replace h := itp h c21
      refine g_tabK (tgt := 90) (off := 73) d_Main_dish_17 c21 (by decide) (by decide) (by decide) (by decide) ?_
      refine g_aload_n (pc1 := 91) d_Main_dish_90 rfl 0 rfl ?_
      refine g_getr (pc1 := 94) d_Main_dish_91 rfl ⟨_, fo_Main_26⟩ sh_0 (by decide) (rf_0_2 ld) ?_
      refine g_iload_n (pc1 := 95) d_Main_dish_94 rfl 1 rfl ?_
      refine g_bipush (pc1 := 97) (v := (-2)) d_Main_dish_95 rfl (by decide) ?_
      refine g_iload_n (pc1 := 98) d_Main_dish_97 rfl 2 rfl ?_
      refine g_iconst (pc1 := 99) (v := 3) d_Main_dish_98 rfl (by decide) ?_
      refine g_isub (pc1 := 100) d_Main_dish_99 rfl ?_
      refine g_aload_n (pc1 := 101) d_Main_dish_100 rfl 0 rfl ?_
      refine g_getr (pc1 := 104) d_Main_dish_101 rfl ⟨_, fo_Main_36⟩ sh_0 (by decide) (rf_0_4 ld) ?_
      refine g_geti (pc1 := 107) d_Main_dish_104 rfl ⟨_, fo_Main_144⟩ (shSt_0 isSt_64) (ltSt_0 isSt_64) ?_
      refine g_callV0 (pc1 := 110) (As := [.int p1, .int (-2), .int (p2 - 3), .int (M 64 0)]) (rest := []) d_Main_dish_107 rfl mo_Main_147 mi_Land_dishForce mv_Land_dishForce rfl (shLa_0 hld) (ltLa_0 hld) (by decide) rfl rfl (Nat.le_of_ble_eq_true rfl) ?_
      obtain ⟨r23, M24, hq22, h⟩ := bnd2 h
      refine f_Land_dishForce hld hld hq22 ?_
      dsimp only [psh]
      refine g_ireturn (Or.inl rfl) d_Main_dish_110 rfl ?_
      cases h; exact hQ
    replace h := itn h c21
    by_cases c25 : p2 = 6
    · replace h := itp h c25
      refine g_tabK (tgt := 111) (off := 94) d_Main_dish_17 c25 (by decide) (by decide) (by decide) (by decide) ?_
      refine g_aload_n (pc1 := 112) d_Main_dish_111 rfl 0 rfl ?_
      refine g_getr (pc1 := 115) d_Main_dish_112 rfl ⟨_, fo_Main_36⟩ sh_0 (by decide) (rf_0_4 ld) ?_
      refine g_getr (pc1 := 118) d_Main_dish_115 rfl ⟨_, fo_Main_151⟩ (shSt_0 isSt_64) (ltSt_0 isSt_64) (rfSt_6 ld isSt_64) ?_
      refine g_iload_n (pc1 := 119) d_Main_dish_118 rfl 1 rfl ?_
      refine g_callS0 (pc1 := 122) (As := [.ref (64 + 3), .int p1]) (rest := []) d_Main_dish_119 rfl mo_Main_120 ms_Main_at (by decide) rfl rfl (Nat.le_of_ble_eq_true rfl) ?_
      obtain ⟨r27, hq26, h⟩ := bnd h
      refine f_Main_at hld (shSt_3 isSt_64) (ltSt_3 isSt_64) (by decide) hq26 ?_
      dsimp only [psh]
      refine g_ireturn (Or.inl rfl) d_Main_dish_122 rfl ?_
      cases h; exact hQ
    replace h := itn h c25
    refine g_tabOut (tgt := 123) d_Main_dish_17 (by
      have nc4 := neT (a := 0) c4 (by decide)
      have nc7 := neT (a := 1) c7 (by decide)
      have nc10 := neT (a := 2) c10 (by decide)
      have nc13 := neT (a := 3) c13 (by decide)
      have nc17 := neT (a := 4) c17 (by decide)
      have nc21 := neT (a := 5) c21 (by decide)
      have nc25 := neT (a := 6) c25 (by decide)
      omega) (by decide) ?_
    refine g_iconst (pc1 := 124) (v := (-1)) d_Main_dish_123 rfl (by decide) ?_
    refine g_ireturn (Or.inl rfl) d_Main_dish_124 rfl ?_
    cases h; exact hQ
  · replace h := itp h c3
    refine g_iconst (pc1 := 15) (v := (-1)) d_Main_dish_14 rfl (by decide) ?_
    refine g_ireturn (Or.inl rfl) d_Main_dish_15 rfl ?_
    cases h; exact hQ

def F_Main_guest (ld : Nat) (p1 : Int32) (p2 : Int32) (M : gM) : Option (Int32 × gM) :=
  bI (F_Main_isOne p1 (M ld 2)) (fun r2 => (if r2 = 0 then some ((-1), M) else (if p2 = 0 then bI (F_Main_at (ld + 6) 4 p1 M) (fun r6 => some (r6, M)) else (if p2 = 1 then bI (F_State_hasEaten 64 p1 M) (fun r9 => (if r9 = 0 then some ((-2), M) else bI (F_State_agoOf 64 p1 M) (fun r12 => some (r12, M)))) else (if p2 = 2 then bI (F_Main_at (64 + 4) 4 p1 M) (fun r15 => some (r15, M)) else (if p2 = 3 then bI2 (F_State_boundOf 64 ld p1 (p2 - 3) 0 M) (fun r18 M19 => some (r18, M19)) else (if p2 = 4 then bI2 (F_State_boundOf 64 ld p1 (p2 - 3) 0 M) (fun r22 M23 => some (r22, M23)) else (if p2 = 5 then bI2 (F_State_boundOf 64 ld p1 (p2 - 3) 0 M) (fun r26 M27 => some (r26, M27)) else some ((-1), M)))))))))
set_option maxHeartbeats 4000000 in
set_option maxRecDepth 20000 in
theorem f_Main_guest {l : Launch} {ld : Nat} {M : gM} {L : gL} {Q : Option Value → gM → gL → gR → Prop} (hld : isLa ld) {p1 : Int32} {p2 : Int32}  {q : Int32 × gM} (h : F_Main_guest ld p1 p2 M = some q) (hQ : Q (some (.int q.1)) q.2 L (rf ld)) : Tm l y_Main_guest (0, 0, 447) 447 [.ref 0, .int p1, .int p2] M L (rf ld) Q := by
  refine Tm.of (by decide) (Nat.le_of_ble_eq_true rfl) ?_
  show Wp l y_Main_guest (0, 0, 447) 447 0 0 0 [(0, .ref 0), (1, .int p1), (2, .int p2)] [] M L (rf ld) Q
  unfold F_Main_guest at h
  refine g_iload_n (pc1 := 1) d_Main_guest_0 rfl 1 rfl ?_
  refine g_aload_n (pc1 := 2) d_Main_guest_1 rfl 0 rfl ?_
  refine g_getr (pc1 := 5) d_Main_guest_2 rfl ⟨_, fo_Main_26⟩ sh_0 (by decide) (rf_0_2 ld) ?_
  refine g_geti (pc1 := 8) d_Main_guest_5 rfl ⟨_, fo_Main_157⟩ (shLa_0 hld) (ltLa_0 hld) ?_
  refine g_callS0 (pc1 := 11) (As := [.int p1, .int (M ld 2)]) (rest := []) d_Main_guest_8 rfl mo_Main_112 ms_Main_isOne (by decide) rfl rfl (Nat.le_of_ble_eq_true rfl) ?_
  obtain ⟨r2, hq1, h⟩ := bnd h
  refine f_Main_isOne hld  hq1 ?_
  dsimp only [psh]
  refine g_if_ne (pc1 := 14) (tgt := 16) d_Main_guest_11 (by decide) rfl (fun c3 => ?_) (fun c3 => ?_)
  · replace h := itn h c3
    refine g_iload_n (pc1 := 17) d_Main_guest_16 rfl 2 rfl ?_
    by_cases c4 : p2 = 0
    · replace h := itp h c4
      refine g_tabK (tgt := 56) (off := 39) d_Main_guest_17 c4 (by decide) (by decide) (by decide) (by decide) ?_
      refine g_aload_n (pc1 := 57) d_Main_guest_56 rfl 0 rfl ?_
      refine g_getr (pc1 := 60) d_Main_guest_57 rfl ⟨_, fo_Main_26⟩ sh_0 (by decide) (rf_0_2 ld) ?_
      refine g_getr (pc1 := 63) d_Main_guest_60 rfl ⟨_, fo_Main_160⟩ (shLa_0 hld) (ltLa_0 hld) (rfLa_10 ld hld) ?_
      refine g_iload_n (pc1 := 64) d_Main_guest_63 rfl 1 rfl ?_
      refine g_callS0 (pc1 := 67) (As := [.ref (ld + 6), .int p1]) (rest := []) d_Main_guest_64 rfl mo_Main_120 ms_Main_at (by decide) rfl rfl (Nat.le_of_ble_eq_true rfl) ?_
      obtain ⟨r6, hq5, h⟩ := bnd h
      refine f_Main_at hld (shLa_6 hld) (ltLa_6 hld) (by decide) hq5 ?_
      dsimp only [psh]
      refine g_ireturn (Or.inl rfl) d_Main_guest_67 rfl ?_
      cases h; exact hQ
    replace h := itn h c4
    by_cases c7 : p2 = 1
    · replace h := itp h c7
      refine g_tabK (tgt := 68) (off := 51) d_Main_guest_17 c7 (by decide) (by decide) (by decide) (by decide) ?_
      refine g_aload_n (pc1 := 69) d_Main_guest_68 rfl 0 rfl ?_
      refine g_getr (pc1 := 72) d_Main_guest_69 rfl ⟨_, fo_Main_36⟩ sh_0 (by decide) (rf_0_4 ld) ?_
      refine g_iload_n (pc1 := 73) d_Main_guest_72 rfl 1 rfl ?_
      refine g_callV0 (pc1 := 76) (As := [.int p1]) (rest := []) d_Main_guest_73 rfl mo_Main_163 mi_State_hasEaten mv_State_hasEaten rfl (shSt_0 isSt_64) (ltSt_0 isSt_64) (by decide) rfl rfl (Nat.le_of_ble_eq_true rfl) ?_
      obtain ⟨r9, hq8, h⟩ := bnd h
      refine f_State_hasEaten hld isSt_64 hq8 ?_
      dsimp only [psh]
      refine g_if_eq (pc1 := 79) (tgt := 90) d_Main_guest_76 (by decide) rfl (fun c10 => ?_) (fun c10 => ?_)
      · replace h := itp h c10
        refine g_bipush (pc1 := 92) (v := (-2)) d_Main_guest_90 rfl (by decide) ?_
        refine g_ireturn (Or.inl rfl) d_Main_guest_92 rfl ?_
        cases h; exact hQ
      · replace h := itn h c10
        refine g_aload_n (pc1 := 80) d_Main_guest_79 rfl 0 rfl ?_
        refine g_getr (pc1 := 83) d_Main_guest_80 rfl ⟨_, fo_Main_36⟩ sh_0 (by decide) (rf_0_4 ld) ?_
        refine g_iload_n (pc1 := 84) d_Main_guest_83 rfl 1 rfl ?_
        refine g_callV0 (pc1 := 87) (As := [.int p1]) (rest := []) d_Main_guest_84 rfl mo_Main_167 mi_State_agoOf mv_State_agoOf rfl (shSt_0 isSt_64) (ltSt_0 isSt_64) (by decide) rfl rfl (Nat.le_of_ble_eq_true rfl) ?_
        obtain ⟨r12, hq11, h⟩ := bnd h
        refine f_State_agoOf hld isSt_64 hq11 ?_
        dsimp only [psh]
        refine g_goto (tgt := 92) d_Main_guest_87 (by decide) ?_
        refine g_ireturn (Or.inl rfl) d_Main_guest_92 rfl ?_
        cases h; exact hQ
    replace h := itn h c7
    by_cases c13 : p2 = 2
    · replace h := itp h c13
      refine g_tabK (tgt := 93) (off := 76) d_Main_guest_17 c13 (by decide) (by decide) (by decide) (by decide) ?_
      refine g_aload_n (pc1 := 94) d_Main_guest_93 rfl 0 rfl ?_
      refine g_getr (pc1 := 97) d_Main_guest_94 rfl ⟨_, fo_Main_36⟩ sh_0 (by decide) (rf_0_4 ld) ?_
      refine g_getr (pc1 := 100) d_Main_guest_97 rfl ⟨_, fo_Main_170⟩ (shSt_0 isSt_64) (ltSt_0 isSt_64) (rfSt_7 ld isSt_64) ?_
      refine g_iload_n (pc1 := 101) d_Main_guest_100 rfl 1 rfl ?_
      refine g_callS0 (pc1 := 104) (As := [.ref (64 + 4), .int p1]) (rest := []) d_Main_guest_101 rfl mo_Main_120 ms_Main_at (by decide) rfl rfl (Nat.le_of_ble_eq_true rfl) ?_
      obtain ⟨r15, hq14, h⟩ := bnd h
      refine f_Main_at hld (shSt_4 isSt_64) (ltSt_4 isSt_64) (by decide) hq14 ?_
      dsimp only [psh]
      refine g_ireturn (Or.inl rfl) d_Main_guest_104 rfl ?_
      cases h; exact hQ
    replace h := itn h c13
    by_cases c16 : p2 = 3
    · replace h := itp h c16
      refine g_tabK (tgt := 105) (off := 88) d_Main_guest_17 c16 (by decide) (by decide) (by decide) (by decide) ?_
      refine g_aload_n (pc1 := 106) d_Main_guest_105 rfl 0 rfl ?_
      refine g_getr (pc1 := 109) d_Main_guest_106 rfl ⟨_, fo_Main_36⟩ sh_0 (by decide) (rf_0_4 ld) ?_
      refine g_aload_n (pc1 := 110) d_Main_guest_109 rfl 0 rfl ?_
      refine g_getr (pc1 := 113) d_Main_guest_110 rfl ⟨_, fo_Main_26⟩ sh_0 (by decide) (rf_0_2 ld) ?_
      refine g_iload_n (pc1 := 114) d_Main_guest_113 rfl 1 rfl ?_
      refine g_iload_n (pc1 := 115) d_Main_guest_114 rfl 2 rfl ?_
      refine g_iconst (pc1 := 116) (v := 3) d_Main_guest_115 rfl (by decide) ?_
      refine g_isub (pc1 := 117) d_Main_guest_116 rfl ?_
      refine g_iconst (pc1 := 118) (v := 0) d_Main_guest_117 rfl (by decide) ?_
      refine g_callV0 (pc1 := 121) (As := [.ref ld, .int p1, .int (p2 - 3), .int 0]) (rest := []) d_Main_guest_118 rfl mo_Main_173 mi_State_boundOf mv_State_boundOf rfl (shSt_0 isSt_64) (ltSt_0 isSt_64) (by decide) rfl rfl (Nat.le_of_ble_eq_true rfl) ?_
      obtain ⟨r18, M19, hq17, h⟩ := bnd2 h
      refine f_State_boundOf hld isSt_64 hld hq17 ?_
      dsimp only [psh]
      refine g_ireturn (Or.inl rfl) d_Main_guest_121 rfl ?_
      cases h; exact hQ
    replace h := itn h c16
    by_cases c20 : p2 = 4
    · replace h := itp h c20
      refine g_tabK (tgt := 105) (off := 88) d_Main_guest_17 c20 (by decide) (by decide) (by decide) (by decide) ?_
      refine g_aload_n (pc1 := 106) d_Main_guest_105 rfl 0 rfl ?_
      refine g_getr (pc1 := 109) d_Main_guest_106 rfl ⟨_, fo_Main_36⟩ sh_0 (by decide) (rf_0_4 ld) ?_
      refine g_aload_n (pc1 := 110) d_Main_guest_109 rfl 0 rfl ?_
      refine g_getr (pc1 := 113) d_Main_guest_110 rfl ⟨_, fo_Main_26⟩ sh_0 (by decide) (rf_0_2 ld) ?_
      refine g_iload_n (pc1 := 114) d_Main_guest_113 rfl 1 rfl ?_
      refine g_iload_n (pc1 := 115) d_Main_guest_114 rfl 2 rfl ?_
      refine g_iconst (pc1 := 116) (v := 3) d_Main_guest_115 rfl (by decide) ?_
      refine g_isub (pc1 := 117) d_Main_guest_116 rfl ?_
      refine g_iconst (pc1 := 118) (v := 0) d_Main_guest_117 rfl (by decide) ?_
      refine g_callV0 (pc1 := 121) (As := [.ref ld, .int p1, .int (p2 - 3), .int 0]) (rest := []) d_Main_guest_118 rfl mo_Main_173 mi_State_boundOf mv_State_boundOf rfl (shSt_0 isSt_64) (ltSt_0 isSt_64) (by decide) rfl rfl (Nat.le_of_ble_eq_true rfl) ?_
      obtain ⟨r22, M23, hq21, h⟩ := bnd2 h
      refine f_State_boundOf hld isSt_64 hld hq21 ?_
      dsimp only [psh]
      refine g_ireturn (Or.inl rfl) d_Main_guest_121 rfl ?_
      cases h; exact hQ
    replace h := itn h c20
    by_cases c24 : p2 = 5
    · replace h := itp h c24
      refine g_tabK (tgt := 105) (off := 88) d_Main_guest_17 c24 (by decide) (by decide) (by decide) (by decide) ?_
      refine g_aload_n (pc1 := 106) d_Main_guest_105 rfl 0 rfl ?_
      refine g_getr (pc1 := 109) d_Main_guest_106 rfl ⟨_, fo_Main_36⟩ sh_0 (by decide) (rf_0_4 ld) ?_
      refine g_aload_n (pc1 := 110) d_Main_guest_109 rfl 0 rfl ?_
      refine g_getr (pc1 := 113) d_Main_guest_110 rfl ⟨_, fo_Main_26⟩ sh_0 (by decide) (rf_0_2 ld) ?_
      refine g_iload_n (pc1 := 114) d_Main_guest_113 rfl 1 rfl ?_
      refine g_iload_n (pc1 := 115) d_Main_guest_114 rfl 2 rfl ?_
      refine g_iconst (pc1 := 116) (v := 3) d_Main_guest_115 rfl (by decide) ?_
      refine g_isub (pc1 := 117) d_Main_guest_116 rfl ?_
      refine g_iconst (pc1 := 118) (v := 0) d_Main_guest_117 rfl (by decide) ?_
      refine g_callV0 (pc1 := 121) (As := [.ref ld, .int p1, .int (p2 - 3), .int 0]) (rest := []) d_Main_guest_118 rfl mo_Main_173 mi_State_boundOf mv_State_boundOf rfl (shSt_0 isSt_64) (ltSt_0 isSt_64) (by decide) rfl rfl (Nat.le_of_ble_eq_true rfl) ?_
      obtain ⟨r26, M27, hq25, h⟩ := bnd2 h
      refine f_State_boundOf hld isSt_64 hld hq25 ?_
      dsimp only [psh]
      refine g_ireturn (Or.inl rfl) d_Main_guest_121 rfl ?_
      cases h; exact hQ
    replace h := itn h c24
    refine g_tabOut (tgt := 122) d_Main_guest_17 (by
      have nc4 := neT (a := 0) c4 (by decide)
      have nc7 := neT (a := 1) c7 (by decide)
      have nc13 := neT (a := 2) c13 (by decide)
      have nc16 := neT (a := 3) c16 (by decide)
      have nc20 := neT (a := 4) c20 (by decide)
      have nc24 := neT (a := 5) c24 (by decide)
      omega) (by decide) ?_
    refine g_iconst (pc1 := 123) (v := (-1)) d_Main_guest_122 rfl (by decide) ?_
    refine g_ireturn (Or.inl rfl) d_Main_guest_123 rfl ?_
    cases h; exact hQ
  · replace h := itp h c3
    refine g_iconst (pc1 := 15) (v := (-1)) d_Main_guest_14 rfl (by decide) ?_
    refine g_ireturn (Or.inl rfl) d_Main_guest_15 rfl ?_
    cases h; exact hQ

def B_Main_hunger_45 (ld : Nat) (v1 : Int32) (v2 : Int32) (v3 : Int32) (K45 : Int32 → gM → Option (Int32 × gM)) : Int32 → gM → Option (Int32 × gM) := fun v4 M =>
  (if 99 < v4 then some ((-2), M) else bI2 (F_State_boundOf 64 ld v1 v3 v4 M) (fun r11 M12 => bI (F_Main_at (ld + 8) 6 v2 M12) (fun r14 => (if r14 ≤ r11 then nmI (v4 + 1) (fun x16 => K45 x16 M12) else some (v4, M12)))))
def H_Main_hunger_45 (ld : Nat) (v1 : Int32) (v2 : Int32) (v3 : Int32) : Nat → Int32 → gM → Option (Int32 × gM) := lpK (B_Main_hunger_45 ld v1 v2 v3) (fun _ _ => none)
set_option maxHeartbeats 4000000 in
set_option maxRecDepth 20000 in
theorem h_Main_hunger_45 {l : Launch} {ld : Nat} {Q : Option Value → gM → gL → gR → Prop} (hld : isLa ld)   {q : Int32 × gM} {L : gL} (hQ : Q (some (.int q.1)) q.2 L (rf ld))  {v1 : Int32} {v2 : Int32} {v3 : Int32}  : ∀ (f : Nat) (v4 : Int32) (M : gM), H_Main_hunger_45 ld v1 v2 v3 f v4 M = some q → Wp l y_Main_hunger (0, 0, 447) 447 0 0 45 [(0, .ref 0), (1, .int v1), (2, .int v2), (3, .int v3), (4, .int v4)] [] M L (rf ld) Q := by
  intro f
  induction f with
  | zero => intro v4 M h; cases h
  | succ f hK45 =>
    intro v4 M h
    replace h : B_Main_hunger_45 ld v1 v2 v3 (H_Main_hunger_45 ld v1 v2 v3 f) v4 M = some q := h
    unfold B_Main_hunger_45 at h
    refine g_iload (pc1 := 47) d_Main_hunger_45 rfl 4 rfl ?_
    refine g_bipush (pc1 := 49) (v := 99) d_Main_hunger_47 rfl (by decide) ?_
    refine g_icmp_gt (pc1 := 52) (tgt := 90) d_Main_hunger_49 (by decide) rfl (fun c9 => ?_) (fun c9 => ?_)
    · replace h := itp h c9
      refine g_bipush (pc1 := 92) (v := (-2)) d_Main_hunger_90 rfl (by decide) ?_
      refine g_ireturn (Or.inl rfl) d_Main_hunger_92 rfl ?_
      cases h; exact hQ
    · replace h := itn h c9
      refine g_aload_n (pc1 := 53) d_Main_hunger_52 rfl 0 rfl ?_
      refine g_getr (pc1 := 56) d_Main_hunger_53 rfl ⟨_, fo_Main_36⟩ sh_0 (by decide) (rf_0_4 ld) ?_
      refine g_aload_n (pc1 := 57) d_Main_hunger_56 rfl 0 rfl ?_
      refine g_getr (pc1 := 60) d_Main_hunger_57 rfl ⟨_, fo_Main_26⟩ sh_0 (by decide) (rf_0_2 ld) ?_
      refine g_iload_n (pc1 := 61) d_Main_hunger_60 rfl 1 rfl ?_
      refine g_iload_n (pc1 := 62) d_Main_hunger_61 rfl 3 rfl ?_
      refine g_iload (pc1 := 64) d_Main_hunger_62 rfl 4 rfl ?_
      refine g_callV0 (pc1 := 67) (As := [.ref ld, .int v1, .int v3, .int v4]) (rest := []) d_Main_hunger_64 rfl mo_Main_173 mi_State_boundOf mv_State_boundOf rfl (shSt_0 isSt_64) (ltSt_0 isSt_64) (by decide) rfl rfl (Nat.le_of_ble_eq_true rfl) ?_
      obtain ⟨r11, M12, hq10, h⟩ := bnd2 h
      refine f_State_boundOf hld isSt_64 hld hq10 ?_
      dsimp only [psh]
      refine g_aload_n (pc1 := 68) d_Main_hunger_67 rfl 0 rfl ?_
      refine g_getr (pc1 := 71) d_Main_hunger_68 rfl ⟨_, fo_Main_26⟩ sh_0 (by decide) (rf_0_2 ld) ?_
      refine g_getr (pc1 := 74) d_Main_hunger_71 rfl ⟨_, fo_Main_183⟩ (shLa_0 hld) (ltLa_0 hld) (rfLa_12 ld hld) ?_
      refine g_iload_n (pc1 := 75) d_Main_hunger_74 rfl 2 rfl ?_
      refine g_callS0 (pc1 := 78) (As := [.ref (ld + 8), .int v2]) (rest := [.int r11]) d_Main_hunger_75 rfl mo_Main_120 ms_Main_at (by decide) rfl rfl (Nat.le_of_ble_eq_true rfl) ?_
      obtain ⟨r14, hq13, h⟩ := bnd h
      refine f_Main_at hld (shLa_8 hld) (ltLa_8 hld) (by decide) hq13 ?_
      dsimp only [psh]
      refine g_icmp_ge (pc1 := 81) (tgt := 84) d_Main_hunger_78 (by decide) rfl (fun c15 => ?_) (fun c15 => ?_)
      · replace h := itp h c15
        obtain ⟨x16, ex16, h⟩ := ltI h
        refine g_iinc (pc1 := 87) (v := x16) (lv' := [(0, .ref 0), (1, .int v1), (2, .int v2), (3, .int v3), (4, .int x16)]) d_Main_hunger_84 rfl 4 rfl (by rw [ex16]; rfl) (by decide) [1, 2, 3, 4, 0] rfl ?_
        refine g_goto (tgt := 45) d_Main_hunger_87 (by decide) ?_
        exact hK45 x16 M12 h
      · replace h := itn h c15
        refine g_iload (pc1 := 83) d_Main_hunger_81 rfl 4 rfl ?_
        refine g_ireturn (Or.inl rfl) d_Main_hunger_83 rfl ?_
        cases h; exact hQ
def F_Main_hunger (ld : Nat) (p1 : Int32) (p2 : Int32) (M : gM) : Option (Int32 × gM) :=
  bI (F_Main_isOne p1 (M ld 2)) (fun r2 => (if r2 = 0 then some ((-1), M) else bI (F_Main_isOne p2 (M ld 3)) (fun r5 => (if r5 = 0 then some ((-1), M) else bI (F_Main_at (ld + 7) 6 p2 M) (fun r8 => H_Main_hunger_45 ld p1 p2 r8 FU 0 M)))))
set_option maxHeartbeats 4000000 in
set_option maxRecDepth 20000 in
theorem f_Main_hunger {l : Launch} {ld : Nat} {M : gM} {L : gL} {Q : Option Value → gM → gL → gR → Prop} (hld : isLa ld) {p1 : Int32} {p2 : Int32}  {q : Int32 × gM} (h : F_Main_hunger ld p1 p2 M = some q) (hQ : Q (some (.int q.1)) q.2 L (rf ld)) : Tm l y_Main_hunger (0, 0, 447) 447 [.ref 0, .int p1, .int p2] M L (rf ld) Q := by
  refine Tm.of (by decide) (Nat.le_of_ble_eq_true rfl) ?_
  show Wp l y_Main_hunger (0, 0, 447) 447 0 0 0 [(0, .ref 0), (1, .int p1), (2, .int p2)] [] M L (rf ld) Q
  unfold F_Main_hunger at h
  refine g_iload_n (pc1 := 1) d_Main_hunger_0 rfl 1 rfl ?_
  refine g_aload_n (pc1 := 2) d_Main_hunger_1 rfl 0 rfl ?_
  refine g_getr (pc1 := 5) d_Main_hunger_2 rfl ⟨_, fo_Main_26⟩ sh_0 (by decide) (rf_0_2 ld) ?_
  refine g_geti (pc1 := 8) d_Main_hunger_5 rfl ⟨_, fo_Main_157⟩ (shLa_0 hld) (ltLa_0 hld) ?_
  refine g_callS0 (pc1 := 11) (As := [.int p1, .int (M ld 2)]) (rest := []) d_Main_hunger_8 rfl mo_Main_112 ms_Main_isOne (by decide) rfl rfl (Nat.le_of_ble_eq_true rfl) ?_
  obtain ⟨r2, hq1, h⟩ := bnd h
  refine f_Main_isOne hld  hq1 ?_
  dsimp only [psh]
  refine g_if_eq (pc1 := 14) (tgt := 28) d_Main_hunger_11 (by decide) rfl (fun c3 => ?_) (fun c3 => ?_)
  · replace h := itp h c3
    refine g_iconst (pc1 := 29) (v := (-1)) d_Main_hunger_28 rfl (by decide) ?_
    refine g_ireturn (Or.inl rfl) d_Main_hunger_29 rfl ?_
    cases h; exact hQ
  · replace h := itn h c3
    refine g_iload_n (pc1 := 15) d_Main_hunger_14 rfl 2 rfl ?_
    refine g_aload_n (pc1 := 16) d_Main_hunger_15 rfl 0 rfl ?_
    refine g_getr (pc1 := 19) d_Main_hunger_16 rfl ⟨_, fo_Main_26⟩ sh_0 (by decide) (rf_0_2 ld) ?_
    refine g_geti (pc1 := 22) d_Main_hunger_19 rfl ⟨_, fo_Main_177⟩ (shLa_0 hld) (ltLa_0 hld) ?_
    refine g_callS0 (pc1 := 25) (As := [.int p2, .int (M ld 3)]) (rest := []) d_Main_hunger_22 rfl mo_Main_112 ms_Main_isOne (by decide) rfl rfl (Nat.le_of_ble_eq_true rfl) ?_
    obtain ⟨r5, hq4, h⟩ := bnd h
    refine f_Main_isOne hld  hq4 ?_
    dsimp only [psh]
    refine g_if_ne (pc1 := 28) (tgt := 30) d_Main_hunger_25 (by decide) rfl (fun c6 => ?_) (fun c6 => ?_)
    · replace h := itn h c6
      refine g_aload_n (pc1 := 31) d_Main_hunger_30 rfl 0 rfl ?_
      refine g_getr (pc1 := 34) d_Main_hunger_31 rfl ⟨_, fo_Main_26⟩ sh_0 (by decide) (rf_0_2 ld) ?_
      refine g_getr (pc1 := 37) d_Main_hunger_34 rfl ⟨_, fo_Main_180⟩ (shLa_0 hld) (ltLa_0 hld) (rfLa_11 ld hld) ?_
      refine g_iload_n (pc1 := 38) d_Main_hunger_37 rfl 2 rfl ?_
      refine g_callS0 (pc1 := 41) (As := [.ref (ld + 7), .int p2]) (rest := []) d_Main_hunger_38 rfl mo_Main_120 ms_Main_at (by decide) rfl rfl (Nat.le_of_ble_eq_true rfl) ?_
      obtain ⟨r8, hq7, h⟩ := bnd h
      refine f_Main_at hld (shLa_7 hld) (ltLa_7 hld) (by decide) hq7 ?_
      dsimp only [psh]
      refine g_istore_n (pc1 := 42) (lv' := [(0, .ref 0), (1, .int p1), (2, .int p2), (3, .int r8)]) d_Main_hunger_41 rfl rfl (by decide) [1, 2, 3, 0] rfl ?_
      refine g_iconst (pc1 := 43) (v := 0) d_Main_hunger_42 rfl (by decide) ?_
      refine g_istore (pc1 := 45) (lv' := [(0, .ref 0), (1, .int p1), (2, .int p2), (3, .int r8), (4, .int 0)]) d_Main_hunger_43 rfl (by decide) [1, 2, 3, 4, 0] rfl ?_
      exact h_Main_hunger_45 hld  hQ  _ 0 M h
    · replace h := itp h c6
      refine g_iconst (pc1 := 29) (v := (-1)) d_Main_hunger_28 rfl (by decide) ?_
      refine g_ireturn (Or.inl rfl) d_Main_hunger_29 rfl ?_
      cases h; exact hQ

def F_Main_stockIn (ld : Nat) (p1 : Int32) (p2 : Int32) (M : gM) : Option (Int32 × gM) :=
  bI (F_Main_isOne p1 (M ld 0)) (fun r2 => (if r2 = 0 then some ((-1), M) else (if p2 < 0 then some ((-1), M) else (if p2 ≤ 60 then bI (F_State_copyFrom 71 64 M) (fun M7 => bI (F_State_passDays 71 ld p2 M7) (fun M9 => bI (F_Main_at (71 + 2) 6 p1 M9) (fun r11 => some (r11, M9)))) else some ((-1), M)))))
set_option maxHeartbeats 4000000 in
set_option maxRecDepth 20000 in
theorem f_Main_stockIn {l : Launch} {ld : Nat} {M : gM} {L : gL} {Q : Option Value → gM → gL → gR → Prop} (hld : isLa ld) {p1 : Int32} {p2 : Int32}  {q : Int32 × gM} (h : F_Main_stockIn ld p1 p2 M = some q) (hQ : Q (some (.int q.1)) q.2 L (rf ld)) : Tm l y_Main_stockIn (0, 0, 447) 447 [.ref 0, .int p1, .int p2] M L (rf ld) Q := by
  refine Tm.of (by decide) (Nat.le_of_ble_eq_true rfl) ?_
  show Wp l y_Main_stockIn (0, 0, 447) 447 0 0 0 [(0, .ref 0), (1, .int p1), (2, .int p2)] [] M L (rf ld) Q
  unfold F_Main_stockIn at h
  refine g_iload_n (pc1 := 1) d_Main_stockIn_0 rfl 1 rfl ?_
  refine g_aload_n (pc1 := 2) d_Main_stockIn_1 rfl 0 rfl ?_
  refine g_getr (pc1 := 5) d_Main_stockIn_2 rfl ⟨_, fo_Main_26⟩ sh_0 (by decide) (rf_0_2 ld) ?_
  refine g_geti (pc1 := 8) d_Main_stockIn_5 rfl ⟨_, fo_Main_109⟩ (shLa_0 hld) (ltLa_0 hld) ?_
  refine g_callS0 (pc1 := 11) (As := [.int p1, .int (M ld 0)]) (rest := []) d_Main_stockIn_8 rfl mo_Main_112 ms_Main_isOne (by decide) rfl rfl (Nat.le_of_ble_eq_true rfl) ?_
  obtain ⟨r2, hq1, h⟩ := bnd h
  refine f_Main_isOne hld  hq1 ?_
  dsimp only [psh]
  refine g_if_eq (pc1 := 14) (tgt := 24) d_Main_stockIn_11 (by decide) rfl (fun c3 => ?_) (fun c3 => ?_)
  · replace h := itp h c3
    refine g_iconst (pc1 := 25) (v := (-1)) d_Main_stockIn_24 rfl (by decide) ?_
    refine g_ireturn (Or.inl rfl) d_Main_stockIn_25 rfl ?_
    cases h; exact hQ
  · replace h := itn h c3
    refine g_iload_n (pc1 := 15) d_Main_stockIn_14 rfl 2 rfl ?_
    refine g_if_lt (pc1 := 18) (tgt := 24) d_Main_stockIn_15 (by decide) rfl (fun c4 => ?_) (fun c4 => ?_)
    · replace h := itp h c4
      refine g_iconst (pc1 := 25) (v := (-1)) d_Main_stockIn_24 rfl (by decide) ?_
      refine g_ireturn (Or.inl rfl) d_Main_stockIn_25 rfl ?_
      cases h; exact hQ
    · replace h := itn h c4
      refine g_iload_n (pc1 := 19) d_Main_stockIn_18 rfl 2 rfl ?_
      refine g_bipush (pc1 := 21) (v := 60) d_Main_stockIn_19 rfl (by decide) ?_
      refine g_icmp_le (pc1 := 24) (tgt := 26) d_Main_stockIn_21 (by decide) rfl (fun c5 => ?_) (fun c5 => ?_)
      · replace h := itp h c5
        refine g_aload_n (pc1 := 27) d_Main_stockIn_26 rfl 0 rfl ?_
        refine g_getr (pc1 := 30) d_Main_stockIn_27 rfl ⟨_, fo_Main_40⟩ sh_0 (by decide) (rf_0_5 ld) ?_
        refine g_aload_n (pc1 := 31) d_Main_stockIn_30 rfl 0 rfl ?_
        refine g_getr (pc1 := 34) d_Main_stockIn_31 rfl ⟨_, fo_Main_36⟩ sh_0 (by decide) (rf_0_4 ld) ?_
        refine g_callV0 (pc1 := 37) (As := [.ref 64]) (rest := []) d_Main_stockIn_34 rfl mo_Main_262 mi_State_copyFrom mv_State_copyFrom rfl (shSt_0 isSt_71) (ltSt_0 isSt_71) (by decide) rfl rfl (Nat.le_of_ble_eq_true rfl) ?_
        obtain ⟨M7, hq6, h⟩ := bnd h
        refine f_State_copyFrom hld isSt_71 isSt_64 hq6 ?_
        dsimp only [psh]
        refine g_aload_n (pc1 := 38) d_Main_stockIn_37 rfl 0 rfl ?_
        refine g_getr (pc1 := 41) d_Main_stockIn_38 rfl ⟨_, fo_Main_40⟩ sh_0 (by decide) (rf_0_5 ld) ?_
        refine g_aload_n (pc1 := 42) d_Main_stockIn_41 rfl 0 rfl ?_
        refine g_getr (pc1 := 45) d_Main_stockIn_42 rfl ⟨_, fo_Main_26⟩ sh_0 (by decide) (rf_0_2 ld) ?_
        refine g_iload_n (pc1 := 46) d_Main_stockIn_45 rfl 2 rfl ?_
        refine g_callV0 (pc1 := 49) (As := [.ref ld, .int p2]) (rest := []) d_Main_stockIn_46 rfl mo_Main_214 mi_State_passDays mv_State_passDays rfl (shSt_0 isSt_71) (ltSt_0 isSt_71) (by decide) rfl rfl (Nat.le_of_ble_eq_true rfl) ?_
        obtain ⟨M9, hq8, h⟩ := bnd h
        refine f_State_passDays hld isSt_71 hld hq8 ?_
        dsimp only [psh]
        refine g_aload_n (pc1 := 50) d_Main_stockIn_49 rfl 0 rfl ?_
        refine g_getr (pc1 := 53) d_Main_stockIn_50 rfl ⟨_, fo_Main_40⟩ sh_0 (by decide) (rf_0_5 ld) ?_
        refine g_getr (pc1 := 56) d_Main_stockIn_53 rfl ⟨_, fo_Main_116⟩ (shSt_0 isSt_71) (ltSt_0 isSt_71) (rfSt_5 ld isSt_71) ?_
        refine g_iload_n (pc1 := 57) d_Main_stockIn_56 rfl 1 rfl ?_
        refine g_callS0 (pc1 := 60) (As := [.ref (71 + 2), .int p1]) (rest := []) d_Main_stockIn_57 rfl mo_Main_120 ms_Main_at (by decide) rfl rfl (Nat.le_of_ble_eq_true rfl) ?_
        obtain ⟨r11, hq10, h⟩ := bnd h
        refine f_Main_at hld (shSt_2 isSt_71) (ltSt_2 isSt_71) (by decide) hq10 ?_
        dsimp only [psh]
        refine g_ireturn (Or.inl rfl) d_Main_stockIn_60 rfl ?_
        cases h; exact hQ
      · replace h := itn h c5
        refine g_iconst (pc1 := 25) (v := (-1)) d_Main_stockIn_24 rfl (by decide) ?_
        refine g_ireturn (Or.inl rfl) d_Main_stockIn_25 rfl ?_
        cases h; exact hQ

def B_Land_freeByDish_40 (Ld0 : Nat) (v1 : Int32) (v3 : Int32) (v4 : Int32) (K40 : Int32 → Int32 → gM → Option (Int32 × gM)) : Int32 → Int32 → gM → Option (Int32 × gM) := fun v5 v6 M =>
  (if 3 ≤ v6 then some (v5, M) else bI (F_Main_at (Ld0 + 25) 3 v6 M) (fun r4 => bI2 (F_Land_boundBy Ld0 v1 v6 r4 v4 (v3 + v4) M) (fun r6 M7 => bI (F_Land_freeUnder Ld0 v6 r6 M7) (fun r9 => nmI (v5 ||| r9) (fun x10 => nmI (v6 + 1) (fun x11 => K40 x10 x11 M7))))))
def H_Land_freeByDish_40 (Ld0 : Nat) (v1 : Int32) (v3 : Int32) (v4 : Int32) : Nat → Int32 → Int32 → gM → Option (Int32 × gM) := lpK (B_Land_freeByDish_40 Ld0 v1 v3 v4) (fun _ _ _ => none)
set_option maxHeartbeats 4000000 in
set_option maxRecDepth 20000 in
theorem h_Land_freeByDish_40 {l : Launch} {ld : Nat} {Q : Option Value → gM → gL → gR → Prop} (hld : isLa ld) {Ld0 : Nat} (hLd0 : isLa Ld0) {q : Int32 × gM} {L : gL} (hQ : Q (some (.int q.1)) q.2 L (rf ld))  {v1 : Int32} {v3 : Int32} {v4 : Int32}  : ∀ (f : Nat) (v5 : Int32) (v6 : Int32) (M : gM), H_Land_freeByDish_40 Ld0 v1 v3 v4 f v5 v6 M = some q → Wp l y_Land_freeByDish (0, 0, 447) 447 0 0 40 [(0, .ref Ld0), (1, .int v1), (3, .int v3), (4, .int v4), (5, .int v5), (6, .int v6)] [] M L (rf ld) Q := by
  intro f
  induction f with
  | zero => intro v5 v6 M h; cases h
  | succ f hK40 =>
    intro v5 v6 M h
    replace h : B_Land_freeByDish_40 Ld0 v1 v3 v4 (H_Land_freeByDish_40 Ld0 v1 v3 v4 f) v5 v6 M = some q := h
    unfold B_Land_freeByDish_40 at h
    refine g_iload (pc1 := 42) d_Land_freeByDish_40 rfl 5 rfl ?_
    refine g_iconst (pc1 := 43) (v := 3) d_Land_freeByDish_42 rfl (by decide) ?_
    refine g_icmp_ge (pc1 := 46) (tgt := 85) d_Land_freeByDish_43 (by decide) rfl (fun c2 => ?_) (fun c2 => ?_)
    · replace h := itp h c2
      refine g_iload (pc1 := 87) d_Land_freeByDish_85 rfl 4 rfl ?_
      refine g_ireturn (Or.inl rfl) d_Land_freeByDish_87 rfl ?_
      cases h; exact hQ
    · replace h := itn h c2
      refine g_iload (pc1 := 48) d_Land_freeByDish_46 rfl 4 rfl ?_
      refine g_aload_n (pc1 := 49) d_Land_freeByDish_48 rfl 0 rfl ?_
      refine g_iload (pc1 := 51) d_Land_freeByDish_49 rfl 5 rfl ?_
      refine g_aload_n (pc1 := 52) d_Land_freeByDish_51 rfl 0 rfl ?_
      refine g_iload_n (pc1 := 53) d_Land_freeByDish_52 rfl 1 rfl ?_
      refine g_iload (pc1 := 55) d_Land_freeByDish_53 rfl 5 rfl ?_
      refine g_aload_n (pc1 := 56) d_Land_freeByDish_55 rfl 0 rfl ?_
      refine g_getr (pc1 := 59) d_Land_freeByDish_56 rfl ⟨_, fo_Land_52⟩ (shLa_0 hLd0) (ltLa_0 hLd0) (rfLa_17 ld hLd0) ?_
      refine g_iload (pc1 := 61) d_Land_freeByDish_59 rfl 5 rfl ?_
      refine g_callS0 (pc1 := 64) (As := [.ref (Ld0 + 25), .int v6]) (rest := [.int v6, .int v1, .ref Ld0, .int v6, .ref Ld0, .int v5]) d_Land_freeByDish_61 rfl mo_Land_78 ms_Main_at (by decide) rfl rfl (Nat.le_of_ble_eq_true rfl) ?_
      obtain ⟨r4, hq3, h⟩ := bnd h
      refine f_Main_at hld (shLa_25 hLd0) (ltLa_25 hLd0) (by decide) hq3 ?_
      dsimp only [psh]
      refine g_iload (pc1 := 66) d_Land_freeByDish_64 rfl 3 rfl ?_
      refine g_iload_n (pc1 := 67) d_Land_freeByDish_66 rfl 2 rfl ?_
      refine g_iload (pc1 := 69) d_Land_freeByDish_67 rfl 3 rfl ?_
      refine g_iadd (pc1 := 70) d_Land_freeByDish_69 rfl ?_
      refine g_callV0 (pc1 := 73) (As := [.int v1, .int v6, .int r4, .int v4, .int (v3 + v4)]) (rest := [.int v6, .ref Ld0, .int v5]) d_Land_freeByDish_70 rfl mo_Land_124 mi_Land_boundBy mv_Land_boundBy rfl (shLa_0 hLd0) (ltLa_0 hLd0) (by decide) rfl rfl (Nat.le_of_ble_eq_true rfl) ?_
      obtain ⟨r6, M7, hq5, h⟩ := bnd2 h
      refine f_Land_boundBy hld hLd0 hq5 ?_
      dsimp only [psh]
      refine g_callV0 (pc1 := 76) (As := [.int v6, .int r6]) (rest := [.int v5]) d_Land_freeByDish_73 rfl mo_Land_127 mi_Land_freeUnder mv_Land_freeUnder rfl (shLa_0 hLd0) (ltLa_0 hLd0) (by decide) rfl rfl (Nat.le_of_ble_eq_true rfl) ?_
      obtain ⟨r9, hq8, h⟩ := bnd h
      refine f_Land_freeUnder hld hLd0 hq8 ?_
      dsimp only [psh]
      refine g_ior (pc1 := 77) d_Land_freeByDish_76 rfl ?_
      refine Wp.lI h (fun x10 h => ?_)
      refine g_istore (pc1 := 79) (lv' := [(0, .ref Ld0), (1, .int v1), (3, .int v3), (4, .int v4), (5, .int x10), (6, .int v6)]) d_Land_freeByDish_77 rfl (by decide) [1, 2, 3, 4, 0, 5] rfl ?_
      obtain ⟨x11, ex11, h⟩ := ltI h
      refine g_iinc (pc1 := 82) (v := x11) (lv' := [(0, .ref Ld0), (1, .int v1), (3, .int v3), (4, .int v4), (5, .int x10), (6, .int x11)]) d_Land_freeByDish_79 rfl 5 rfl (by rw [ex11]; rfl) (by decide) [1, 2, 3, 4, 5, 0] rfl ?_
      refine g_goto (tgt := 40) d_Land_freeByDish_82 (by decide) ?_
      exact hK40 x10 x11 M7 h
def J_Land_freeByDish_34 (Ld0 : Nat) (v1 : Int32) (v3 : Int32) (v4 : Int32) (M : gM) : Option (Int32 × gM) :=
  H_Land_freeByDish_40 Ld0 v1 v3 v4 FU 0 0 M
set_option maxHeartbeats 4000000 in
set_option maxRecDepth 20000 in
theorem j_Land_freeByDish_34 {l : Launch} {ld : Nat} {Q : Option Value → gM → gL → gR → Prop} (hld : isLa ld) {Ld0 : Nat} (hLd0 : isLa Ld0) {q : Int32 × gM} {M : gM} {L : gL} (hQ : Q (some (.int q.1)) q.2 L (rf ld))  {v1 : Int32} {v3 : Int32} {v4 : Int32}  (h : J_Land_freeByDish_34 Ld0 v1 v3 v4 M = some q) : Wp l y_Land_freeByDish (0, 0, 447) 447 0 0 34 [(0, .ref Ld0), (1, .int v1), (3, .int v3), (4, .int v4)] [] M L (rf ld) Q := by
  unfold J_Land_freeByDish_34 at h
  refine g_iconst (pc1 := 35) (v := 0) d_Land_freeByDish_34 rfl (by decide) ?_
  refine g_istore (pc1 := 37) (lv' := [(0, .ref Ld0), (1, .int v1), (3, .int v3), (4, .int v4), (5, .int 0)]) d_Land_freeByDish_35 rfl (by decide) [1, 2, 3, 4, 0] rfl ?_
  refine g_iconst (pc1 := 38) (v := 0) d_Land_freeByDish_37 rfl (by decide) ?_
  refine g_istore (pc1 := 40) (lv' := [(0, .ref Ld0), (1, .int v1), (3, .int v3), (4, .int v4), (5, .int 0), (6, .int 0)]) d_Land_freeByDish_38 rfl (by decide) [1, 2, 3, 4, 5, 0] rfl ?_
  exact h_Land_freeByDish_40 hld hLd0 hQ  _ 0 0 M h
def B_Land_freeByDish_3 (Ld0 : Nat) (v1 : Int32) (v2 : Int32) (v3 : Int32) (v4 : Int32) (K3 : Int32 → gM → Option (Int32 × gM)) : Int32 → gM → Option (Int32 × gM) := fun v5 M =>
  (if 3 ≤ v5 then J_Land_freeByDish_34 Ld0 v1 v3 v4 M else bI2 (F_Land_dishForce Ld0 v2 (-2) v5 v3 M) (fun r13 M14 => bI (F_Main_put (Ld0 + 25) 3 v5 r13 M14) (fun M16 => nmI (v5 + 1) (fun x17 => K3 x17 M16))))
def H_Land_freeByDish_3 (Ld0 : Nat) (v1 : Int32) (v2 : Int32) (v3 : Int32) (v4 : Int32) : Nat → Int32 → gM → Option (Int32 × gM) := lpK (B_Land_freeByDish_3 Ld0 v1 v2 v3 v4) (fun _ _ => none)
set_option maxHeartbeats 4000000 in
set_option maxRecDepth 20000 in
theorem h_Land_freeByDish_3 {l : Launch} {ld : Nat} {Q : Option Value → gM → gL → gR → Prop} (hld : isLa ld) {Ld0 : Nat} (hLd0 : isLa Ld0) {q : Int32 × gM} {L : gL} (hQ : Q (some (.int q.1)) q.2 L (rf ld))  {v1 : Int32} {v2 : Int32} {v3 : Int32} {v4 : Int32}  : ∀ (f : Nat) (v5 : Int32) (M : gM), H_Land_freeByDish_3 Ld0 v1 v2 v3 v4 f v5 M = some q → Wp l y_Land_freeByDish (0, 0, 447) 447 0 0 3 [(0, .ref Ld0), (1, .int v1), (2, .int v2), (3, .int v3), (4, .int v4), (5, .int v5)] [] M L (rf ld) Q := by
  intro f
  induction f with
  | zero => intro v5 M h; cases h
  | succ f hK3 =>
    intro v5 M h
    replace h : B_Land_freeByDish_3 Ld0 v1 v2 v3 v4 (H_Land_freeByDish_3 Ld0 v1 v2 v3 v4 f) v5 M = some q := h
    unfold B_Land_freeByDish_3 at h
    refine g_iload (pc1 := 5) d_Land_freeByDish_3 rfl 5 rfl ?_
    refine g_iconst (pc1 := 6) (v := 3) d_Land_freeByDish_5 rfl (by decide) ?_
    refine g_icmp_ge (pc1 := 9) (tgt := 34) d_Land_freeByDish_6 (by decide) rfl (fun c1 => ?_) (fun c1 => ?_)
    · replace h := itp h c1
      refine Wp.loc (lv' := [(0, .ref Ld0), (1, .int v1), (3, .int v3), (4, .int v4)]) [0, 1, 3, 4] rfl ?_
      exact j_Land_freeByDish_34 hld hLd0 hQ  h
    · replace h := itn h c1
      refine g_aload_n (pc1 := 10) d_Land_freeByDish_9 rfl 0 rfl ?_
      refine g_getr (pc1 := 13) d_Land_freeByDish_10 rfl ⟨_, fo_Land_52⟩ (shLa_0 hLd0) (ltLa_0 hLd0) (rfLa_17 ld hLd0) ?_
      refine g_iload (pc1 := 15) d_Land_freeByDish_13 rfl 5 rfl ?_
      refine g_aload_n (pc1 := 16) d_Land_freeByDish_15 rfl 0 rfl ?_
      refine g_iload_n (pc1 := 17) d_Land_freeByDish_16 rfl 2 rfl ?_
      refine g_bipush (pc1 := 19) (v := (-2)) d_Land_freeByDish_17 rfl (by decide) ?_
      refine g_iload (pc1 := 21) d_Land_freeByDish_19 rfl 5 rfl ?_
      refine g_iload_n (pc1 := 22) d_Land_freeByDish_21 rfl 3 rfl ?_
      refine g_callV0 (pc1 := 25) (As := [.int v2, .int (-2), .int v5, .int v3]) (rest := [.int v5, .ref (Ld0 + 25)]) d_Land_freeByDish_22 rfl mo_Land_116 mi_Land_dishForce mv_Land_dishForce rfl (shLa_0 hLd0) (ltLa_0 hLd0) (by decide) rfl rfl (Nat.le_of_ble_eq_true rfl) ?_
      obtain ⟨r13, M14, hq12, h⟩ := bnd2 h
      refine f_Land_dishForce hld hLd0 hq12 ?_
      dsimp only [psh]
      refine g_callS0 (pc1 := 28) (As := [.ref (Ld0 + 25), .int v5, .int r13]) (rest := []) d_Land_freeByDish_25 rfl mo_Land_120 ms_Main_put (by decide) rfl rfl (Nat.le_of_ble_eq_true rfl) ?_
      obtain ⟨M16, hq15, h⟩ := bnd h
      refine f_Main_put hld (shLa_25 hLd0) (ltLa_25 hLd0) (by decide) hq15 ?_
      dsimp only [psh]
      obtain ⟨x17, ex17, h⟩ := ltI h
      refine g_iinc (pc1 := 31) (v := x17) (lv' := [(0, .ref Ld0), (1, .int v1), (2, .int v2), (3, .int v3), (4, .int v4), (5, .int x17)]) d_Land_freeByDish_28 rfl 5 rfl (by rw [ex17]; rfl) (by decide) [1, 2, 3, 4, 5, 0] rfl ?_
      refine g_goto (tgt := 3) d_Land_freeByDish_31 (by decide) ?_
      exact hK3 x17 M16 h
def F_Land_freeByDish (Ld0 : Nat) (p1 : Int32) (p2 : Int32) (p3 : Int32) (p4 : Int32) (M : gM) : Option (Int32 × gM) :=
  H_Land_freeByDish_3 Ld0 p1 p2 p3 p4 FU 0 M
set_option maxHeartbeats 4000000 in
set_option maxRecDepth 20000 in
theorem f_Land_freeByDish {l : Launch} {ld : Nat} {M : gM} {L : gL} {Q : Option Value → gM → gL → gR → Prop} (hld : isLa ld) {Ld0 : Nat} {p1 : Int32} {p2 : Int32} {p3 : Int32} {p4 : Int32} (hLd0 : isLa Ld0) {q : Int32 × gM} (h : F_Land_freeByDish Ld0 p1 p2 p3 p4 M = some q) (hQ : Q (some (.int q.1)) q.2 L (rf ld)) : Tm l y_Land_freeByDish (0, 0, 447) 447 [.ref Ld0, .int p1, .int p2, .int p3, .int p4] M L (rf ld) Q := by
  refine Tm.of (by decide) (Nat.le_of_ble_eq_true rfl) ?_
  show Wp l y_Land_freeByDish (0, 0, 447) 447 0 0 0 [(0, .ref Ld0), (1, .int p1), (2, .int p2), (3, .int p3), (4, .int p4)] [] M L (rf ld) Q
  unfold F_Land_freeByDish at h
  refine g_iconst (pc1 := 1) (v := 0) d_Land_freeByDish_0 rfl (by decide) ?_
  refine g_istore (pc1 := 3) (lv' := [(0, .ref Ld0), (1, .int p1), (2, .int p2), (3, .int p3), (4, .int p4), (5, .int 0)]) d_Land_freeByDish_1 rfl (by decide) [1, 2, 3, 4, 5, 0] rfl ?_
  exact h_Land_freeByDish_3 hld hLd0 hQ  _ 0 M h

def J_PotSearch_tryHeats_121 (Ld1 : Nat) (v5 : Int32) (M : gM) : Option (gM) :=
  nmM (uM M 391 9 1) (fun M10 => nmM (uM M10 391 6 (M10 391 4)) (fun M11 => nmM (uM M11 391 7 (M11 391 3)) (fun M12 => nmM (uM M12 391 8 v5) (fun M13 => bI (F_Main_copyRow 393 6 395 6 M13) (fun M15 => some M15)))))
set_option maxHeartbeats 4000000 in
set_option maxRecDepth 20000 in
theorem j_PotSearch_tryHeats_121 {l : Launch} {ld : Nat} {Q : Option Value → gM → gL → gR → Prop} (hld : isLa ld) {Ld1 : Nat} (hLd1 : isLa Ld1) {q : gM} {M : gM} {L : gL} (hQ : Q none q L (rf ld))  {v5 : Int32}  (h : J_PotSearch_tryHeats_121 Ld1 v5 M = some q) : Wp l y_PotSearch_tryHeats (0, 0, 447) 447 0 0 121 [(0, .ref 391), (5, .int v5)] [] M L (rf ld) Q := by
  unfold J_PotSearch_tryHeats_121 at h
  refine g_aload_n (pc1 := 122) d_PotSearch_tryHeats_121 rfl 0 rfl ?_
  refine g_iconst (pc1 := 123) (v := 1) d_PotSearch_tryHeats_122 rfl (by decide) ?_
  refine g_putz (pc1 := 126) d_PotSearch_tryHeats_123 rfl fo_PotSearch_28 po_10_9_1 rfl sh_391 (by decide) ?_
  refine Wp.lM h (fun M10 h => ?_)
  refine g_aload_n (pc1 := 127) d_PotSearch_tryHeats_126 rfl 0 rfl ?_
  refine g_aload_n (pc1 := 128) d_PotSearch_tryHeats_127 rfl 0 rfl ?_
  refine g_geti (pc1 := 131) d_PotSearch_tryHeats_128 rfl ⟨_, fo_PotSearch_89⟩ sh_391 (by decide) ?_
  refine g_puti (pc1 := 134) d_PotSearch_tryHeats_131 rfl fo_PotSearch_97 (po_10_6 _) sh_391 (by decide) ?_
  refine Wp.lM h (fun M11 h => ?_)
  refine g_aload_n (pc1 := 135) d_PotSearch_tryHeats_134 rfl 0 rfl ?_
  refine g_aload_n (pc1 := 136) d_PotSearch_tryHeats_135 rfl 0 rfl ?_
  refine g_geti (pc1 := 139) d_PotSearch_tryHeats_136 rfl ⟨_, fo_PotSearch_56⟩ sh_391 (by decide) ?_
  refine g_puti (pc1 := 142) d_PotSearch_tryHeats_139 rfl fo_PotSearch_100 (po_10_7 _) sh_391 (by decide) ?_
  refine Wp.lM h (fun M12 h => ?_)
  refine g_aload_n (pc1 := 143) d_PotSearch_tryHeats_142 rfl 0 rfl ?_
  refine g_iload (pc1 := 145) d_PotSearch_tryHeats_143 rfl 1 rfl ?_
  refine g_puti (pc1 := 148) d_PotSearch_tryHeats_145 rfl fo_PotSearch_103 (po_10_8 _) sh_391 (by decide) ?_
  refine Wp.lM h (fun M13 h => ?_)
  refine g_aload_n (pc1 := 149) d_PotSearch_tryHeats_148 rfl 0 rfl ?_
  refine g_getr (pc1 := 152) d_PotSearch_tryHeats_149 rfl ⟨_, fo_PotSearch_15⟩ sh_391 (by decide) (rf_391_1 ld) ?_
  refine g_aload_n (pc1 := 153) d_PotSearch_tryHeats_152 rfl 0 rfl ?_
  refine g_getr (pc1 := 156) d_PotSearch_tryHeats_153 rfl ⟨_, fo_PotSearch_21⟩ sh_391 (by decide) (rf_391_5 ld) ?_
  refine g_callS0 (pc1 := 159) (As := [.ref 393, .ref 395]) (rest := []) d_PotSearch_tryHeats_156 rfl mo_PotSearch_110 ms_Main_copyRow (by decide) rfl rfl (Nat.le_of_ble_eq_true rfl) ?_
  obtain ⟨M15, hq14, h⟩ := bnd h
  refine f_Main_copyRow hld sh_393 (by decide) (by decide) sh_395 (by decide) (by decide) hq14 ?_
  dsimp only [psh]
  refine g_return rfl d_PotSearch_tryHeats_159 rfl ?_
  cases h; exact hQ
def B_PotSearch_tryHeats_103 (Ld1 : Nat) (v2 : Int32) (v4 : Int32) (K103 : Int32 → gM → Option (gM)) : Int32 → gM → Option (gM) := fun v5 M =>
  (if v4 ≤ v5 then some M else bI2 (F_PotSearch_isEnough Ld1 v5 v2 M) (fun r6 M7 => (if r6 = 0 then nmI (v5 + 1) (fun x9 => K103 x9 M7) else J_PotSearch_tryHeats_121 Ld1 v5 M7)))
def H_PotSearch_tryHeats_103 (Ld1 : Nat) (v2 : Int32) (v4 : Int32) : Nat → Int32 → gM → Option (gM) := lpK (B_PotSearch_tryHeats_103 Ld1 v2 v4) (fun _ _ => none)
set_option maxHeartbeats 4000000 in
set_option maxRecDepth 20000 in
theorem h_PotSearch_tryHeats_103 {l : Launch} {ld : Nat} {Q : Option Value → gM → gL → gR → Prop} (hld : isLa ld) {Ld1 : Nat} (hLd1 : isLa Ld1) {q : gM} {L : gL} (hQ : Q none q L (rf ld))  {v2 : Int32} {v4 : Int32}  : ∀ (f : Nat) (v5 : Int32) (M : gM), H_PotSearch_tryHeats_103 Ld1 v2 v4 f v5 M = some q → Wp l y_PotSearch_tryHeats (0, 0, 447) 447 0 0 103 [(0, .ref 391), (1, .ref Ld1), (2, .int v2), (4, .int v4), (5, .int v5)] [] M L (rf ld) Q := by
  intro f
  induction f with
  | zero => intro v5 M h; cases h
  | succ f hK103 =>
    intro v5 M h
    replace h : B_PotSearch_tryHeats_103 Ld1 v2 v4 (H_PotSearch_tryHeats_103 Ld1 v2 v4 f) v5 M = some q := h
    unfold B_PotSearch_tryHeats_103 at h
    refine g_iload (pc1 := 105) d_PotSearch_tryHeats_103 rfl 4 rfl ?_
    refine g_iload (pc1 := 107) d_PotSearch_tryHeats_105 rfl 3 rfl ?_
    refine g_icmp_ge (pc1 := 110) (tgt := 166) d_PotSearch_tryHeats_107 (by decide) rfl (fun c4 => ?_) (fun c4 => ?_)
    · replace h := itp h c4
      refine g_return rfl d_PotSearch_tryHeats_166 rfl ?_
      cases h; exact hQ
    · replace h := itn h c4
      refine g_aload_n (pc1 := 111) d_PotSearch_tryHeats_110 rfl 0 rfl ?_
      refine g_aload_n (pc1 := 112) d_PotSearch_tryHeats_111 rfl 1 rfl ?_
      refine g_iload (pc1 := 114) d_PotSearch_tryHeats_112 rfl 4 rfl ?_
      refine g_iload_n (pc1 := 115) d_PotSearch_tryHeats_114 rfl 2 rfl ?_
      refine g_callV0 (pc1 := 118) (As := [.ref Ld1, .int v5, .int v2]) (rest := []) d_PotSearch_tryHeats_115 rfl mo_PotSearch_106 mi_PotSearch_isEnough mv_PotSearch_isEnough rfl sh_391 (by decide) (by decide) rfl rfl (Nat.le_of_ble_eq_true rfl) ?_
      obtain ⟨r6, M7, hq5, h⟩ := bnd2 h
      refine f_PotSearch_isEnough hld hLd1 hq5 ?_
      dsimp only [psh]
      refine g_if_eq (pc1 := 121) (tgt := 160) d_PotSearch_tryHeats_118 (by decide) rfl (fun c8 => ?_) (fun c8 => ?_)
      · replace h := itp h c8
        obtain ⟨x9, ex9, h⟩ := ltI h
        refine g_iinc (pc1 := 163) (v := x9) (lv' := [(0, .ref 391), (1, .ref Ld1), (2, .int v2), (4, .int v4), (5, .int x9)]) d_PotSearch_tryHeats_160 rfl 4 rfl (by rw [ex9]; rfl) (by decide) [1, 2, 3, 4, 0] rfl ?_
        refine g_goto (tgt := 103) d_PotSearch_tryHeats_163 (by decide) ?_
        exact hK103 x9 M7 h
      · replace h := itn h c8
        refine Wp.loc (lv' := [(0, .ref 391), (5, .int v5)]) [0, 4] rfl ?_
        exact j_PotSearch_tryHeats_121 hld hLd1 hQ  h
def J_PotSearch_tryHeats_98 (Ld1 : Nat) (v2 : Int32) (s0 : Int32) (M : gM) : Option (gM) :=
  H_PotSearch_tryHeats_103 Ld1 v2 s0 FU 0 M
set_option maxHeartbeats 4000000 in
set_option maxRecDepth 20000 in
theorem j_PotSearch_tryHeats_98 {l : Launch} {ld : Nat} {Q : Option Value → gM → gL → gR → Prop} (hld : isLa ld) {Ld1 : Nat} (hLd1 : isLa Ld1) {q : gM} {M : gM} {L : gL} (hQ : Q none q L (rf ld))  {v2 : Int32} {s0 : Int32}  (h : J_PotSearch_tryHeats_98 Ld1 v2 s0 M = some q) : Wp l y_PotSearch_tryHeats (0, 0, 447) 447 0 0 98 [(0, .ref 391), (1, .ref Ld1), (2, .int v2)] [.int s0] M L (rf ld) Q := by
  unfold J_PotSearch_tryHeats_98 at h
  refine g_istore (pc1 := 100) (lv' := [(0, .ref 391), (1, .ref Ld1), (2, .int v2), (4, .int s0)]) d_PotSearch_tryHeats_98 rfl (by decide) [1, 2, 3, 0] rfl ?_
  refine g_iconst (pc1 := 101) (v := 0) d_PotSearch_tryHeats_100 rfl (by decide) ?_
  refine g_istore (pc1 := 103) (lv' := [(0, .ref 391), (1, .ref Ld1), (2, .int v2), (4, .int s0), (5, .int 0)]) d_PotSearch_tryHeats_101 rfl (by decide) [1, 2, 3, 4, 0] rfl ?_
  exact h_PotSearch_tryHeats_103 hld hLd1 hQ  _ 0 M h
def J_PotSearch_tryHeats_75 (Ld1 : Nat) (v2 : Int32) (s0 : Int32) (M : gM) : Option (gM) :=
  (if s0 = 0 then J_PotSearch_tryHeats_98 Ld1 v2 (M 391 10) M else J_PotSearch_tryHeats_98 Ld1 v2 (if (M 391 10) < (M 391 8) then (M 391 10) else (M 391 8)) M)
set_option maxHeartbeats 4000000 in
set_option maxRecDepth 20000 in
theorem j_PotSearch_tryHeats_75 {l : Launch} {ld : Nat} {Q : Option Value → gM → gL → gR → Prop} (hld : isLa ld) {Ld1 : Nat} (hLd1 : isLa Ld1) {q : gM} {M : gM} {L : gL} (hQ : Q none q L (rf ld))  {v2 : Int32} {s0 : Int32}  (h : J_PotSearch_tryHeats_75 Ld1 v2 s0 M = some q) : Wp l y_PotSearch_tryHeats (0, 0, 447) 447 0 0 75 [(0, .ref 391), (1, .ref Ld1), (2, .int v2)] [.int s0] M L (rf ld) Q := by
  unfold J_PotSearch_tryHeats_75 at h
  refine g_istore_n (pc1 := 76) (lv' := [(0, .ref 391), (1, .ref Ld1), (2, .int v2), (3, .int s0)]) d_PotSearch_tryHeats_75 rfl rfl (by decide) [1, 2, 3, 0] rfl ?_
  refine g_iload_n (pc1 := 77) d_PotSearch_tryHeats_76 rfl 3 rfl ?_
  refine g_if_eq (pc1 := 80) (tgt := 94) d_PotSearch_tryHeats_77 (by decide) rfl (fun c3 => ?_) (fun c3 => ?_)
  · replace h := itp h c3
    refine g_aload_n (pc1 := 95) d_PotSearch_tryHeats_94 rfl 0 rfl ?_
    refine g_geti (pc1 := 98) d_PotSearch_tryHeats_95 rfl ⟨_, fo_PotSearch_44⟩ sh_391 (by decide) ?_
    refine Wp.loc (lv' := [(0, .ref 391), (1, .ref Ld1), (2, .int v2)]) [0, 1, 2] rfl ?_
    exact j_PotSearch_tryHeats_98 hld hLd1 hQ  h
  · replace h := itn h c3
    refine g_aload_n (pc1 := 81) d_PotSearch_tryHeats_80 rfl 0 rfl ?_
    refine g_geti (pc1 := 84) d_PotSearch_tryHeats_81 rfl ⟨_, fo_PotSearch_103⟩ sh_391 (by decide) ?_
    refine g_aload_n (pc1 := 85) d_PotSearch_tryHeats_84 rfl 0 rfl ?_
    refine g_geti (pc1 := 88) d_PotSearch_tryHeats_85 rfl ⟨_, fo_PotSearch_44⟩ sh_391 (by decide) ?_
    refine g_mmin (pc1 := 91) d_PotSearch_tryHeats_88 rfl mm_PotSearch_79 (by decide) ⟨Nat.le_refl 0, Nat.le_refl 0⟩ (Nat.le_of_ble_eq_true rfl) ?_
    refine g_goto (tgt := 98) d_PotSearch_tryHeats_91 (by decide) ?_
    refine Wp.loc (lv' := [(0, .ref 391), (1, .ref Ld1), (2, .int v2)]) [0, 1, 2] rfl ?_
    exact j_PotSearch_tryHeats_98 hld hLd1 hQ  h
def J_PotSearch_tryHeats_74 (Ld1 : Nat) (v2 : Int32) (M : gM) : Option (gM) :=
  J_PotSearch_tryHeats_75 Ld1 v2 0 M
set_option maxHeartbeats 4000000 in
set_option maxRecDepth 20000 in
theorem j_PotSearch_tryHeats_74 {l : Launch} {ld : Nat} {Q : Option Value → gM → gL → gR → Prop} (hld : isLa ld) {Ld1 : Nat} (hLd1 : isLa Ld1) {q : gM} {M : gM} {L : gL} (hQ : Q none q L (rf ld))  {v2 : Int32}  (h : J_PotSearch_tryHeats_74 Ld1 v2 M = some q) : Wp l y_PotSearch_tryHeats (0, 0, 447) 447 0 0 74 [(0, .ref 391), (1, .ref Ld1), (2, .int v2)] [] M L (rf ld) Q := by
  unfold J_PotSearch_tryHeats_74 at h
  refine g_iconst (pc1 := 75) (v := 0) d_PotSearch_tryHeats_74 rfl (by decide) ?_
  exact j_PotSearch_tryHeats_75 hld hLd1 hQ  h
def J_PotSearch_tryHeats_41 (Ld1 : Nat) (v2 : Int32) (M : gM) : Option (gM) :=
  (if (b01 (M 391 9)) = 0 then J_PotSearch_tryHeats_74 Ld1 v2 M else (if (M 391 4) = (M 391 6) then (if (M 391 3) = (M 391 7) then J_PotSearch_tryHeats_75 Ld1 v2 1 M else J_PotSearch_tryHeats_74 Ld1 v2 M) else J_PotSearch_tryHeats_74 Ld1 v2 M))
set_option maxHeartbeats 4000000 in
set_option maxRecDepth 20000 in
theorem j_PotSearch_tryHeats_41 {l : Launch} {ld : Nat} {Q : Option Value → gM → gL → gR → Prop} (hld : isLa ld) {Ld1 : Nat} (hLd1 : isLa Ld1) {q : gM} {M : gM} {L : gL} (hQ : Q none q L (rf ld))  {v2 : Int32}  (h : J_PotSearch_tryHeats_41 Ld1 v2 M = some q) : Wp l y_PotSearch_tryHeats (0, 0, 447) 447 0 0 41 [(0, .ref 391), (1, .ref Ld1), (2, .int v2)] [] M L (rf ld) Q := by
  unfold J_PotSearch_tryHeats_41 at h
  refine g_aload_n (pc1 := 42) d_PotSearch_tryHeats_41 rfl 0 rfl ?_
  refine g_getz (pc1 := 45) d_PotSearch_tryHeats_42 rfl ⟨_, fo_PotSearch_28⟩ sh_391 (by decide) ?_
  refine g_if_eq (pc1 := 48) (tgt := 74) d_PotSearch_tryHeats_45 (by decide) rfl (fun c2 => ?_) (fun c2 => ?_)
  · replace h := itp h c2
    exact j_PotSearch_tryHeats_74 hld hLd1 hQ  h
  · replace h := itn h c2
    refine g_aload_n (pc1 := 49) d_PotSearch_tryHeats_48 rfl 0 rfl ?_
    refine g_geti (pc1 := 52) d_PotSearch_tryHeats_49 rfl ⟨_, fo_PotSearch_89⟩ sh_391 (by decide) ?_
    refine g_aload_n (pc1 := 53) d_PotSearch_tryHeats_52 rfl 0 rfl ?_
    refine g_geti (pc1 := 56) d_PotSearch_tryHeats_53 rfl ⟨_, fo_PotSearch_97⟩ sh_391 (by decide) ?_
    refine g_icmp_ne (pc1 := 59) (tgt := 74) d_PotSearch_tryHeats_56 (by decide) rfl (fun c16 => ?_) (fun c16 => ?_)
    · replace h := itn h c16
      exact j_PotSearch_tryHeats_74 hld hLd1 hQ  h
    · replace h := itp h c16
      refine g_aload_n (pc1 := 60) d_PotSearch_tryHeats_59 rfl 0 rfl ?_
      refine g_geti (pc1 := 63) d_PotSearch_tryHeats_60 rfl ⟨_, fo_PotSearch_56⟩ sh_391 (by decide) ?_
      refine g_aload_n (pc1 := 64) d_PotSearch_tryHeats_63 rfl 0 rfl ?_
      refine g_geti (pc1 := 67) d_PotSearch_tryHeats_64 rfl ⟨_, fo_PotSearch_100⟩ sh_391 (by decide) ?_
      refine g_icmp_ne (pc1 := 70) (tgt := 74) d_PotSearch_tryHeats_67 (by decide) rfl (fun c17 => ?_) (fun c17 => ?_)
      · replace h := itn h c17
        exact j_PotSearch_tryHeats_74 hld hLd1 hQ  h
      · replace h := itp h c17
        refine g_iconst (pc1 := 71) (v := 1) d_PotSearch_tryHeats_70 rfl (by decide) ?_
        refine g_goto (tgt := 75) d_PotSearch_tryHeats_71 (by decide) ?_
        exact j_PotSearch_tryHeats_75 hld hLd1 hQ  h
def F_PotSearch_tryHeats (Ld1 : Nat) (p2 : Int32) (M : gM) : Option (gM) :=
  (if (b01 (M 391 9)) = 0 then J_PotSearch_tryHeats_41 Ld1 p2 M else (if (M 391 6) < (M 391 4) then some M else (if (M 391 4) = (M 391 6) then (if (M 391 3) ≤ (M 391 7) then J_PotSearch_tryHeats_41 Ld1 p2 M else some M) else J_PotSearch_tryHeats_41 Ld1 p2 M)))
set_option maxHeartbeats 4000000 in
set_option maxRecDepth 20000 in
theorem f_PotSearch_tryHeats {l : Launch} {ld : Nat} {M : gM} {L : gL} {Q : Option Value → gM → gL → gR → Prop} (hld : isLa ld) {Ld1 : Nat} {p2 : Int32} (hLd1 : isLa Ld1) {q : gM} (h : F_PotSearch_tryHeats Ld1 p2 M = some q) (hQ : Q none q L (rf ld)) : Tm l y_PotSearch_tryHeats (0, 0, 447) 447 [.ref 391, .ref Ld1, .int p2] M L (rf ld) Q := by
  refine Tm.of (by decide) (Nat.le_of_ble_eq_true rfl) ?_
  show Wp l y_PotSearch_tryHeats (0, 0, 447) 447 0 0 0 [(0, .ref 391), (1, .ref Ld1), (2, .int p2)] [] M L (rf ld) Q
  unfold F_PotSearch_tryHeats at h
  refine g_aload_n (pc1 := 1) d_PotSearch_tryHeats_0 rfl 0 rfl ?_
  refine g_getz (pc1 := 4) d_PotSearch_tryHeats_1 rfl ⟨_, fo_PotSearch_28⟩ sh_391 (by decide) ?_
  refine g_if_eq (pc1 := 7) (tgt := 41) d_PotSearch_tryHeats_4 (by decide) rfl (fun c1 => ?_) (fun c1 => ?_)
  · replace h := itp h c1
    exact j_PotSearch_tryHeats_41 hld hLd1 hQ  h
  · replace h := itn h c1
    refine g_aload_n (pc1 := 8) d_PotSearch_tryHeats_7 rfl 0 rfl ?_
    refine g_geti (pc1 := 11) d_PotSearch_tryHeats_8 rfl ⟨_, fo_PotSearch_89⟩ sh_391 (by decide) ?_
    refine g_aload_n (pc1 := 12) d_PotSearch_tryHeats_11 rfl 0 rfl ?_
    refine g_geti (pc1 := 15) d_PotSearch_tryHeats_12 rfl ⟨_, fo_PotSearch_97⟩ sh_391 (by decide) ?_
    refine g_icmp_gt (pc1 := 18) (tgt := 40) d_PotSearch_tryHeats_15 (by decide) rfl (fun c18 => ?_) (fun c18 => ?_)
    · replace h := itp h c18
      refine g_return rfl d_PotSearch_tryHeats_40 rfl ?_
      cases h; exact hQ
    · replace h := itn h c18
      refine g_aload_n (pc1 := 19) d_PotSearch_tryHeats_18 rfl 0 rfl ?_
      refine g_geti (pc1 := 22) d_PotSearch_tryHeats_19 rfl ⟨_, fo_PotSearch_89⟩ sh_391 (by decide) ?_
      refine g_aload_n (pc1 := 23) d_PotSearch_tryHeats_22 rfl 0 rfl ?_
      refine g_geti (pc1 := 26) d_PotSearch_tryHeats_23 rfl ⟨_, fo_PotSearch_97⟩ sh_391 (by decide) ?_
      refine g_icmp_ne (pc1 := 29) (tgt := 41) d_PotSearch_tryHeats_26 (by decide) rfl (fun c19 => ?_) (fun c19 => ?_)
      · replace h := itn h c19
        exact j_PotSearch_tryHeats_41 hld hLd1 hQ  h
      · replace h := itp h c19
        refine g_aload_n (pc1 := 30) d_PotSearch_tryHeats_29 rfl 0 rfl ?_
        refine g_geti (pc1 := 33) d_PotSearch_tryHeats_30 rfl ⟨_, fo_PotSearch_56⟩ sh_391 (by decide) ?_
        refine g_aload_n (pc1 := 34) d_PotSearch_tryHeats_33 rfl 0 rfl ?_
        refine g_geti (pc1 := 37) d_PotSearch_tryHeats_34 rfl ⟨_, fo_PotSearch_100⟩ sh_391 (by decide) ?_
        refine g_icmp_le (pc1 := 40) (tgt := 41) d_PotSearch_tryHeats_37 (by decide) rfl (fun c20 => ?_) (fun c20 => ?_)
        · replace h := itp h c20
          exact j_PotSearch_tryHeats_41 hld hLd1 hQ  h
        · replace h := itn h c20
          refine g_return rfl d_PotSearch_tryHeats_40 rfl ?_
          cases h; exact hQ

def F_Reader_takeDeed (Ld1 : Nat) (M : gM) (L : gL) : Option (gM × gL) :=
  nmI (M Ld1 3) (fun x1 => (if x1 < 6 then bI (F_Reader_take M) (fun M4 => bI2 (F_Reader_takeNewName (-1) M4 L) (fun M6 L7 => bI2 (F_Reader_takeInt 2 M6 L7) (fun r9 M10 => bI (F_Main_put (Ld1 + 7) 6 x1 r9 M10) (fun M12 => bI2 (F_Reader_takeInt 99 M12 L7) (fun r14 M15 => bI (F_Main_put (Ld1 + 8) 6 x1 r14 M15) (fun M17 => bI (F_Reader_need 59 M17) (fun M19 => nmM (uM M19 Ld1 3 (x1 + 1)) (fun M20 => some (M20, L7))))))))) else bI (F_Reader_stop 2 M) (fun M22 => some (M22, L))))
set_option maxHeartbeats 4000000 in
set_option maxRecDepth 20000 in
theorem f_Reader_takeDeed {l : Launch} {ld : Nat} {M : gM} {L : gL} {Q : Option Value → gM → gL → gR → Prop} (hld : isLa ld) {Ld1 : Nat} (hLd1 : isLa Ld1) {q : gM × gL} (h : F_Reader_takeDeed Ld1 M L = some q) (hQ : Q none q.1 q.2 (rf ld)) : Tm l y_Reader_takeDeed (0, 0, 447) 447 [.ref 3, .ref Ld1] M L (rf ld) Q := by
  refine Tm.of (by decide) (Nat.le_of_ble_eq_true rfl) ?_
  show Wp l y_Reader_takeDeed (0, 0, 447) 447 0 0 0 [(0, .ref 3), (1, .ref Ld1)] [] M L (rf ld) Q
  unfold F_Reader_takeDeed at h
  refine g_aload_n (pc1 := 1) d_Reader_takeDeed_0 rfl 1 rfl ?_
  refine g_geti (pc1 := 4) d_Reader_takeDeed_1 rfl ⟨_, fo_Reader_171⟩ (shLa_0 hLd1) (ltLa_0 hLd1) ?_
  refine Wp.lI h (fun x1 h => ?_)
  refine g_istore_n (pc1 := 5) (lv' := [(0, .ref 3), (1, .ref Ld1), (2, .int x1)]) d_Reader_takeDeed_4 rfl rfl (by decide) [1, 2, 0] rfl ?_
  refine g_iload_n (pc1 := 6) d_Reader_takeDeed_5 rfl 2 rfl ?_
  refine g_bipush (pc1 := 8) (v := 6) d_Reader_takeDeed_6 rfl (by decide) ?_
  refine g_icmp_lt (pc1 := 11) (tgt := 17) d_Reader_takeDeed_8 (by decide) rfl (fun c2 => ?_) (fun c2 => ?_)
  · replace h := itp h c2
    refine g_aload_n (pc1 := 18) d_Reader_takeDeed_17 rfl 0 rfl ?_
    refine g_callV0 (pc1 := 21) (As := []) (rest := []) d_Reader_takeDeed_18 rfl mo_Reader_108 mi_Reader_take mv_Reader_take rfl sh_3 (by decide) (by decide) rfl rfl (Nat.le_of_ble_eq_true rfl) ?_
    obtain ⟨M4, hq3, h⟩ := bnd h
    refine f_Reader_take hld  hq3 ?_
    dsimp only [psh]
    refine g_aload_n (pc1 := 22) d_Reader_takeDeed_21 rfl 0 rfl ?_
    refine g_iconst (pc1 := 23) (v := (-1)) d_Reader_takeDeed_22 rfl (by decide) ?_
    refine g_callV0 (pc1 := 26) (As := [.int (-1)]) (rest := []) d_Reader_takeDeed_23 rfl mo_Reader_128 mi_Reader_takeNewName mv_Reader_takeNewName rfl sh_3 (by decide) (by decide) rfl rfl (Nat.le_of_ble_eq_true rfl) ?_
    obtain ⟨M6, L7, hq5, h⟩ := bnd2 h
    refine f_Reader_takeNewName hld  hq5 ?_
    dsimp only [psh]
    refine g_aload_n (pc1 := 27) d_Reader_takeDeed_26 rfl 1 rfl ?_
    refine g_getr (pc1 := 30) d_Reader_takeDeed_27 rfl ⟨_, fo_Reader_174⟩ (shLa_0 hLd1) (ltLa_0 hLd1) (rfLa_11 ld hLd1) ?_
    refine g_iload_n (pc1 := 31) d_Reader_takeDeed_30 rfl 2 rfl ?_
    refine g_aload_n (pc1 := 32) d_Reader_takeDeed_31 rfl 0 rfl ?_
    refine g_iconst (pc1 := 33) (v := 2) d_Reader_takeDeed_32 rfl (by decide) ?_
    refine g_callV0 (pc1 := 36) (As := [.int 2]) (rest := [.int x1, .ref (Ld1 + 7)]) d_Reader_takeDeed_33 rfl mo_Reader_134 mi_Reader_takeInt mv_Reader_takeInt rfl sh_3 (by decide) (by decide) rfl rfl (Nat.le_of_ble_eq_true rfl) ?_
    obtain ⟨r9, M10, hq8, h⟩ := bnd2 h
    refine f_Reader_takeInt hld  hq8 ?_
    dsimp only [psh]
    refine g_callS0 (pc1 := 39) (As := [.ref (Ld1 + 7), .int x1, .int r9]) (rest := []) d_Reader_takeDeed_36 rfl mo_Reader_138 ms_Main_put (by decide) rfl rfl (Nat.le_of_ble_eq_true rfl) ?_
    obtain ⟨M12, hq11, h⟩ := bnd h
    refine f_Main_put hld (shLa_7 hLd1) (ltLa_7 hLd1) (by decide) hq11 ?_
    dsimp only [psh]
    refine g_aload_n (pc1 := 40) d_Reader_takeDeed_39 rfl 1 rfl ?_
    refine g_getr (pc1 := 43) d_Reader_takeDeed_40 rfl ⟨_, fo_Reader_177⟩ (shLa_0 hLd1) (ltLa_0 hLd1) (rfLa_12 ld hLd1) ?_
    refine g_iload_n (pc1 := 44) d_Reader_takeDeed_43 rfl 2 rfl ?_
    refine g_aload_n (pc1 := 45) d_Reader_takeDeed_44 rfl 0 rfl ?_
    refine g_bipush (pc1 := 47) (v := 99) d_Reader_takeDeed_45 rfl (by decide) ?_
    refine g_callV0 (pc1 := 50) (As := [.int 99]) (rest := [.int x1, .ref (Ld1 + 8)]) d_Reader_takeDeed_47 rfl mo_Reader_134 mi_Reader_takeInt mv_Reader_takeInt rfl sh_3 (by decide) (by decide) rfl rfl (Nat.le_of_ble_eq_true rfl) ?_
    obtain ⟨r14, M15, hq13, h⟩ := bnd2 h
    refine f_Reader_takeInt hld  hq13 ?_
    dsimp only [psh]
    refine g_callS0 (pc1 := 53) (As := [.ref (Ld1 + 8), .int x1, .int r14]) (rest := []) d_Reader_takeDeed_50 rfl mo_Reader_138 ms_Main_put (by decide) rfl rfl (Nat.le_of_ble_eq_true rfl) ?_
    obtain ⟨M17, hq16, h⟩ := bnd h
    refine f_Main_put hld (shLa_8 hLd1) (ltLa_8 hLd1) (by decide) hq16 ?_
    dsimp only [psh]
    refine g_aload_n (pc1 := 54) d_Reader_takeDeed_53 rfl 0 rfl ?_
    refine g_bipush (pc1 := 56) (v := 59) d_Reader_takeDeed_54 rfl (by decide) ?_
    refine g_callV0 (pc1 := 59) (As := [.int 59]) (rest := []) d_Reader_takeDeed_56 rfl mo_Reader_118 mi_Reader_need mv_Reader_need rfl sh_3 (by decide) (by decide) rfl rfl (Nat.le_of_ble_eq_true rfl) ?_
    obtain ⟨M19, hq18, h⟩ := bnd h
    refine f_Reader_need hld  hq18 ?_
    dsimp only [psh]
    refine g_aload_n (pc1 := 60) d_Reader_takeDeed_59 rfl 1 rfl ?_
    refine g_iload_n (pc1 := 61) d_Reader_takeDeed_60 rfl 2 rfl ?_
    refine g_iconst (pc1 := 62) (v := 1) d_Reader_takeDeed_61 rfl (by decide) ?_
    refine g_iadd (pc1 := 63) d_Reader_takeDeed_62 rfl ?_
    refine g_puti (pc1 := 66) d_Reader_takeDeed_63 rfl fo_Reader_171 (po_4_3 _) (shLa_0 hLd1) (ltLa_0 hLd1) ?_
    refine Wp.lM h (fun M20 h => ?_)
    refine g_return rfl d_Reader_takeDeed_66 rfl ?_
    cases h; exact hQ
  · replace h := itn h c2
    refine g_aload_n (pc1 := 12) d_Reader_takeDeed_11 rfl 0 rfl ?_
    refine g_iconst (pc1 := 13) (v := 2) d_Reader_takeDeed_12 rfl (by decide) ?_
    refine g_callV0 (pc1 := 16) (As := [.int 2]) (rest := []) d_Reader_takeDeed_13 rfl mo_Reader_95 mi_Reader_stop mv_Reader_stop rfl sh_3 (by decide) (by decide) rfl rfl (Nat.le_of_ble_eq_true rfl) ?_
    obtain ⟨M22, hq21, h⟩ := bnd h
    refine f_Reader_stop hld  hq21 ?_
    dsimp only [psh]
    refine g_return rfl d_Reader_takeDeed_16 rfl ?_
    cases h; exact hQ

def J_Reader_takeDish_94 (Ld1 : Nat) (v2 : Int32) (M : gM) (L : gL) : Option (gM × gL) :=
  bI (F_Reader_need 59 M) (fun M17 => nmM (uM M17 Ld1 1 (v2 + 1)) (fun M18 => some (M18, L)))
set_option maxHeartbeats 4000000 in
set_option maxRecDepth 20000 in
theorem j_Reader_takeDish_94 {l : Launch} {ld : Nat} {Q : Option Value → gM → gL → gR → Prop} (hld : isLa ld) {Ld1 : Nat} (hLd1 : isLa Ld1) {q : gM × gL} {M : gM} {L : gL} (hQ : Q none q.1 q.2 (rf ld))  {v2 : Int32}  (h : J_Reader_takeDish_94 Ld1 v2 M L = some q) : Wp l y_Reader_takeDish (0, 0, 447) 447 0 0 94 [(0, .ref 3), (1, .ref Ld1), (2, .int v2)] [] M L (rf ld) Q := by
  unfold J_Reader_takeDish_94 at h
  refine g_aload_n (pc1 := 95) d_Reader_takeDish_94 rfl 0 rfl ?_
  refine g_bipush (pc1 := 97) (v := 59) d_Reader_takeDish_95 rfl (by decide) ?_
  refine g_callV0 (pc1 := 100) (As := [.int 59]) (rest := []) d_Reader_takeDish_97 rfl mo_Reader_118 mi_Reader_need mv_Reader_need rfl sh_3 (by decide) (by decide) rfl rfl (Nat.le_of_ble_eq_true rfl) ?_
  obtain ⟨M17, hq16, h⟩ := bnd h
  refine f_Reader_need hld  hq16 ?_
  dsimp only [psh]
  refine g_aload_n (pc1 := 101) d_Reader_takeDish_100 rfl 1 rfl ?_
  refine g_iload_n (pc1 := 102) d_Reader_takeDish_101 rfl 2 rfl ?_
  refine g_iconst (pc1 := 103) (v := 1) d_Reader_takeDish_102 rfl (by decide) ?_
  refine g_iadd (pc1 := 104) d_Reader_takeDish_103 rfl ?_
  refine g_puti (pc1 := 107) d_Reader_takeDish_104 rfl fo_Reader_148 (po_4_1 _) (shLa_0 hLd1) (ltLa_0 hLd1) ?_
  refine Wp.lM h (fun M18 h => ?_)
  refine g_return rfl d_Reader_takeDish_107 rfl ?_
  cases h; exact hQ
def J_Reader_takeDish_88 (Ld1 : Nat) (K47 : Int32 → gM → Option (gM × gL)) (v2 : Int32) (v3 : Int32) (M : gM) (L : gL) : Option (gM × gL) :=
  nmI (v3 + 1) (fun x26 => K47 x26 M)
set_option maxHeartbeats 4000000 in
set_option maxRecDepth 20000 in
theorem j_Reader_takeDish_88 {l : Launch} {ld : Nat} {Q : Option Value → gM → gL → gR → Prop} (hld : isLa ld) {Ld1 : Nat} (hLd1 : isLa Ld1) {q : gM × gL} {M : gM} {L : gL} (hQ : Q none q.1 q.2 (rf ld)) {K47 : Int32 → gM → Option (gM × gL)} {v2 : Int32} {v3 : Int32} (hK47 : ∀ (w3 : Int32) (M : gM), K47 w3 M = some q → Wp l y_Reader_takeDish (0, 0, 447) 447 0 0 47 [(0, .ref 3), (1, .ref Ld1), (2, .int v2), (3, .int w3)] [] M L (rf ld) Q) (h : J_Reader_takeDish_88 Ld1 K47 v2 v3 M L = some q) : Wp l y_Reader_takeDish (0, 0, 447) 447 0 0 88 [(0, .ref 3), (1, .ref Ld1), (2, .int v2), (3, .int v3)] [] M L (rf ld) Q := by
  unfold J_Reader_takeDish_88 at h
  obtain ⟨x26, ex26, h⟩ := ltI h
  refine g_iinc (pc1 := 91) (v := x26) (lv' := [(0, .ref 3), (1, .ref Ld1), (2, .int v2), (3, .int x26)]) d_Reader_takeDish_88 rfl 3 rfl (by rw [ex26]; rfl) (by decide) [1, 2, 3, 0] rfl ?_
  refine g_goto (tgt := 47) d_Reader_takeDish_91 (by decide) ?_
  exact hK47 x26 M h
def B_Reader_takeDish_47 (Ld1 : Nat) (v2 : Int32) (L : gL) (K47 : Int32 → gM → Option (gM × gL)) : Int32 → gM → Option (gM × gL) := fun v3 M =>
  (if 6 < v3 then J_Reader_takeDish_94 Ld1 v2 M L else (if (M 3 2) = 0 then bI (F_Reader_is 2 M) (fun r21 => (if r21 = 0 then J_Reader_takeDish_94 Ld1 v2 M L else (if v3 = 6 then bI (F_Reader_stop 2 M) (fun M28 => J_Reader_takeDish_88 Ld1 K47 v2 v3 M28 L) else bI (F_Reader_takeIngredient Ld1 v2 M L) (fun M25 => J_Reader_takeDish_88 Ld1 K47 v2 v3 M25 L)))) else J_Reader_takeDish_94 Ld1 v2 M L))
def H_Reader_takeDish_47 (Ld1 : Nat) (v2 : Int32) (L : gL) : Nat → Int32 → gM → Option (gM × gL) := lpK (B_Reader_takeDish_47 Ld1 v2 L) (fun _ _ => none)
set_option maxHeartbeats 4000000 in
set_option maxRecDepth 20000 in
theorem h_Reader_takeDish_47 {l : Launch} {ld : Nat} {Q : Option Value → gM → gL → gR → Prop} (hld : isLa ld) {Ld1 : Nat} (hLd1 : isLa Ld1) {q : gM × gL} {L : gL} (hQ : Q none q.1 q.2 (rf ld))  {v2 : Int32}  : ∀ (f : Nat) (v3 : Int32) (M : gM), H_Reader_takeDish_47 Ld1 v2 L f v3 M = some q → Wp l y_Reader_takeDish (0, 0, 447) 447 0 0 47 [(0, .ref 3), (1, .ref Ld1), (2, .int v2), (3, .int v3)] [] M L (rf ld) Q := by
  intro f
  induction f with
  | zero => intro v3 M h; cases h
  | succ f hK47 =>
    intro v3 M h
    replace h : B_Reader_takeDish_47 Ld1 v2 L (H_Reader_takeDish_47 Ld1 v2 L f) v3 M = some q := h
    unfold B_Reader_takeDish_47 at h
    refine g_iload_n (pc1 := 48) d_Reader_takeDish_47 rfl 3 rfl ?_
    refine g_bipush (pc1 := 50) (v := 6) d_Reader_takeDish_48 rfl (by decide) ?_
    refine g_icmp_gt (pc1 := 53) (tgt := 94) d_Reader_takeDish_50 (by decide) rfl (fun c15 => ?_) (fun c15 => ?_)
    · replace h := itp h c15
      refine Wp.loc (lv' := [(0, .ref 3), (1, .ref Ld1), (2, .int v2)]) [0, 1, 2] rfl ?_
      exact j_Reader_takeDish_94 hld hLd1 hQ  h
    · replace h := itn h c15
      refine g_aload_n (pc1 := 54) d_Reader_takeDish_53 rfl 0 rfl ?_
      refine g_geti (pc1 := 57) d_Reader_takeDish_54 rfl ⟨_, fo_Reader_42⟩ sh_3 (by decide) ?_
      refine g_if_ne (pc1 := 60) (tgt := 94) d_Reader_takeDish_57 (by decide) rfl (fun c19 => ?_) (fun c19 => ?_)
      · replace h := itn h c19
        refine Wp.loc (lv' := [(0, .ref 3), (1, .ref Ld1), (2, .int v2)]) [0, 1, 2] rfl ?_
        exact j_Reader_takeDish_94 hld hLd1 hQ  h
      · replace h := itp h c19
        refine g_aload_n (pc1 := 61) d_Reader_takeDish_60 rfl 0 rfl ?_
        refine g_iconst (pc1 := 62) (v := 2) d_Reader_takeDish_61 rfl (by decide) ?_
        refine g_callV0 (pc1 := 65) (As := [.int 2]) (rest := []) d_Reader_takeDish_62 rfl mo_Reader_51 mi_Reader_is mv_Reader_is rfl sh_3 (by decide) (by decide) rfl rfl (Nat.le_of_ble_eq_true rfl) ?_
        obtain ⟨r21, hq20, h⟩ := bnd h
        refine f_Reader_is hld  hq20 ?_
        dsimp only [psh]
        refine g_if_eq (pc1 := 68) (tgt := 94) d_Reader_takeDish_65 (by decide) rfl (fun c22 => ?_) (fun c22 => ?_)
        · replace h := itp h c22
          refine Wp.loc (lv' := [(0, .ref 3), (1, .ref Ld1), (2, .int v2)]) [0, 1, 2] rfl ?_
          exact j_Reader_takeDish_94 hld hLd1 hQ  h
        · replace h := itn h c22
          refine g_iload_n (pc1 := 69) d_Reader_takeDish_68 rfl 3 rfl ?_
          refine g_bipush (pc1 := 71) (v := 6) d_Reader_takeDish_69 rfl (by decide) ?_
          refine g_icmp_ne (pc1 := 74) (tgt := 82) d_Reader_takeDish_71 (by decide) rfl (fun c23 => ?_) (fun c23 => ?_)
          · replace h := itn h c23
            refine g_aload_n (pc1 := 83) d_Reader_takeDish_82 rfl 0 rfl ?_
            refine g_aload_n (pc1 := 84) d_Reader_takeDish_83 rfl 1 rfl ?_
            refine g_iload_n (pc1 := 85) d_Reader_takeDish_84 rfl 2 rfl ?_
            refine g_callV0 (pc1 := 88) (As := [.ref Ld1, .int v2]) (rest := []) d_Reader_takeDish_85 rfl mo_Reader_154 mi_Reader_takeIngredient mv_Reader_takeIngredient rfl sh_3 (by decide) (by decide) rfl rfl (Nat.le_of_ble_eq_true rfl) ?_
            obtain ⟨M25, hq24, h⟩ := bnd h
            refine f_Reader_takeIngredient hld hLd1 hq24 ?_
            dsimp only [psh]
            exact j_Reader_takeDish_88 hld hLd1 hQ hK47 h
          · replace h := itp h c23
            refine g_aload_n (pc1 := 75) d_Reader_takeDish_74 rfl 0 rfl ?_
            refine g_iconst (pc1 := 76) (v := 2) d_Reader_takeDish_75 rfl (by decide) ?_
            refine g_callV0 (pc1 := 79) (As := [.int 2]) (rest := []) d_Reader_takeDish_76 rfl mo_Reader_95 mi_Reader_stop mv_Reader_stop rfl sh_3 (by decide) (by decide) rfl rfl (Nat.le_of_ble_eq_true rfl) ?_
            obtain ⟨M28, hq27, h⟩ := bnd h
            refine f_Reader_stop hld  hq27 ?_
            dsimp only [psh]
            refine g_goto (tgt := 88) d_Reader_takeDish_79 (by decide) ?_
            exact j_Reader_takeDish_88 hld hLd1 hQ hK47 h
def F_Reader_takeDish (Ld1 : Nat) (M : gM) (L : gL) : Option (gM × gL) :=
  nmI (M Ld1 1) (fun x1 => (if x1 < 5 then bI (F_Reader_take M) (fun M4 => bI2 (F_Reader_takeNewName (-1) M4 L) (fun M6 L7 => bI2 (F_Reader_takeInt 9 M6 L7) (fun r9 M10 => bI (F_Main_put (Ld1 + 4) 5 x1 r9 M10) (fun M12 => bI (F_Reader_takeIngredient Ld1 x1 M12 L7) (fun M14 => H_Reader_takeDish_47 Ld1 x1 L7 FU 1 M14))))) else bI (F_Reader_stop 2 M) (fun M30 => some (M30, L))))
set_option maxHeartbeats 4000000 in
set_option maxRecDepth 20000 in
theorem f_Reader_takeDish {l : Launch} {ld : Nat} {M : gM} {L : gL} {Q : Option Value → gM → gL → gR → Prop} (hld : isLa ld) {Ld1 : Nat} (hLd1 : isLa Ld1) {q : gM × gL} (h : F_Reader_takeDish Ld1 M L = some q) (hQ : Q none q.1 q.2 (rf ld)) : Tm l y_Reader_takeDish (0, 0, 447) 447 [.ref 3, .ref Ld1] M L (rf ld) Q := by
  refine Tm.of (by decide) (Nat.le_of_ble_eq_true rfl) ?_
  show Wp l y_Reader_takeDish (0, 0, 447) 447 0 0 0 [(0, .ref 3), (1, .ref Ld1)] [] M L (rf ld) Q
  unfold F_Reader_takeDish at h
  refine g_aload_n (pc1 := 1) d_Reader_takeDish_0 rfl 1 rfl ?_
  refine g_geti (pc1 := 4) d_Reader_takeDish_1 rfl ⟨_, fo_Reader_148⟩ (shLa_0 hLd1) (ltLa_0 hLd1) ?_
  refine Wp.lI h (fun x1 h => ?_)
  refine g_istore_n (pc1 := 5) (lv' := [(0, .ref 3), (1, .ref Ld1), (2, .int x1)]) d_Reader_takeDish_4 rfl rfl (by decide) [1, 2, 0] rfl ?_
  refine g_iload_n (pc1 := 6) d_Reader_takeDish_5 rfl 2 rfl ?_
  refine g_iconst (pc1 := 7) (v := 5) d_Reader_takeDish_6 rfl (by decide) ?_
  refine g_icmp_lt (pc1 := 10) (tgt := 16) d_Reader_takeDish_7 (by decide) rfl (fun c2 => ?_) (fun c2 => ?_)
  · replace h := itp h c2
    refine g_aload_n (pc1 := 17) d_Reader_takeDish_16 rfl 0 rfl ?_
    refine g_callV0 (pc1 := 20) (As := []) (rest := []) d_Reader_takeDish_17 rfl mo_Reader_108 mi_Reader_take mv_Reader_take rfl sh_3 (by decide) (by decide) rfl rfl (Nat.le_of_ble_eq_true rfl) ?_
    obtain ⟨M4, hq3, h⟩ := bnd h
    refine f_Reader_take hld  hq3 ?_
    dsimp only [psh]
    refine g_aload_n (pc1 := 21) d_Reader_takeDish_20 rfl 0 rfl ?_
    refine g_iconst (pc1 := 22) (v := (-1)) d_Reader_takeDish_21 rfl (by decide) ?_
    refine g_callV0 (pc1 := 25) (As := [.int (-1)]) (rest := []) d_Reader_takeDish_22 rfl mo_Reader_128 mi_Reader_takeNewName mv_Reader_takeNewName rfl sh_3 (by decide) (by decide) rfl rfl (Nat.le_of_ble_eq_true rfl) ?_
    obtain ⟨M6, L7, hq5, h⟩ := bnd2 h
    refine f_Reader_takeNewName hld  hq5 ?_
    dsimp only [psh]
    refine g_aload_n (pc1 := 26) d_Reader_takeDish_25 rfl 1 rfl ?_
    refine g_getr (pc1 := 29) d_Reader_takeDish_26 rfl ⟨_, fo_Reader_151⟩ (shLa_0 hLd1) (ltLa_0 hLd1) (rfLa_8 ld hLd1) ?_
    refine g_iload_n (pc1 := 30) d_Reader_takeDish_29 rfl 2 rfl ?_
    refine g_aload_n (pc1 := 31) d_Reader_takeDish_30 rfl 0 rfl ?_
    refine g_bipush (pc1 := 33) (v := 9) d_Reader_takeDish_31 rfl (by decide) ?_
    refine g_callV0 (pc1 := 36) (As := [.int 9]) (rest := [.int x1, .ref (Ld1 + 4)]) d_Reader_takeDish_33 rfl mo_Reader_134 mi_Reader_takeInt mv_Reader_takeInt rfl sh_3 (by decide) (by decide) rfl rfl (Nat.le_of_ble_eq_true rfl) ?_
    obtain ⟨r9, M10, hq8, h⟩ := bnd2 h
    refine f_Reader_takeInt hld  hq8 ?_
    dsimp only [psh]
    refine g_callS0 (pc1 := 39) (As := [.ref (Ld1 + 4), .int x1, .int r9]) (rest := []) d_Reader_takeDish_36 rfl mo_Reader_138 ms_Main_put (by decide) rfl rfl (Nat.le_of_ble_eq_true rfl) ?_
    obtain ⟨M12, hq11, h⟩ := bnd h
    refine f_Main_put hld (shLa_4 hLd1) (ltLa_4 hLd1) (by decide) hq11 ?_
    dsimp only [psh]
    refine g_aload_n (pc1 := 40) d_Reader_takeDish_39 rfl 0 rfl ?_
    refine g_aload_n (pc1 := 41) d_Reader_takeDish_40 rfl 1 rfl ?_
    refine g_iload_n (pc1 := 42) d_Reader_takeDish_41 rfl 2 rfl ?_
    refine g_callV0 (pc1 := 45) (As := [.ref Ld1, .int x1]) (rest := []) d_Reader_takeDish_42 rfl mo_Reader_154 mi_Reader_takeIngredient mv_Reader_takeIngredient rfl sh_3 (by decide) (by decide) rfl rfl (Nat.le_of_ble_eq_true rfl) ?_
    obtain ⟨M14, hq13, h⟩ := bnd h
    refine f_Reader_takeIngredient hld hLd1 hq13 ?_
    dsimp only [psh]
    refine g_iconst (pc1 := 46) (v := 1) d_Reader_takeDish_45 rfl (by decide) ?_
    refine g_istore_n (pc1 := 47) (lv' := [(0, .ref 3), (1, .ref Ld1), (2, .int x1), (3, .int 1)]) d_Reader_takeDish_46 rfl rfl (by decide) [1, 2, 3, 0] rfl ?_
    exact h_Reader_takeDish_47 hld hLd1 hQ  _ 1 M14 h
  · replace h := itn h c2
    refine g_aload_n (pc1 := 11) d_Reader_takeDish_10 rfl 0 rfl ?_
    refine g_iconst (pc1 := 12) (v := 2) d_Reader_takeDish_11 rfl (by decide) ?_
    refine g_callV0 (pc1 := 15) (As := [.int 2]) (rest := []) d_Reader_takeDish_12 rfl mo_Reader_95 mi_Reader_stop mv_Reader_stop rfl sh_3 (by decide) (by decide) rfl rfl (Nat.le_of_ble_eq_true rfl) ?_
    obtain ⟨M30, hq29, h⟩ := bnd h
    refine f_Reader_stop hld  hq29 ?_
    dsimp only [psh]
    refine g_return rfl d_Reader_takeDish_15 rfl ?_
    cases h; exact hQ

def J_Reader_takeFood_85 (Ld1 : Nat) (v2 : Int32) (M : gM) (L : gL) : Option (gM × gL) :=
  bI (F_Reader_need 59 M) (fun M20 => nmM (uM M20 Ld1 0 (v2 + 1)) (fun M21 => some (M21, L)))
set_option maxHeartbeats 4000000 in
set_option maxRecDepth 20000 in
theorem j_Reader_takeFood_85 {l : Launch} {ld : Nat} {Q : Option Value → gM → gL → gR → Prop} (hld : isLa ld) {Ld1 : Nat} (hLd1 : isLa Ld1) {q : gM × gL} {M : gM} {L : gL} (hQ : Q none q.1 q.2 (rf ld))  {v2 : Int32}  (h : J_Reader_takeFood_85 Ld1 v2 M L = some q) : Wp l y_Reader_takeFood (0, 0, 447) 447 0 0 85 [(0, .ref 3), (1, .ref Ld1), (2, .int v2)] [] M L (rf ld) Q := by
  unfold J_Reader_takeFood_85 at h
  refine g_aload_n (pc1 := 86) d_Reader_takeFood_85 rfl 0 rfl ?_
  refine g_bipush (pc1 := 88) (v := 59) d_Reader_takeFood_86 rfl (by decide) ?_
  refine g_callV0 (pc1 := 91) (As := [.int 59]) (rest := []) d_Reader_takeFood_88 rfl mo_Reader_118 mi_Reader_need mv_Reader_need rfl sh_3 (by decide) (by decide) rfl rfl (Nat.le_of_ble_eq_true rfl) ?_
  obtain ⟨M20, hq19, h⟩ := bnd h
  refine f_Reader_need hld  hq19 ?_
  dsimp only [psh]
  refine g_aload_n (pc1 := 92) d_Reader_takeFood_91 rfl 1 rfl ?_
  refine g_iload_n (pc1 := 93) d_Reader_takeFood_92 rfl 2 rfl ?_
  refine g_iconst (pc1 := 94) (v := 1) d_Reader_takeFood_93 rfl (by decide) ?_
  refine g_iadd (pc1 := 95) d_Reader_takeFood_94 rfl ?_
  refine g_puti (pc1 := 98) d_Reader_takeFood_95 rfl fo_Reader_125 (po_4_0 _) (shLa_0 hLd1) (ltLa_0 hLd1) ?_
  refine Wp.lM h (fun M21 h => ?_)
  refine g_return rfl d_Reader_takeFood_98 rfl ?_
  cases h; exact hQ
def B_Reader_takeFood_56 (Ld1 : Nat) (v2 : Int32) (L : gL) (K56 : Int32 → gM → Option (gM × gL)) : Int32 → gM → Option (gM × gL) := fun v3 M =>
  (if 3 ≤ v3 then J_Reader_takeFood_85 Ld1 v2 M L else bI2 (F_Reader_takeInt 9 M L) (fun r23 M24 => bI (F_Main_put (Ld1 + 3) 18 ((v2 * 3) + v3) r23 M24) (fun M26 => nmI (v3 + 1) (fun x27 => K56 x27 M26))))
def H_Reader_takeFood_56 (Ld1 : Nat) (v2 : Int32) (L : gL) : Nat → Int32 → gM → Option (gM × gL) := lpK (B_Reader_takeFood_56 Ld1 v2 L) (fun _ _ => none)
set_option maxHeartbeats 4000000 in
set_option maxRecDepth 20000 in
theorem h_Reader_takeFood_56 {l : Launch} {ld : Nat} {Q : Option Value → gM → gL → gR → Prop} (hld : isLa ld) {Ld1 : Nat} (hLd1 : isLa Ld1) {q : gM × gL} {L : gL} (hQ : Q none q.1 q.2 (rf ld))  {v2 : Int32}  : ∀ (f : Nat) (v3 : Int32) (M : gM), H_Reader_takeFood_56 Ld1 v2 L f v3 M = some q → Wp l y_Reader_takeFood (0, 0, 447) 447 0 0 56 [(0, .ref 3), (1, .ref Ld1), (2, .int v2), (3, .int v3)] [] M L (rf ld) Q := by
  intro f
  induction f with
  | zero => intro v3 M h; cases h
  | succ f hK56 =>
    intro v3 M h
    replace h : B_Reader_takeFood_56 Ld1 v2 L (H_Reader_takeFood_56 Ld1 v2 L f) v3 M = some q := h
    unfold B_Reader_takeFood_56 at h
    refine g_iload_n (pc1 := 57) d_Reader_takeFood_56 rfl 3 rfl ?_
    refine g_iconst (pc1 := 58) (v := 3) d_Reader_takeFood_57 rfl (by decide) ?_
    refine g_icmp_ge (pc1 := 61) (tgt := 85) d_Reader_takeFood_58 (by decide) rfl (fun c18 => ?_) (fun c18 => ?_)
    · replace h := itp h c18
      refine Wp.loc (lv' := [(0, .ref 3), (1, .ref Ld1), (2, .int v2)]) [0, 1, 2] rfl ?_
      exact j_Reader_takeFood_85 hld hLd1 hQ  h
    · replace h := itn h c18
      refine g_aload_n (pc1 := 62) d_Reader_takeFood_61 rfl 1 rfl ?_
      refine g_getr (pc1 := 65) d_Reader_takeFood_62 rfl ⟨_, fo_Reader_145⟩ (shLa_0 hLd1) (ltLa_0 hLd1) (rfLa_7 ld hLd1) ?_
      refine g_iload_n (pc1 := 66) d_Reader_takeFood_65 rfl 2 rfl ?_
      refine g_iconst (pc1 := 67) (v := 3) d_Reader_takeFood_66 rfl (by decide) ?_
      refine g_imul (pc1 := 68) d_Reader_takeFood_67 rfl ?_
      refine g_iload_n (pc1 := 69) d_Reader_takeFood_68 rfl 3 rfl ?_
      refine g_iadd (pc1 := 70) d_Reader_takeFood_69 rfl ?_
      refine g_aload_n (pc1 := 71) d_Reader_takeFood_70 rfl 0 rfl ?_
      refine g_bipush (pc1 := 73) (v := 9) d_Reader_takeFood_71 rfl (by decide) ?_
      refine g_callV0 (pc1 := 76) (As := [.int 9]) (rest := [.int ((v2 * 3) + v3), .ref (Ld1 + 3)]) d_Reader_takeFood_73 rfl mo_Reader_134 mi_Reader_takeInt mv_Reader_takeInt rfl sh_3 (by decide) (by decide) rfl rfl (Nat.le_of_ble_eq_true rfl) ?_
      obtain ⟨r23, M24, hq22, h⟩ := bnd2 h
      refine f_Reader_takeInt hld  hq22 ?_
      dsimp only [psh]
      refine g_callS0 (pc1 := 79) (As := [.ref (Ld1 + 3), .int ((v2 * 3) + v3), .int r23]) (rest := []) d_Reader_takeFood_76 rfl mo_Reader_138 ms_Main_put (by decide) rfl rfl (Nat.le_of_ble_eq_true rfl) ?_
      obtain ⟨M26, hq25, h⟩ := bnd h
      refine f_Main_put hld (shLa_3 hLd1) (ltLa_3 hLd1) (by decide) hq25 ?_
      dsimp only [psh]
      obtain ⟨x27, ex27, h⟩ := ltI h
      refine g_iinc (pc1 := 82) (v := x27) (lv' := [(0, .ref 3), (1, .ref Ld1), (2, .int v2), (3, .int x27)]) d_Reader_takeFood_79 rfl 3 rfl (by rw [ex27]; rfl) (by decide) [1, 2, 3, 0] rfl ?_
      refine g_goto (tgt := 56) d_Reader_takeFood_82 (by decide) ?_
      exact hK56 x27 M26 h
def F_Reader_takeFood (Ld1 : Nat) (M : gM) (L : gL) : Option (gM × gL) :=
  nmI (M Ld1 0) (fun x1 => (if x1 < 6 then bI (F_Reader_take M) (fun M4 => bI2 (F_Reader_takeNewName x1 M4 L) (fun M6 L7 => bI2 (F_Reader_takeInt 99 M6 L7) (fun r9 M10 => bI (F_Main_put (Ld1 + 1) 6 x1 r9 M10) (fun M12 => bI2 (F_Reader_takeInt 9 M12 L7) (fun r14 M15 => bI (F_Main_put (Ld1 + 2) 6 x1 r14 M15) (fun M17 => H_Reader_takeFood_56 Ld1 x1 L7 FU 0 M17)))))) else bI (F_Reader_stop 2 M) (fun M29 => some (M29, L))))
set_option maxHeartbeats 4000000 in
set_option maxRecDepth 20000 in
theorem f_Reader_takeFood {l : Launch} {ld : Nat} {M : gM} {L : gL} {Q : Option Value → gM → gL → gR → Prop} (hld : isLa ld) {Ld1 : Nat} (hLd1 : isLa Ld1) {q : gM × gL} (h : F_Reader_takeFood Ld1 M L = some q) (hQ : Q none q.1 q.2 (rf ld)) : Tm l y_Reader_takeFood (0, 0, 447) 447 [.ref 3, .ref Ld1] M L (rf ld) Q := by
  refine Tm.of (by decide) (Nat.le_of_ble_eq_true rfl) ?_
  show Wp l y_Reader_takeFood (0, 0, 447) 447 0 0 0 [(0, .ref 3), (1, .ref Ld1)] [] M L (rf ld) Q
  unfold F_Reader_takeFood at h
  refine g_aload_n (pc1 := 1) d_Reader_takeFood_0 rfl 1 rfl ?_
  refine g_geti (pc1 := 4) d_Reader_takeFood_1 rfl ⟨_, fo_Reader_125⟩ (shLa_0 hLd1) (ltLa_0 hLd1) ?_
  refine Wp.lI h (fun x1 h => ?_)
  refine g_istore_n (pc1 := 5) (lv' := [(0, .ref 3), (1, .ref Ld1), (2, .int x1)]) d_Reader_takeFood_4 rfl rfl (by decide) [1, 2, 0] rfl ?_
  refine g_iload_n (pc1 := 6) d_Reader_takeFood_5 rfl 2 rfl ?_
  refine g_bipush (pc1 := 8) (v := 6) d_Reader_takeFood_6 rfl (by decide) ?_
  refine g_icmp_lt (pc1 := 11) (tgt := 17) d_Reader_takeFood_8 (by decide) rfl (fun c2 => ?_) (fun c2 => ?_)
  · replace h := itp h c2
    refine g_aload_n (pc1 := 18) d_Reader_takeFood_17 rfl 0 rfl ?_
    refine g_callV0 (pc1 := 21) (As := []) (rest := []) d_Reader_takeFood_18 rfl mo_Reader_108 mi_Reader_take mv_Reader_take rfl sh_3 (by decide) (by decide) rfl rfl (Nat.le_of_ble_eq_true rfl) ?_
    obtain ⟨M4, hq3, h⟩ := bnd h
    refine f_Reader_take hld  hq3 ?_
    dsimp only [psh]
    refine g_aload_n (pc1 := 22) d_Reader_takeFood_21 rfl 0 rfl ?_
    refine g_iload_n (pc1 := 23) d_Reader_takeFood_22 rfl 2 rfl ?_
    refine g_callV0 (pc1 := 26) (As := [.int x1]) (rest := []) d_Reader_takeFood_23 rfl mo_Reader_128 mi_Reader_takeNewName mv_Reader_takeNewName rfl sh_3 (by decide) (by decide) rfl rfl (Nat.le_of_ble_eq_true rfl) ?_
    obtain ⟨M6, L7, hq5, h⟩ := bnd2 h
    refine f_Reader_takeNewName hld  hq5 ?_
    dsimp only [psh]
    refine g_aload_n (pc1 := 27) d_Reader_takeFood_26 rfl 1 rfl ?_
    refine g_getr (pc1 := 30) d_Reader_takeFood_27 rfl ⟨_, fo_Reader_131⟩ (shLa_0 hLd1) (ltLa_0 hLd1) (rfLa_5 ld hLd1) ?_
    refine g_iload_n (pc1 := 31) d_Reader_takeFood_30 rfl 2 rfl ?_
    refine g_aload_n (pc1 := 32) d_Reader_takeFood_31 rfl 0 rfl ?_
    refine g_bipush (pc1 := 34) (v := 99) d_Reader_takeFood_32 rfl (by decide) ?_
    refine g_callV0 (pc1 := 37) (As := [.int 99]) (rest := [.int x1, .ref (Ld1 + 1)]) d_Reader_takeFood_34 rfl mo_Reader_134 mi_Reader_takeInt mv_Reader_takeInt rfl sh_3 (by decide) (by decide) rfl rfl (Nat.le_of_ble_eq_true rfl) ?_
    obtain ⟨r9, M10, hq8, h⟩ := bnd2 h
    refine f_Reader_takeInt hld  hq8 ?_
    dsimp only [psh]
    refine g_callS0 (pc1 := 40) (As := [.ref (Ld1 + 1), .int x1, .int r9]) (rest := []) d_Reader_takeFood_37 rfl mo_Reader_138 ms_Main_put (by decide) rfl rfl (Nat.le_of_ble_eq_true rfl) ?_
    obtain ⟨M12, hq11, h⟩ := bnd h
    refine f_Main_put hld (shLa_1 hLd1) (ltLa_1 hLd1) (by decide) hq11 ?_
    dsimp only [psh]
    refine g_aload_n (pc1 := 41) d_Reader_takeFood_40 rfl 1 rfl ?_
    refine g_getr (pc1 := 44) d_Reader_takeFood_41 rfl ⟨_, fo_Reader_142⟩ (shLa_0 hLd1) (ltLa_0 hLd1) (rfLa_6 ld hLd1) ?_
    refine g_iload_n (pc1 := 45) d_Reader_takeFood_44 rfl 2 rfl ?_
    refine g_aload_n (pc1 := 46) d_Reader_takeFood_45 rfl 0 rfl ?_
    refine g_bipush (pc1 := 48) (v := 9) d_Reader_takeFood_46 rfl (by decide) ?_
    refine g_callV0 (pc1 := 51) (As := [.int 9]) (rest := [.int x1, .ref (Ld1 + 2)]) d_Reader_takeFood_48 rfl mo_Reader_134 mi_Reader_takeInt mv_Reader_takeInt rfl sh_3 (by decide) (by decide) rfl rfl (Nat.le_of_ble_eq_true rfl) ?_
    obtain ⟨r14, M15, hq13, h⟩ := bnd2 h
    refine f_Reader_takeInt hld  hq13 ?_
    dsimp only [psh]
    refine g_callS0 (pc1 := 54) (As := [.ref (Ld1 + 2), .int x1, .int r14]) (rest := []) d_Reader_takeFood_51 rfl mo_Reader_138 ms_Main_put (by decide) rfl rfl (Nat.le_of_ble_eq_true rfl) ?_
    obtain ⟨M17, hq16, h⟩ := bnd h
    refine f_Main_put hld (shLa_2 hLd1) (ltLa_2 hLd1) (by decide) hq16 ?_
    dsimp only [psh]
    refine g_iconst (pc1 := 55) (v := 0) d_Reader_takeFood_54 rfl (by decide) ?_
    refine g_istore_n (pc1 := 56) (lv' := [(0, .ref 3), (1, .ref Ld1), (2, .int x1), (3, .int 0)]) d_Reader_takeFood_55 rfl rfl (by decide) [1, 2, 3, 0] rfl ?_
    exact h_Reader_takeFood_56 hld hLd1 hQ  _ 0 M17 h
  · replace h := itn h c2
    refine g_aload_n (pc1 := 12) d_Reader_takeFood_11 rfl 0 rfl ?_
    refine g_iconst (pc1 := 13) (v := 2) d_Reader_takeFood_12 rfl (by decide) ?_
    refine g_callV0 (pc1 := 16) (As := [.int 2]) (rest := []) d_Reader_takeFood_13 rfl mo_Reader_95 mi_Reader_stop mv_Reader_stop rfl sh_3 (by decide) (by decide) rfl rfl (Nat.le_of_ble_eq_true rfl) ?_
    obtain ⟨M29, hq28, h⟩ := bnd h
    refine f_Reader_stop hld  hq28 ?_
    dsimp only [psh]
    refine g_return rfl d_Reader_takeFood_16 rfl ?_
    cases h; exact hQ

