set_option maxHeartbeats 4000000 in
set_option maxRecDepth 20000 in
theorem t1_Main_at {l : Launch} {ld : Nat} (hld : isLa ld) {M : gM} {L : gL} {Q : Option Value → gM → gL → gR → Prop} (a1 : Nat) {N1 : Nat} (hs1 : SH a1 = (1, N1)) (ha1 : a1 < 447) (hN1 : N1 < 2 ^ 31) (p2 : Int32) (hQ : ∀ (r : Int32) , Q (some (.int r)) M L (rf ld)) : Tm l y_Main_at (0, 0, 447) 447 [.ref a1, .int p2] M L (rf ld) Q := by
  refine Tm.of (by decide) (Nat.le_of_ble_eq_true rfl) ?_
  show Wp l y_Main_at (0, 0, 447) 447 0 0 0 [(0, .ref a1), (1, .int p2)] [] M L (rf ld) Q
  refine g_iload_n (pc1 := 1) d_Main_at_0 rfl 1 rfl ?_
  refine g_if_lt (pc1 := 4) (tgt := 16) d_Main_at_1 (by decide) rfl (fun h1 => ?_) (fun h1 => ?_)
  · refine g_iconst (pc1 := 17) (v := 0) d_Main_at_16 rfl (by decide) ?_
    refine g_ireturn (Or.inl rfl) d_Main_at_17 rfl ?_
    exact hQ _
  · refine g_iload_n (pc1 := 5) d_Main_at_4 rfl 1 rfl ?_
    refine g_aload_n (pc1 := 6) d_Main_at_5 rfl 0 rfl ?_
    refine g_alen (pc1 := 7) (v := Int32.ofNat N1) d_Main_at_6 rfl hs1 (by decide) (by decide) ha1 rfl ?_
    refine g_icmp_ge (pc1 := 10) (tgt := 16) d_Main_at_7 (by decide) rfl (fun h2 => ?_) (fun h2 => ?_)
    · refine g_iconst (pc1 := 17) (v := 0) d_Main_at_16 rfl (by decide) ?_
      refine g_ireturn (Or.inl rfl) d_Main_at_17 rfl ?_
      exact hQ _
    · refine g_aload_n (pc1 := 11) d_Main_at_10 rfl 0 rfl ?_
      refine g_iload_n (pc1 := 12) d_Main_at_11 rfl 1 rfl ?_
      refine g_iald (pc1 := 13) d_Main_at_12 rfl hs1 ha1 (vin_of h1 h2 hN1) ?_
      refine g_goto (tgt := 17) d_Main_at_13 (by decide) ?_
      refine g_ireturn (Or.inl rfl) d_Main_at_17 rfl ?_
      exact hQ _
set_option maxHeartbeats 4000000 in
set_option maxRecDepth 20000 in
theorem t1_Main_copyRow {l : Launch} {ld : Nat} (hld : isLa ld) {M : gM} {L : gL} {Q : Option Value → gM → gL → gR → Prop} (a1 : Nat) {N1 : Nat} (hs1 : SH a1 = (1, N1)) (ha1 : a1 < 447) (hN1 : N1 < 2 ^ 31) (a2 : Nat) {N2 : Nat} (hs2 : SH a2 = (1, N2)) (ha2 : a2 < 447) (hN2 : N2 < 2 ^ 31) (hQ : ∀ (M' : gM) (L' : gL), Kp (one a2) M L M' L' → Q none M' L' (rf ld)) : Tm l y_Main_copyRow (0, 0, 447) 447 [.ref a1, .ref a2] M L (rf ld) Q := by
  refine Tm.of (by decide) (Nat.le_of_ble_eq_true rfl) ?_
  show Wp l y_Main_copyRow (0, 0, 447) 447 0 0 0 [(0, .ref a1), (1, .ref a2)] [] M L (rf ld) Q
  refine g_iconst (pc1 := 1) (v := 0) d_Main_copyRow_0 rfl (by decide) ?_
  refine g_istore_n (pc1 := 2) (lv' := [(0, .ref a1), (1, .ref a2), (2, .int 0)]) d_Main_copyRow_1 rfl rfl (by decide) [1, 2, 0] rfl ?_
  have LP6 : ∀ (f3 : Nat) (v7 : Int32) (M8 : gM) (L9 : gL), Kp (one a2) M L M8 L9 → ¬ v7 < 0 → (((Int32.ofNat N1) : Int32).toInt - v7.toInt).toNat < f3 → Wp l y_Main_copyRow (0, 0, 447) 447 0 0 2 [(0, .ref a1), (1, .ref a2), (2, .int v7)] [] M8 L9 (rf ld) Q := by
    intro f3
    induction f3 with
    | zero => intro v7 M8 L9 _ _ hm5; exact absurd hm5 (Nat.not_lt_zero _)
    | succ f3 ih4 =>
      intro v7 M8 L9 k10 n11 hm5
      refine g_iload_n (pc1 := 3) d_Main_copyRow_2 rfl 2 rfl ?_
      refine g_aload_n (pc1 := 4) d_Main_copyRow_3 rfl 0 rfl ?_
      refine g_alen (pc1 := 5) (v := Int32.ofNat N1) d_Main_copyRow_4 rfl hs1 (by decide) (by decide) ha1 rfl ?_
      refine g_icmp_ge (pc1 := 8) (tgt := 26) d_Main_copyRow_5 (by decide) rfl (fun h12 => ?_) (fun h12 => ?_)
      · refine g_return rfl d_Main_copyRow_26 rfl ?_
        exact hQ _ _ k10
      · refine g_iload_n (pc1 := 9) d_Main_copyRow_8 rfl 2 rfl ?_
        refine g_aload_n (pc1 := 10) d_Main_copyRow_9 rfl 1 rfl ?_
        refine g_alen (pc1 := 11) (v := Int32.ofNat N2) d_Main_copyRow_10 rfl hs2 (by decide) (by decide) ha2 rfl ?_
        refine g_icmp_ge (pc1 := 14) (tgt := 26) d_Main_copyRow_11 (by decide) rfl (fun h13 => ?_) (fun h13 => ?_)
        · refine g_return rfl d_Main_copyRow_26 rfl ?_
          exact hQ _ _ k10
        · refine g_aload_n (pc1 := 15) d_Main_copyRow_14 rfl 1 rfl ?_
          refine g_iload_n (pc1 := 16) d_Main_copyRow_15 rfl 2 rfl ?_
          refine g_aload_n (pc1 := 17) d_Main_copyRow_16 rfl 0 rfl ?_
          refine g_iload_n (pc1 := 18) d_Main_copyRow_17 rfl 2 rfl ?_
          refine g_iald (pc1 := 19) d_Main_copyRow_18 rfl hs1 ha1 (vin_of n11 h12 hN1) ?_
          refine g_iast (pc1 := 20) d_Main_copyRow_19 rfl hs2 ha2 (vin_of n11 h13 hN2) ?_
          refine Wp.topM (fun M14 eM14 => ?_)
          obtain ⟨x15, ex15⟩ : ∃ y : Int32, y = v7 + 1 := ⟨_, rfl⟩
          refine g_iinc (pc1 := 23) (v := x15) (lv' := [(0, .ref a1), (1, .ref a2), (2, .int x15)]) d_Main_copyRow_20 rfl 2 rfl (by rw [ex15]; rfl) (by decide) [1, 2, 0] rfl ?_
          refine g_goto (tgt := 2) d_Main_copyRow_23 (by decide) ?_
          exact ih4 x15 M14 L9 (Kp.wM k10 (one_self a2) eM14) (nn_up (y := ((Int32.ofNat N1) : Int32)) h12 ex15 n11) (md_up h12 ex15 hm5)
  exact LP6 _ 0 M L Kp.rf (by decide) (Nat.lt_succ_self _)
set_option maxHeartbeats 4000000 in
set_option maxRecDepth 20000 in
theorem t1_Main_hasBit {l : Launch} {ld : Nat} (hld : isLa ld) {M : gM} {L : gL} {Q : Option Value → gM → gL → gR → Prop} (p1 : Int32) (p2 : Int32) (hQ : ∀ (r : Int32) , (r = 0 ∨ r = 1) → Q (some (.int r)) M L (rf ld)) : Tm l y_Main_hasBit (0, 0, 447) 447 [.int p1, .int p2] M L (rf ld) Q := by
  refine Tm.of (by decide) (Nat.le_of_ble_eq_true rfl) ?_
  show Wp l y_Main_hasBit (0, 0, 447) 447 0 0 0 [(0, .int p1), (1, .int p2)] [] M L (rf ld) Q
  refine g_iload_n (pc1 := 1) d_Main_hasBit_0 rfl 0 rfl ?_
  refine g_iload_n (pc1 := 2) d_Main_hasBit_1 rfl 1 rfl ?_
  refine g_ishr (pc1 := 3) d_Main_hasBit_2 rfl ?_
  refine g_iconst (pc1 := 4) (v := 1) d_Main_hasBit_3 rfl (by decide) ?_
  refine g_iand (pc1 := 5) d_Main_hasBit_4 rfl ?_
  refine g_if_eq (pc1 := 8) (tgt := 12) d_Main_hasBit_5 (by decide) rfl (fun h16 => ?_) (fun h16 => ?_)
  · refine g_iconst (pc1 := 13) (v := 0) d_Main_hasBit_12 rfl (by decide) ?_
    refine g_ireturn (Or.inr ⟨rfl, rfl⟩) d_Main_hasBit_13 rfl ?_
    exact hQ _ (Or.inl rfl)
  · refine g_iconst (pc1 := 9) (v := 1) d_Main_hasBit_8 rfl (by decide) ?_
    refine g_goto (tgt := 13) d_Main_hasBit_9 (by decide) ?_
    refine g_ireturn (Or.inr ⟨rfl, rfl⟩) d_Main_hasBit_13 rfl ?_
    exact hQ _ (Or.inr rfl)
set_option maxHeartbeats 4000000 in
set_option maxRecDepth 20000 in
theorem t1_Main_isOne {l : Launch} {ld : Nat} (hld : isLa ld) {M : gM} {L : gL} {Q : Option Value → gM → gL → gR → Prop} (p1 : Int32) (p2 : Int32) (hQ : ∀ (r : Int32) , (r = 0 ∨ r = 1) → Q (some (.int r)) M L (rf ld)) : Tm l y_Main_isOne (0, 0, 447) 447 [.int p1, .int p2] M L (rf ld) Q := by
  refine Tm.of (by decide) (Nat.le_of_ble_eq_true rfl) ?_
  show Wp l y_Main_isOne (0, 0, 447) 447 0 0 0 [(0, .int p1), (1, .int p2)] [] M L (rf ld) Q
  refine g_iload_n (pc1 := 1) d_Main_isOne_0 rfl 0 rfl ?_
  refine g_if_lt (pc1 := 4) (tgt := 13) d_Main_isOne_1 (by decide) rfl (fun h17 => ?_) (fun h17 => ?_)
  · refine g_iconst (pc1 := 14) (v := 0) d_Main_isOne_13 rfl (by decide) ?_
    refine g_ireturn (Or.inr ⟨rfl, rfl⟩) d_Main_isOne_14 rfl ?_
    exact hQ _ (Or.inl rfl)
  · refine g_iload_n (pc1 := 5) d_Main_isOne_4 rfl 0 rfl ?_
    refine g_iload_n (pc1 := 6) d_Main_isOne_5 rfl 1 rfl ?_
    refine g_icmp_ge (pc1 := 9) (tgt := 13) d_Main_isOne_6 (by decide) rfl (fun h18 => ?_) (fun h18 => ?_)
    · refine g_iconst (pc1 := 14) (v := 0) d_Main_isOne_13 rfl (by decide) ?_
      refine g_ireturn (Or.inr ⟨rfl, rfl⟩) d_Main_isOne_14 rfl ?_
      exact hQ _ (Or.inl rfl)
    · refine g_iconst (pc1 := 10) (v := 1) d_Main_isOne_9 rfl (by decide) ?_
      refine g_goto (tgt := 14) d_Main_isOne_10 (by decide) ?_
      refine g_ireturn (Or.inr ⟨rfl, rfl⟩) d_Main_isOne_14 rfl ?_
      exact hQ _ (Or.inr rfl)
set_option maxHeartbeats 4000000 in
set_option maxRecDepth 20000 in
theorem t1_Main_place {l : Launch} {ld : Nat} (hld : isLa ld) {M : gM} {L : gL} {Q : Option Value → gM → gL → gR → Prop}  (hQ : ∀ (r : Int32) , Q (some (.int r)) M L (rf ld)) : Tm l y_Main_place (0, 0, 447) 447 [.ref 0] M L (rf ld) Q := by
  refine Tm.of (by decide) (Nat.le_of_ble_eq_true rfl) ?_
  show Wp l y_Main_place (0, 0, 447) 447 0 0 0 [(0, .ref 0)] [] M L (rf ld) Q
  refine g_aload_n (pc1 := 1) d_Main_place_0 rfl 0 rfl ?_
  refine g_geti (pc1 := 4) d_Main_place_1 rfl ⟨_, fo_Main_78⟩ sh_0 (by decide) ?_
  refine g_ireturn (Or.inl rfl) d_Main_place_4 rfl ?_
  exact hQ _
set_option maxHeartbeats 4000000 in
set_option maxRecDepth 20000 in
theorem t1_Main_put {l : Launch} {ld : Nat} (hld : isLa ld) {M : gM} {L : gL} {Q : Option Value → gM → gL → gR → Prop} (a1 : Nat) {N1 : Nat} (hs1 : SH a1 = (1, N1)) (ha1 : a1 < 447) (hN1 : N1 < 2 ^ 31) (p2 : Int32) (p3 : Int32) (hQ : ∀ (M' : gM) (L' : gL), Kp (one a1) M L M' L' → Q none M' L' (rf ld)) : Tm l y_Main_put (0, 0, 447) 447 [.ref a1, .int p2, .int p3] M L (rf ld) Q := by
  refine Tm.of (by decide) (Nat.le_of_ble_eq_true rfl) ?_
  show Wp l y_Main_put (0, 0, 447) 447 0 0 0 [(0, .ref a1), (1, .int p2), (2, .int p3)] [] M L (rf ld) Q
  refine g_iload_n (pc1 := 1) d_Main_put_0 rfl 1 rfl ?_
  refine g_if_lt (pc1 := 4) (tgt := 14) d_Main_put_1 (by decide) rfl (fun h19 => ?_) (fun h19 => ?_)
  · refine g_return rfl d_Main_put_14 rfl ?_
    exact hQ _ _ Kp.rf
  · refine g_iload_n (pc1 := 5) d_Main_put_4 rfl 1 rfl ?_
    refine g_aload_n (pc1 := 6) d_Main_put_5 rfl 0 rfl ?_
    refine g_alen (pc1 := 7) (v := Int32.ofNat N1) d_Main_put_6 rfl hs1 (by decide) (by decide) ha1 rfl ?_
    refine g_icmp_ge (pc1 := 10) (tgt := 14) d_Main_put_7 (by decide) rfl (fun h20 => ?_) (fun h20 => ?_)
    · refine g_return rfl d_Main_put_14 rfl ?_
      exact hQ _ _ Kp.rf
    · refine g_aload_n (pc1 := 11) d_Main_put_10 rfl 0 rfl ?_
      refine g_iload_n (pc1 := 12) d_Main_put_11 rfl 1 rfl ?_
      refine g_iload_n (pc1 := 13) d_Main_put_12 rfl 2 rfl ?_
      refine g_iast (pc1 := 14) d_Main_put_13 rfl hs1 ha1 (vin_of h19 h20 hN1) ?_
      refine Wp.topM (fun M21 eM21 => ?_)
      refine g_return rfl d_Main_put_14 rfl ?_
      exact hQ _ _ (Kp.wM Kp.rf (one_self a1) eM21)
set_option maxHeartbeats 4000000 in
set_option maxRecDepth 20000 in
theorem t1_Main_wipe {l : Launch} {ld : Nat} (hld : isLa ld) {M : gM} {L : gL} {Q : Option Value → gM → gL → gR → Prop} (a1 : Nat) {N1 : Nat} (hs1 : SH a1 = (1, N1)) (ha1 : a1 < 447) (hN1 : N1 < 2 ^ 31) (hQ : ∀ (M' : gM) (L' : gL), Kp (one a1) M L M' L' → Q none M' L' (rf ld)) : Tm l y_Main_wipe (0, 0, 447) 447 [.ref a1] M L (rf ld) Q := by
  refine Tm.of (by decide) (Nat.le_of_ble_eq_true rfl) ?_
  show Wp l y_Main_wipe (0, 0, 447) 447 0 0 0 [(0, .ref a1)] [] M L (rf ld) Q
  refine g_iconst (pc1 := 1) (v := 0) d_Main_wipe_0 rfl (by decide) ?_
  refine g_istore_n (pc1 := 2) (lv' := [(0, .ref a1), (1, .int 0)]) d_Main_wipe_1 rfl rfl (by decide) [1, 0] rfl ?_
  have LP25 : ∀ (f22 : Nat) (v26 : Int32) (M27 : gM) (L28 : gL), Kp (one a1) M L M27 L28 → ¬ v26 < 0 → (((Int32.ofNat N1) : Int32).toInt - v26.toInt).toNat < f22 → Wp l y_Main_wipe (0, 0, 447) 447 0 0 2 [(0, .ref a1), (1, .int v26)] [] M27 L28 (rf ld) Q := by
    intro f22
    induction f22 with
    | zero => intro v26 M27 L28 _ _ hm24; exact absurd hm24 (Nat.not_lt_zero _)
    | succ f22 ih23 =>
      intro v26 M27 L28 k29 n30 hm24
      refine g_iload_n (pc1 := 3) d_Main_wipe_2 rfl 1 rfl ?_
      refine g_aload_n (pc1 := 4) d_Main_wipe_3 rfl 0 rfl ?_
      refine g_alen (pc1 := 5) (v := Int32.ofNat N1) d_Main_wipe_4 rfl hs1 (by decide) (by decide) ha1 rfl ?_
      refine g_icmp_ge (pc1 := 8) (tgt := 18) d_Main_wipe_5 (by decide) rfl (fun h31 => ?_) (fun h31 => ?_)
      · refine g_return rfl d_Main_wipe_18 rfl ?_
        exact hQ _ _ k29
      · refine g_aload_n (pc1 := 9) d_Main_wipe_8 rfl 0 rfl ?_
        refine g_iload_n (pc1 := 10) d_Main_wipe_9 rfl 1 rfl ?_
        refine g_iconst (pc1 := 11) (v := 0) d_Main_wipe_10 rfl (by decide) ?_
        refine g_iast (pc1 := 12) d_Main_wipe_11 rfl hs1 ha1 (vin_of n30 h31 hN1) ?_
        refine Wp.topM (fun M32 eM32 => ?_)
        obtain ⟨x33, ex33⟩ : ∃ y : Int32, y = v26 + 1 := ⟨_, rfl⟩
        refine g_iinc (pc1 := 15) (v := x33) (lv' := [(0, .ref a1), (1, .int x33)]) d_Main_wipe_12 rfl 1 rfl (by rw [ex33]; rfl) (by decide) [1, 0] rfl ?_
        refine g_goto (tgt := 2) d_Main_wipe_15 (by decide) ?_
        exact ih23 x33 M32 L28 (Kp.wM k29 (one_self a1) eM32) (nn_up (y := ((Int32.ofNat N1) : Int32)) h31 ex33 n30) (md_up h31 ex33 hm24)
  exact LP25 _ 0 M L Kp.rf (by decide) (Nat.lt_succ_self _)
set_option maxHeartbeats 4000000 in
set_option maxRecDepth 20000 in
theorem t1_Land_stirred {l : Launch} {ld : Nat} (hld : isLa ld) {M : gM} {L : gL} {Q : Option Value → gM → gL → gR → Prop} (p1 : Int32) (p2 : Int32) (hQ : ∀ (r : Int32) , Q (some (.int r)) M L (rf ld)) : Tm l y_Land_stirred (0, 0, 447) 447 [.int p1, .int p2] M L (rf ld) Q := by
  refine Tm.of (by decide) (Nat.le_of_ble_eq_true rfl) ?_
  show Wp l y_Land_stirred (0, 0, 447) 447 0 0 0 [(0, .int p1), (1, .int p2)] [] M L (rf ld) Q
  refine g_iload_n (pc1 := 1) d_Land_stirred_0 rfl 0 rfl ?_
  refine g_iload_n (pc1 := 2) d_Land_stirred_1 rfl 1 rfl ?_
  refine g_ixor (pc1 := 3) d_Land_stirred_2 rfl ?_
  refine g_ldc (pc1 := 5) (v := 1103515245) d_Land_stirred_3 rfl co_Land_133 ?_
  refine g_imul (pc1 := 6) d_Land_stirred_5 rfl ?_
  refine g_sipush (pc1 := 9) (v := 12345) d_Land_stirred_6 rfl (by decide) ?_
  refine g_iadd (pc1 := 10) d_Land_stirred_9 rfl ?_
  refine Wp.topi (fun x34 ex34 => ?_)
  refine g_istore_n (pc1 := 11) (lv' := [(0, .int p1), (1, .int p2), (2, .int x34)]) d_Land_stirred_10 rfl rfl (by decide) [1, 2, 0] rfl ?_
  refine g_iload_n (pc1 := 12) d_Land_stirred_11 rfl 2 rfl ?_
  refine g_iload_n (pc1 := 13) d_Land_stirred_12 rfl 2 rfl ?_
  refine g_bipush (pc1 := 15) (v := 15) d_Land_stirred_13 rfl (by decide) ?_
  refine g_iushr (pc1 := 16) d_Land_stirred_15 rfl ?_
  refine g_ixor (pc1 := 17) d_Land_stirred_16 rfl ?_
  refine g_ireturn (Or.inl rfl) d_Land_stirred_17 rfl ?_
  exact hQ _
set_option maxHeartbeats 4000000 in
set_option maxRecDepth 20000 in
theorem t1_Law_add {l : Launch} {ld : Nat} (hld : isLa ld) {M : gM} {L : gL} {Q : Option Value → gM → gL → gR → Prop} (Wl0 : Nat) (hWl0 : isLw Wl0) (p1 : Int32) (hQ : ∀ (M' : gM) (L' : gL), Kp SL M L M' L' → Q none M' L' (rf ld)) : Tm l y_Law_add (0, 0, 447) 447 [.ref Wl0, .int p1] M L (rf ld) Q := by
  refine Tm.of (by decide) (Nat.le_of_ble_eq_true rfl) ?_
  show Wp l y_Law_add (0, 0, 447) 447 0 0 0 [(0, .ref Wl0), (1, .int p1)] [] M L (rf ld) Q
  refine g_aload_n (pc1 := 1) d_Law_add_0 rfl 0 rfl ?_
  refine g_geti (pc1 := 4) d_Law_add_1 rfl ⟨_, fo_Law_21⟩ (shLw_0 hWl0) (ltLw_0 hWl0) ?_
  refine g_if_lt (pc1 := 7) (tgt := 39) d_Law_add_4 (by decide) rfl (fun h35 => ?_) (fun h35 => ?_)
  · refine g_return rfl d_Law_add_39 rfl ?_
    exact hQ _ _ Kp.rf
  · refine g_aload_n (pc1 := 8) d_Law_add_7 rfl 0 rfl ?_
    refine g_geti (pc1 := 11) d_Law_add_8 rfl ⟨_, fo_Law_21⟩ (shLw_0 hWl0) (ltLw_0 hWl0) ?_
    refine g_aload_n (pc1 := 12) d_Law_add_11 rfl 0 rfl ?_
    refine g_getr (pc1 := 15) d_Law_add_12 rfl ⟨_, fo_Law_11⟩ (shLw_0 hWl0) (ltLw_0 hWl0) (rfLw_0 ld hWl0) ?_
    refine g_alen (pc1 := 16) (v := 400) d_Law_add_15 rfl (shLw_1 hWl0) (by decide) (by decide) (ltLw_1 hWl0) (by decide) ?_
    refine g_icmp_ge (pc1 := 19) (tgt := 39) d_Law_add_16 (by decide) rfl (fun h36 => ?_) (fun h36 => ?_)
    · refine g_return rfl d_Law_add_39 rfl ?_
      exact hQ _ _ Kp.rf
    · refine g_aload_n (pc1 := 20) d_Law_add_19 rfl 0 rfl ?_
      refine g_getr (pc1 := 23) d_Law_add_20 rfl ⟨_, fo_Law_11⟩ (shLw_0 hWl0) (ltLw_0 hWl0) (rfLw_0 ld hWl0) ?_
      refine g_aload_n (pc1 := 24) d_Law_add_23 rfl 0 rfl ?_
      refine g_geti (pc1 := 27) d_Law_add_24 rfl ⟨_, fo_Law_21⟩ (shLw_0 hWl0) (ltLw_0 hWl0) ?_
      refine g_iload_n (pc1 := 28) d_Law_add_27 rfl 1 rfl ?_
      refine g_iast (pc1 := 29) d_Law_add_28 rfl (shLw_1 hWl0) (ltLw_1 hWl0) (vin_of h35 h36 (by decide)) ?_
      refine Wp.topM (fun M37 eM37 => ?_)
      refine g_aload_n (pc1 := 30) d_Law_add_29 rfl 0 rfl ?_
      refine g_dup (pc1 := 31) d_Law_add_30 rfl rfl ?_
      refine g_geti (pc1 := 34) d_Law_add_31 rfl ⟨_, fo_Law_21⟩ (shLw_0 hWl0) (ltLw_0 hWl0) ?_
      refine g_iconst (pc1 := 35) (v := 1) d_Law_add_34 rfl (by decide) ?_
      refine g_iadd (pc1 := 36) d_Law_add_35 rfl ?_
      refine g_puti (pc1 := 39) d_Law_add_36 rfl fo_Law_21 (po_5_1 _) (shLw_0 hWl0) (ltLw_0 hWl0) ?_
      refine Wp.topM (fun M38 eM38 => ?_)
      refine g_return rfl d_Law_add_39 rfl ?_
      exact hQ _ _ (Kp.wM (Kp.wM Kp.rf (SL_Lw_1 hWl0) eM37) (SL_Lw_0 hWl0) eM38)
set_option maxHeartbeats 4000000 in
set_option maxRecDepth 20000 in
theorem t1_Law_clear {l : Launch} {ld : Nat} (hld : isLa ld) {M : gM} {L : gL} {Q : Option Value → gM → gL → gR → Prop} (Wl0 : Nat) (hWl0 : isLw Wl0) (hQ : ∀ (M' : gM) (L' : gL), Kp SL M L M' L' → Q none M' L' (rf ld)) : Tm l y_Law_clear (0, 0, 447) 447 [.ref Wl0] M L (rf ld) Q := by
  refine Tm.of (by decide) (Nat.le_of_ble_eq_true rfl) ?_
  show Wp l y_Law_clear (0, 0, 447) 447 0 0 0 [(0, .ref Wl0)] [] M L (rf ld) Q
  refine g_aload_n (pc1 := 1) d_Law_clear_0 rfl 0 rfl ?_
  refine g_iconst (pc1 := 2) (v := 0) d_Law_clear_1 rfl (by decide) ?_
  refine g_puti (pc1 := 5) d_Law_clear_2 rfl fo_Law_21 (po_5_1 _) (shLw_0 hWl0) (ltLw_0 hWl0) ?_
  refine Wp.topM (fun M39 eM39 => ?_)
  refine g_return rfl d_Law_clear_5 rfl ?_
  exact hQ _ _ (Kp.wM Kp.rf (SL_Lw_0 hWl0) eM39)
set_option maxHeartbeats 4000000 in
set_option maxRecDepth 20000 in
theorem t1_Law_isTold {l : Launch} {ld : Nat} (hld : isLa ld) {M : gM} {L : gL} {Q : Option Value → gM → gL → gR → Prop} (Wl0 : Nat) (hWl0 : isLw Wl0) (hQ : ∀ (r : Int32) , (r = 0 ∨ r = 1) → Q (some (.int r)) M L (rf ld)) : Tm l y_Law_isTold (0, 0, 447) 447 [.ref Wl0] M L (rf ld) Q := by
  refine Tm.of (by decide) (Nat.le_of_ble_eq_true rfl) ?_
  show Wp l y_Law_isTold (0, 0, 447) 447 0 0 0 [(0, .ref Wl0)] [] M L (rf ld) Q
  refine g_aload_n (pc1 := 1) d_Law_isTold_0 rfl 0 rfl ?_
  refine g_geti (pc1 := 4) d_Law_isTold_1 rfl ⟨_, fo_Law_21⟩ (shLw_0 hWl0) (ltLw_0 hWl0) ?_
  refine g_if_le (pc1 := 7) (tgt := 11) d_Law_isTold_4 (by decide) rfl (fun h40 => ?_) (fun h40 => ?_)
  · refine g_iconst (pc1 := 12) (v := 0) d_Law_isTold_11 rfl (by decide) ?_
    refine g_ireturn (Or.inr ⟨rfl, rfl⟩) d_Law_isTold_12 rfl ?_
    exact hQ _ (Or.inl rfl)
  · refine g_iconst (pc1 := 8) (v := 1) d_Law_isTold_7 rfl (by decide) ?_
    refine g_goto (tgt := 12) d_Law_isTold_8 (by decide) ?_
    refine g_ireturn (Or.inr ⟨rfl, rfl⟩) d_Law_isTold_12 rfl ?_
    exact hQ _ (Or.inr rfl)
set_option maxHeartbeats 4000000 in
set_option maxRecDepth 20000 in
theorem t1_Law_looksAt {l : Launch} {ld : Nat} (hld : isLa ld) {M : gM} {L : gL} {Q : Option Value → gM → gL → gR → Prop} (Wl0 : Nat) (hWl0 : isLw Wl0) (p1 : Int32) (hQ : ∀ (r : Int32) , (r = 0 ∨ r = 1) → Q (some (.int r)) M L (rf ld)) : Tm l y_Law_looksAt (0, 0, 447) 447 [.ref Wl0, .int p1] M L (rf ld) Q := by
  refine Tm.of (by decide) (Nat.le_of_ble_eq_true rfl) ?_
  show Wp l y_Law_looksAt (0, 0, 447) 447 0 0 0 [(0, .ref Wl0), (1, .int p1)] [] M L (rf ld) Q
  refine g_iconst (pc1 := 1) (v := 0) d_Law_looksAt_0 rfl (by decide) ?_
  refine g_istore_n (pc1 := 2) (lv' := [(0, .ref Wl0), (1, .int p1), (2, .int 0)]) d_Law_looksAt_1 rfl rfl (by decide) [1, 2, 0] rfl ?_
  have LP44 : ∀ (f41 : Nat) (v45 : Int32), ¬ v45 < 0 → ((M Wl0 1).toInt - v45.toInt).toNat < f41 → Wp l y_Law_looksAt (0, 0, 447) 447 0 0 2 [(0, .ref Wl0), (1, .int p1), (2, .int v45)] [] M L (rf ld) Q := by
    intro f41
    induction f41 with
    | zero => intro v45 _ hm43; exact absurd hm43 (Nat.not_lt_zero _)
    | succ f41 ih42 =>
      intro v45 n46 hm43
      refine g_iload_n (pc1 := 3) d_Law_looksAt_2 rfl 2 rfl ?_
      refine g_aload_n (pc1 := 4) d_Law_looksAt_3 rfl 0 rfl ?_
      refine g_geti (pc1 := 7) d_Law_looksAt_4 rfl ⟨_, fo_Law_21⟩ (shLw_0 hWl0) (ltLw_0 hWl0) ?_
      refine g_icmp_ge (pc1 := 10) (tgt := 41) d_Law_looksAt_7 (by decide) rfl (fun h47 => ?_) (fun h47 => ?_)
      · refine g_iconst (pc1 := 42) (v := 0) d_Law_looksAt_41 rfl (by decide) ?_
        refine g_ireturn (Or.inr ⟨rfl, rfl⟩) d_Law_looksAt_42 rfl ?_
        exact hQ _ (Or.inl rfl)
      · refine g_iload_n (pc1 := 11) d_Law_looksAt_10 rfl 2 rfl ?_
        refine g_aload_n (pc1 := 12) d_Law_looksAt_11 rfl 0 rfl ?_
        refine g_getr (pc1 := 15) d_Law_looksAt_12 rfl ⟨_, fo_Law_11⟩ (shLw_0 hWl0) (ltLw_0 hWl0) (rfLw_0 ld hWl0) ?_
        refine g_alen (pc1 := 16) (v := 400) d_Law_looksAt_15 rfl (shLw_1 hWl0) (by decide) (by decide) (ltLw_1 hWl0) (by decide) ?_
        refine g_icmp_ge (pc1 := 19) (tgt := 41) d_Law_looksAt_16 (by decide) rfl (fun h48 => ?_) (fun h48 => ?_)
        · refine g_iconst (pc1 := 42) (v := 0) d_Law_looksAt_41 rfl (by decide) ?_
          refine g_ireturn (Or.inr ⟨rfl, rfl⟩) d_Law_looksAt_42 rfl ?_
          exact hQ _ (Or.inl rfl)
        · refine g_aload_n (pc1 := 20) d_Law_looksAt_19 rfl 0 rfl ?_
          refine g_getr (pc1 := 23) d_Law_looksAt_20 rfl ⟨_, fo_Law_11⟩ (shLw_0 hWl0) (ltLw_0 hWl0) (rfLw_0 ld hWl0) ?_
          refine g_iload_n (pc1 := 24) d_Law_looksAt_23 rfl 2 rfl ?_
          refine g_iald (pc1 := 25) d_Law_looksAt_24 rfl (shLw_1 hWl0) (ltLw_1 hWl0) (vin_of n46 h48 (by decide)) ?_
          refine g_sipush (pc1 := 28) (v := 10000) d_Law_looksAt_25 rfl (by decide) ?_
          refine g_iload_n (pc1 := 29) d_Law_looksAt_28 rfl 1 rfl ?_
          refine g_iadd (pc1 := 30) d_Law_looksAt_29 rfl ?_
          refine g_icmp_ne (pc1 := 33) (tgt := 35) d_Law_looksAt_30 (by decide) rfl (fun h49 => ?_) (fun h49 => ?_)
          · obtain ⟨x50, ex50⟩ : ∃ y : Int32, y = v45 + 1 := ⟨_, rfl⟩
            refine g_iinc (pc1 := 38) (v := x50) (lv' := [(0, .ref Wl0), (1, .int p1), (2, .int x50)]) d_Law_looksAt_35 rfl 2 rfl (by rw [ex50]; rfl) (by decide) [1, 2, 0] rfl ?_
            refine g_goto (tgt := 2) d_Law_looksAt_38 (by decide) ?_
            exact ih42 x50 (nn_up (y := (M Wl0 1)) h47 ex50 n46) (md_up h47 ex50 hm43)
          · refine g_iconst (pc1 := 34) (v := 1) d_Law_looksAt_33 rfl (by decide) ?_
            refine g_ireturn (Or.inr ⟨rfl, rfl⟩) d_Law_looksAt_34 rfl ?_
            exact hQ _ (Or.inr rfl)
  exact LP44 _ 0 (by decide) (Nat.lt_succ_self _)
set_option maxHeartbeats 4000000 in
set_option maxRecDepth 20000 in
theorem t1_Law_reckon {l : Launch} {ld : Nat} (hld : isLa ld) {M : gM} {L : gL} {Q : Option Value → gM → gL → gR → Prop} (p1 : Int32) (p2 : Int32) (p3 : Int32) (hQ : ∀ (r : Int32) , Q (some (.int r)) M L (rf ld)) : Tm l y_Law_reckon (0, 0, 447) 447 [.int p1, .int p2, .int p3] M L (rf ld) Q := by
  refine Tm.of (by decide) (Nat.le_of_ble_eq_true rfl) ?_
  show Wp l y_Law_reckon (0, 0, 447) 447 0 0 0 [(0, .int p1), (1, .int p2), (2, .int p3)] [] M L (rf ld) Q
  refine g_iload_n (pc1 := 1) d_Law_reckon_0 rfl 0 rfl ?_
  by_cases h51 : p1 = 42
  · refine g_tabK (tgt := 40) (off := 39) d_Law_reckon_1 h51 (by decide) (by decide) (by decide) (by decide) ?_
    refine g_iload_n (pc1 := 41) d_Law_reckon_40 rfl 1 rfl ?_
    refine g_iload_n (pc1 := 42) d_Law_reckon_41 rfl 2 rfl ?_
    refine g_imul (pc1 := 43) d_Law_reckon_42 rfl ?_
    refine g_ireturn (Or.inl rfl) d_Law_reckon_43 rfl ?_
    exact hQ _
  by_cases h52 : p1 = 43
  · refine g_tabK (tgt := 32) (off := 31) d_Law_reckon_1 h52 (by decide) (by decide) (by decide) (by decide) ?_
    refine g_iload_n (pc1 := 33) d_Law_reckon_32 rfl 1 rfl ?_
    refine g_iload_n (pc1 := 34) d_Law_reckon_33 rfl 2 rfl ?_
    refine g_iadd (pc1 := 35) d_Law_reckon_34 rfl ?_
    refine g_ireturn (Or.inl rfl) d_Law_reckon_35 rfl ?_
    exact hQ _
  by_cases h53 : p1 = 44
  · refine g_tabK (tgt := 44) (off := 43) d_Law_reckon_1 h53 (by decide) (by decide) (by decide) (by decide) ?_
    refine g_iload_n (pc1 := 45) d_Law_reckon_44 rfl 2 rfl ?_
    refine g_if_ne (pc1 := 48) (tgt := 52) d_Law_reckon_45 (by decide) rfl (fun h54 => ?_) (fun h54 => ?_)
    · refine g_iload_n (pc1 := 53) d_Law_reckon_52 rfl 1 rfl ?_
      refine g_iload_n (pc1 := 54) d_Law_reckon_53 rfl 2 rfl ?_
      refine g_idiv (pc1 := 55) d_Law_reckon_54 rfl h54 ?_
      refine g_ireturn (Or.inl rfl) d_Law_reckon_55 rfl ?_
      exact hQ _
    · refine g_iconst (pc1 := 49) (v := 0) d_Law_reckon_48 rfl (by decide) ?_
      refine g_goto (tgt := 55) d_Law_reckon_49 (by decide) ?_
      refine g_ireturn (Or.inl rfl) d_Law_reckon_55 rfl ?_
      exact hQ _
  by_cases h55 : p1 = 45
  · refine g_tabK (tgt := 36) (off := 35) d_Law_reckon_1 h55 (by decide) (by decide) (by decide) (by decide) ?_
    refine g_iload_n (pc1 := 37) d_Law_reckon_36 rfl 1 rfl ?_
    refine g_iload_n (pc1 := 38) d_Law_reckon_37 rfl 2 rfl ?_
    refine g_isub (pc1 := 39) d_Law_reckon_38 rfl ?_
    refine g_ireturn (Or.inl rfl) d_Law_reckon_39 rfl ?_
    exact hQ _
  refine g_tabOut (tgt := 44) d_Law_reckon_1 (by
    have nh51 := neT (a := 42) h51 (by decide)
    have nh52 := neT (a := 43) h52 (by decide)
    have nh53 := neT (a := 44) h53 (by decide)
    have nh55 := neT (a := 45) h55 (by decide)
    omega) (by decide) ?_
  refine g_iload_n (pc1 := 45) d_Law_reckon_44 rfl 2 rfl ?_
  refine g_if_ne (pc1 := 48) (tgt := 52) d_Law_reckon_45 (by decide) rfl (fun h56 => ?_) (fun h56 => ?_)
  · refine g_iload_n (pc1 := 53) d_Law_reckon_52 rfl 1 rfl ?_
    refine g_iload_n (pc1 := 54) d_Law_reckon_53 rfl 2 rfl ?_
    refine g_idiv (pc1 := 55) d_Law_reckon_54 rfl h56 ?_
    refine g_ireturn (Or.inl rfl) d_Law_reckon_55 rfl ?_
    exact hQ _
  · refine g_iconst (pc1 := 49) (v := 0) d_Law_reckon_48 rfl (by decide) ?_
    refine g_goto (tgt := 55) d_Law_reckon_49 (by decide) ?_
    refine g_ireturn (Or.inl rfl) d_Law_reckon_55 rfl ?_
    exact hQ _
set_option maxHeartbeats 4000000 in
set_option maxRecDepth 20000 in
theorem t1_MenuSearch_indexOf {l : Launch} {ld : Nat} (hld : isLa ld) {M : gM} {L : gL} {Q : Option Value → gM → gL → gR → Prop} (p1 : Int32) (p2 : Int32) (p3 : Int32) (hQ : ∀ (r : Int32) , Q (some (.int r)) M L (rf ld)) : Tm l y_MenuSearch_indexOf (0, 0, 447) 447 [.int p1, .int p2, .int p3] M L (rf ld) Q := by
  refine Tm.of (by decide) (Nat.le_of_ble_eq_true rfl) ?_
  show Wp l y_MenuSearch_indexOf (0, 0, 447) 447 0 0 0 [(0, .int p1), (1, .int p2), (2, .int p3)] [] M L (rf ld) Q
  refine g_iload_n (pc1 := 1) d_MenuSearch_indexOf_0 rfl 0 rfl ?_
  refine g_iconst (pc1 := 2) (v := 4) d_MenuSearch_indexOf_1 rfl (by decide) ?_
  refine g_imul (pc1 := 3) d_MenuSearch_indexOf_2 rfl ?_
  refine g_iload_n (pc1 := 4) d_MenuSearch_indexOf_3 rfl 1 rfl ?_
  refine g_iadd (pc1 := 5) d_MenuSearch_indexOf_4 rfl ?_
  refine g_iconst (pc1 := 6) (v := 5) d_MenuSearch_indexOf_5 rfl (by decide) ?_
  refine g_imul (pc1 := 7) d_MenuSearch_indexOf_6 rfl ?_
  refine g_iload_n (pc1 := 8) d_MenuSearch_indexOf_7 rfl 2 rfl ?_
  refine g_iadd (pc1 := 9) d_MenuSearch_indexOf_8 rfl ?_
  refine g_ireturn (Or.inl rfl) d_MenuSearch_indexOf_9 rfl ?_
  exact hQ _
set_option maxHeartbeats 4000000 in
set_option maxRecDepth 20000 in
theorem t1_Past_clear {l : Launch} {ld : Nat} (hld : isLa ld) {M : gM} {L : gL} {Q : Option Value → gM → gL → gR → Prop}  (hQ : ∀ (M' : gM) (L' : gL), Kp S1 M L M' L' → Q none M' L' (rf ld)) : Tm l y_Past_clear (0, 0, 447) 447 [.ref 78] M L (rf ld) Q := by
  refine Tm.of (by decide) (Nat.le_of_ble_eq_true rfl) ?_
  show Wp l y_Past_clear (0, 0, 447) 447 0 0 0 [(0, .ref 78)] [] M L (rf ld) Q
  refine g_aload_n (pc1 := 1) d_Past_clear_0 rfl 0 rfl ?_
  refine g_iconst (pc1 := 2) (v := 0) d_Past_clear_1 rfl (by decide) ?_
  refine g_puti (pc1 := 5) d_Past_clear_2 rfl fo_Past_18 (po_7_1 _) sh_78 (by decide) ?_
  refine Wp.topM (fun M57 eM57 => ?_)
  refine g_aload_n (pc1 := 6) d_Past_clear_5 rfl 0 rfl ?_
  refine g_iconst (pc1 := 7) (v := 0) d_Past_clear_6 rfl (by decide) ?_
  refine g_puti (pc1 := 10) d_Past_clear_7 rfl fo_Past_22 (po_7_2 _) sh_78 (by decide) ?_
  refine Wp.topM (fun M58 eM58 => ?_)
  refine g_return rfl d_Past_clear_10 rfl ?_
  exact hQ _ _ (Kp.wM (Kp.wM Kp.rf rfl eM57) rfl eM58)
set_option maxHeartbeats 4000000 in
set_option maxRecDepth 20000 in
theorem t1_Reader_indexOf {l : Launch} {ld : Nat} (hld : isLa ld) {M : gM} {L : gL} {Q : Option Value → gM → gL → gR → Prop} (p1 : Int64) (hQ : ∀ (r : Int32) , Q (some (.int r)) M L (rf ld)) : Tm l y_Reader_indexOf (0, 0, 447) 447 [.ref 3, .long p1] M L (rf ld) Q := by
  refine Tm.of (by decide) (Nat.le_of_ble_eq_true rfl) ?_
  show Wp l y_Reader_indexOf (0, 0, 447) 447 0 0 0 [(0, .ref 3), (1, .long p1)] [] M L (rf ld) Q
  refine g_iconst (pc1 := 1) (v := 0) d_Reader_indexOf_0 rfl (by decide) ?_
  refine g_istore_n (pc1 := 2) (lv' := [(0, .ref 3), (1, .long p1), (3, .int 0)]) d_Reader_indexOf_1 rfl rfl (by decide) [1, 2, 0] rfl ?_
  have LP62 : ∀ (f59 : Nat) (v63 : Int32), ¬ v63 < 0 → ((M 3 8).toInt - v63.toInt).toNat < f59 → Wp l y_Reader_indexOf (0, 0, 447) 447 0 0 2 [(0, .ref 3), (1, .long p1), (3, .int v63)] [] M L (rf ld) Q := by
    intro f59
    induction f59 with
    | zero => intro v63 _ hm61; exact absurd hm61 (Nat.not_lt_zero _)
    | succ f59 ih60 =>
      intro v63 n64 hm61
      refine g_iload_n (pc1 := 3) d_Reader_indexOf_2 rfl 2 rfl ?_
      refine g_aload_n (pc1 := 4) d_Reader_indexOf_3 rfl 0 rfl ?_
      refine g_geti (pc1 := 7) d_Reader_indexOf_4 rfl ⟨_, fo_Reader_48⟩ sh_3 (by decide) ?_
      refine g_icmp_ge (pc1 := 10) (tgt := 38) d_Reader_indexOf_7 (by decide) rfl (fun h65 => ?_) (fun h65 => ?_)
      · refine g_iconst (pc1 := 39) (v := (-1)) d_Reader_indexOf_38 rfl (by decide) ?_
        refine g_ireturn (Or.inl rfl) d_Reader_indexOf_39 rfl ?_
        exact hQ _
      · refine g_iload_n (pc1 := 11) d_Reader_indexOf_10 rfl 2 rfl ?_
        refine g_aload_n (pc1 := 12) d_Reader_indexOf_11 rfl 0 rfl ?_
        refine g_getr (pc1 := 15) d_Reader_indexOf_12 rfl ⟨_, fo_Reader_18⟩ sh_3 (by decide) (rf_3_6 ld) ?_
        refine g_alen (pc1 := 16) (v := 21) d_Reader_indexOf_15 rfl sh_9 (by decide) (by decide) (by decide) (by decide) ?_
        refine g_icmp_ge (pc1 := 19) (tgt := 38) d_Reader_indexOf_16 (by decide) rfl (fun h66 => ?_) (fun h66 => ?_)
        · refine g_iconst (pc1 := 39) (v := (-1)) d_Reader_indexOf_38 rfl (by decide) ?_
          refine g_ireturn (Or.inl rfl) d_Reader_indexOf_39 rfl ?_
          exact hQ _
        · refine g_aload_n (pc1 := 20) d_Reader_indexOf_19 rfl 0 rfl ?_
          refine g_getr (pc1 := 23) d_Reader_indexOf_20 rfl ⟨_, fo_Reader_18⟩ sh_3 (by decide) (rf_3_6 ld) ?_
          refine g_iload_n (pc1 := 24) d_Reader_indexOf_23 rfl 2 rfl ?_
          refine g_lald (pc1 := 25) d_Reader_indexOf_24 rfl sh_9 (by decide) (vin_of n64 h66 (by decide)) ?_
          refine g_lload_n (pc1 := 26) d_Reader_indexOf_25 rfl 1 rfl ?_
          refine g_lcmp (pc1 := 27) d_Reader_indexOf_26 rfl ?_
          refine g_if_ne (pc1 := 30) (tgt := 32) d_Reader_indexOf_27 (by decide) rfl (fun h67 => ?_) (fun h67 => ?_)
          · obtain ⟨x68, ex68⟩ : ∃ y : Int32, y = v63 + 1 := ⟨_, rfl⟩
            refine g_iinc (pc1 := 35) (v := x68) (lv' := [(0, .ref 3), (1, .long p1), (3, .int x68)]) d_Reader_indexOf_32 rfl 2 rfl (by rw [ex68]; rfl) (by decide) [1, 2, 0] rfl ?_
            refine g_goto (tgt := 2) d_Reader_indexOf_35 (by decide) ?_
            exact ih60 x68 (nn_up (y := (M 3 8)) h65 ex68 n64) (md_up h65 ex68 hm61)
          · refine g_iload_n (pc1 := 31) d_Reader_indexOf_30 rfl 2 rfl ?_
            refine g_ireturn (Or.inl rfl) d_Reader_indexOf_31 rfl ?_
            exact hQ _
  exact LP62 _ 0 (by decide) (Nat.lt_succ_self _)
set_option maxHeartbeats 4000000 in
set_option maxRecDepth 20000 in
theorem t1_Reader_rank {l : Launch} {ld : Nat} (hld : isLa ld) {M : gM} {L : gL} {Q : Option Value → gM → gL → gR → Prop} (p1 : Int32) (hQ : ∀ (r : Int32) , Q (some (.int r)) M L (rf ld)) : Tm l y_Reader_rank (0, 0, 447) 447 [.int p1] M L (rf ld) Q := by
  refine Tm.of (by decide) (Nat.le_of_ble_eq_true rfl) ?_
  show Wp l y_Reader_rank (0, 0, 447) 447 0 0 0 [(0, .int p1)] [] M L (rf ld) Q
  refine g_iload_n (pc1 := 1) d_Reader_rank_0 rfl 0 rfl ?_
  refine g_bipush (pc1 := 3) (v := 42) d_Reader_rank_1 rfl (by decide) ?_
  refine g_icmp_eq (pc1 := 6) (tgt := 12) d_Reader_rank_3 (by decide) rfl (fun h69 => ?_) (fun h69 => ?_)
  · refine g_iconst (pc1 := 13) (v := 2) d_Reader_rank_12 rfl (by decide) ?_
    refine g_ireturn (Or.inl rfl) d_Reader_rank_13 rfl ?_
    exact hQ _
  · refine g_iload_n (pc1 := 7) d_Reader_rank_6 rfl 0 rfl ?_
    refine g_bipush (pc1 := 9) (v := 47) d_Reader_rank_7 rfl (by decide) ?_
    refine g_icmp_ne (pc1 := 12) (tgt := 14) d_Reader_rank_9 (by decide) rfl (fun h70 => ?_) (fun h70 => ?_)
    · refine g_iload_n (pc1 := 15) d_Reader_rank_14 rfl 0 rfl ?_
      refine g_bipush (pc1 := 17) (v := 43) d_Reader_rank_15 rfl (by decide) ?_
      refine g_icmp_eq (pc1 := 20) (tgt := 26) d_Reader_rank_17 (by decide) rfl (fun h71 => ?_) (fun h71 => ?_)
      · refine g_iconst (pc1 := 27) (v := 1) d_Reader_rank_26 rfl (by decide) ?_
        refine g_goto (tgt := 31) d_Reader_rank_27 (by decide) ?_
        refine g_ireturn (Or.inl rfl) d_Reader_rank_31 rfl ?_
        exact hQ _
      · refine g_iload_n (pc1 := 21) d_Reader_rank_20 rfl 0 rfl ?_
        refine g_bipush (pc1 := 23) (v := 45) d_Reader_rank_21 rfl (by decide) ?_
        refine g_icmp_ne (pc1 := 26) (tgt := 30) d_Reader_rank_23 (by decide) rfl (fun h72 => ?_) (fun h72 => ?_)
        · refine g_iconst (pc1 := 31) (v := 0) d_Reader_rank_30 rfl (by decide) ?_
          refine g_ireturn (Or.inl rfl) d_Reader_rank_31 rfl ?_
          exact hQ _
        · refine g_iconst (pc1 := 27) (v := 1) d_Reader_rank_26 rfl (by decide) ?_
          refine g_goto (tgt := 31) d_Reader_rank_27 (by decide) ?_
          refine g_ireturn (Or.inl rfl) d_Reader_rank_31 rfl ?_
          exact hQ _
    · refine g_iconst (pc1 := 13) (v := 2) d_Reader_rank_12 rfl (by decide) ?_
      refine g_ireturn (Or.inl rfl) d_Reader_rank_13 rfl ?_
      exact hQ _
set_option maxHeartbeats 4000000 in
set_option maxRecDepth 20000 in
theorem t1_Reader_stop {l : Launch} {ld : Nat} (hld : isLa ld) {M : gM} {L : gL} {Q : Option Value → gM → gL → gR → Prop} (p1 : Int32) (hQ : ∀ (M' : gM) (L' : gL), Kp S2 M L M' L' → Q none M' L' (rf ld)) : Tm l y_Reader_stop (0, 0, 447) 447 [.ref 3, .int p1] M L (rf ld) Q := by
  refine Tm.of (by decide) (Nat.le_of_ble_eq_true rfl) ?_
  show Wp l y_Reader_stop (0, 0, 447) 447 0 0 0 [(0, .ref 3), (1, .int p1)] [] M L (rf ld) Q
  refine g_aload_n (pc1 := 1) d_Reader_stop_0 rfl 0 rfl ?_
  refine g_geti (pc1 := 4) d_Reader_stop_1 rfl ⟨_, fo_Reader_42⟩ sh_3 (by decide) ?_
  refine g_if_ne (pc1 := 7) (tgt := 20) d_Reader_stop_4 (by decide) rfl (fun h73 => ?_) (fun h73 => ?_)
  · refine g_return rfl d_Reader_stop_20 rfl ?_
    exact hQ _ _ Kp.rf
  · refine g_aload_n (pc1 := 8) d_Reader_stop_7 rfl 0 rfl ?_
    refine g_iload_n (pc1 := 9) d_Reader_stop_8 rfl 1 rfl ?_
    refine g_puti (pc1 := 12) d_Reader_stop_9 rfl fo_Reader_42 (po_2_2 _) sh_3 (by decide) ?_
    refine Wp.topM (fun M74 eM74 => ?_)
    refine g_aload_n (pc1 := 13) d_Reader_stop_12 rfl 0 rfl ?_
    refine g_aload_n (pc1 := 14) d_Reader_stop_13 rfl 0 rfl ?_
    refine g_geti (pc1 := 17) d_Reader_stop_14 rfl ⟨_, fo_Reader_38⟩ sh_3 (by decide) ?_
    refine g_puti (pc1 := 20) d_Reader_stop_17 rfl fo_Reader_102 (po_2_3 _) sh_3 (by decide) ?_
    refine Wp.topM (fun M75 eM75 => ?_)
    refine g_return rfl d_Reader_stop_20 rfl ?_
    exact hQ _ _ (Kp.wM (Kp.wM Kp.rf rfl eM74) rfl eM75)
set_option maxHeartbeats 4000000 in
set_option maxRecDepth 20000 in
theorem t1_Reader_stopLate {l : Launch} {ld : Nat} (hld : isLa ld) {M : gM} {L : gL} {Q : Option Value → gM → gL → gR → Prop} (p1 : Int32) (hQ : ∀ (M' : gM) (L' : gL), Kp S2 M L M' L' → Q none M' L' (rf ld)) : Tm l y_Reader_stopLate (0, 0, 447) 447 [.ref 3, .int p1] M L (rf ld) Q := by
  refine Tm.of (by decide) (Nat.le_of_ble_eq_true rfl) ?_
  show Wp l y_Reader_stopLate (0, 0, 447) 447 0 0 0 [(0, .ref 3), (1, .int p1)] [] M L (rf ld) Q
  refine g_aload_n (pc1 := 1) d_Reader_stopLate_0 rfl 0 rfl ?_
  refine g_geti (pc1 := 4) d_Reader_stopLate_1 rfl ⟨_, fo_Reader_45⟩ sh_3 (by decide) ?_
  refine g_if_ne (pc1 := 7) (tgt := 20) d_Reader_stopLate_4 (by decide) rfl (fun h76 => ?_) (fun h76 => ?_)
  · refine g_return rfl d_Reader_stopLate_20 rfl ?_
    exact hQ _ _ Kp.rf
  · refine g_aload_n (pc1 := 8) d_Reader_stopLate_7 rfl 0 rfl ?_
    refine g_iload_n (pc1 := 9) d_Reader_stopLate_8 rfl 1 rfl ?_
    refine g_puti (pc1 := 12) d_Reader_stopLate_9 rfl fo_Reader_45 (po_2_4 _) sh_3 (by decide) ?_
    refine Wp.topM (fun M77 eM77 => ?_)
    refine g_aload_n (pc1 := 13) d_Reader_stopLate_12 rfl 0 rfl ?_
    refine g_aload_n (pc1 := 14) d_Reader_stopLate_13 rfl 0 rfl ?_
    refine g_geti (pc1 := 17) d_Reader_stopLate_14 rfl ⟨_, fo_Reader_38⟩ sh_3 (by decide) ?_
    refine g_puti (pc1 := 20) d_Reader_stopLate_17 rfl fo_Reader_99 (po_2_5 _) sh_3 (by decide) ?_
    refine Wp.topM (fun M78 eM78 => ?_)
    refine g_return rfl d_Reader_stopLate_20 rfl ?_
    exact hQ _ _ (Kp.wM (Kp.wM Kp.rf rfl eM77) rfl eM78)
set_option maxHeartbeats 4000000 in
set_option maxRecDepth 20000 in
theorem t1_Slots_clear {l : Launch} {ld : Nat} (hld : isLa ld) {M : gM} {L : gL} {Q : Option Value → gM → gL → gR → Prop}  (hQ : ∀ (M' : gM) (L' : gL), Kp S1 M L M' L' → Q none M' L' (rf ld)) : Tm l y_Slots_clear (0, 0, 447) 447 [.ref 360] M L (rf ld) Q := by
  refine Tm.of (by decide) (Nat.le_of_ble_eq_true rfl) ?_
  show Wp l y_Slots_clear (0, 0, 447) 447 0 0 0 [(0, .ref 360)] [] M L (rf ld) Q
  refine g_aload_n (pc1 := 1) d_Slots_clear_0 rfl 0 rfl ?_
  refine g_iconst (pc1 := 2) (v := 0) d_Slots_clear_1 rfl (by decide) ?_
  refine g_puti (pc1 := 5) d_Slots_clear_2 rfl fo_Slots_18 (po_8_1 _) sh_360 (by decide) ?_
  refine Wp.topM (fun M79 eM79 => ?_)
  refine g_return rfl d_Slots_clear_5 rfl ?_
  exact hQ _ _ (Kp.wM Kp.rf rfl eM79)
set_option maxHeartbeats 4000000 in
set_option maxRecDepth 20000 in
theorem t1_Tape_byteAt {l : Launch} {ld : Nat} (hld : isLa ld) {M : gM} {L : gL} {Q : Option Value → gM → gL → gR → Prop} (p1 : Int32) (hQ : ∀ (r : Int32) , Q (some (.int r)) M L (rf ld)) : Tm l y_Tape_byteAt (0, 0, 447) 447 [.ref 1, .int p1] M L (rf ld) Q := by
  refine Tm.of (by decide) (Nat.le_of_ble_eq_true rfl) ?_
  show Wp l y_Tape_byteAt (0, 0, 447) 447 0 0 0 [(0, .ref 1), (1, .int p1)] [] M L (rf ld) Q
  refine g_iload_n (pc1 := 1) d_Tape_byteAt_0 rfl 1 rfl ?_
  refine g_if_lt (pc1 := 4) (tgt := 30) d_Tape_byteAt_1 (by decide) rfl (fun h80 => ?_) (fun h80 => ?_)
  · refine g_iconst (pc1 := 31) (v := (-1)) d_Tape_byteAt_30 rfl (by decide) ?_
    refine g_ireturn (Or.inl rfl) d_Tape_byteAt_31 rfl ?_
    exact hQ _
  · refine g_iload_n (pc1 := 5) d_Tape_byteAt_4 rfl 1 rfl ?_
    refine g_aload_n (pc1 := 6) d_Tape_byteAt_5 rfl 0 rfl ?_
    refine g_geti (pc1 := 9) d_Tape_byteAt_6 rfl ⟨_, fo_Tape_15⟩ sh_1 (by decide) ?_
    refine g_icmp_ge (pc1 := 12) (tgt := 30) d_Tape_byteAt_9 (by decide) rfl (fun h81 => ?_) (fun h81 => ?_)
    · refine g_iconst (pc1 := 31) (v := (-1)) d_Tape_byteAt_30 rfl (by decide) ?_
      refine g_ireturn (Or.inl rfl) d_Tape_byteAt_31 rfl ?_
      exact hQ _
    · refine g_iload_n (pc1 := 13) d_Tape_byteAt_12 rfl 1 rfl ?_
      refine g_aload_n (pc1 := 14) d_Tape_byteAt_13 rfl 0 rfl ?_
      refine g_getr (pc1 := 17) d_Tape_byteAt_14 rfl ⟨_, fo_Tape_9⟩ sh_1 (by decide) (rf_1_0 ld) ?_
      refine g_alen (pc1 := 18) (v := 2000) d_Tape_byteAt_17 rfl sh_2 (by decide) (by decide) (by decide) (by decide) ?_
      refine g_icmp_ge (pc1 := 21) (tgt := 30) d_Tape_byteAt_18 (by decide) rfl (fun h82 => ?_) (fun h82 => ?_)
      · refine g_iconst (pc1 := 31) (v := (-1)) d_Tape_byteAt_30 rfl (by decide) ?_
        refine g_ireturn (Or.inl rfl) d_Tape_byteAt_31 rfl ?_
        exact hQ _
      · refine g_aload_n (pc1 := 22) d_Tape_byteAt_21 rfl 0 rfl ?_
        refine g_getr (pc1 := 25) d_Tape_byteAt_22 rfl ⟨_, fo_Tape_9⟩ sh_1 (by decide) (rf_1_0 ld) ?_
        refine g_iload_n (pc1 := 26) d_Tape_byteAt_25 rfl 1 rfl ?_
        refine g_iald (pc1 := 27) d_Tape_byteAt_26 rfl sh_2 (by decide) (vin_of h80 h82 (by decide)) ?_
        refine g_goto (tgt := 31) d_Tape_byteAt_27 (by decide) ?_
        refine g_ireturn (Or.inl rfl) d_Tape_byteAt_31 rfl ?_
        exact hQ _
set_option maxHeartbeats 4000000 in
set_option maxRecDepth 20000 in
theorem t1_Tokens_isBlank {l : Launch} {ld : Nat} (hld : isLa ld) {M : gM} {L : gL} {Q : Option Value → gM → gL → gR → Prop} (p1 : Int32) (hQ : ∀ (r : Int32) , (r = 0 ∨ r = 1) → Q (some (.int r)) M L (rf ld)) : Tm l y_Tokens_isBlank (0, 0, 447) 447 [.int p1] M L (rf ld) Q := by
  refine Tm.of (by decide) (Nat.le_of_ble_eq_true rfl) ?_
  show Wp l y_Tokens_isBlank (0, 0, 447) 447 0 0 0 [(0, .int p1)] [] M L (rf ld) Q
  refine g_iload_n (pc1 := 1) d_Tokens_isBlank_0 rfl 0 rfl ?_
  refine g_bipush (pc1 := 3) (v := 9) d_Tokens_isBlank_1 rfl (by decide) ?_
  refine g_icmp_eq (pc1 := 6) (tgt := 24) d_Tokens_isBlank_3 (by decide) rfl (fun h83 => ?_) (fun h83 => ?_)
  · refine g_iconst (pc1 := 25) (v := 1) d_Tokens_isBlank_24 rfl (by decide) ?_
    refine g_goto (tgt := 29) d_Tokens_isBlank_25 (by decide) ?_
    refine g_ireturn (Or.inr ⟨rfl, rfl⟩) d_Tokens_isBlank_29 rfl ?_
    exact hQ _ (Or.inr rfl)
  · refine g_iload_n (pc1 := 7) d_Tokens_isBlank_6 rfl 0 rfl ?_
    refine g_bipush (pc1 := 9) (v := 10) d_Tokens_isBlank_7 rfl (by decide) ?_
    refine g_icmp_eq (pc1 := 12) (tgt := 24) d_Tokens_isBlank_9 (by decide) rfl (fun h84 => ?_) (fun h84 => ?_)
    · refine g_iconst (pc1 := 25) (v := 1) d_Tokens_isBlank_24 rfl (by decide) ?_
      refine g_goto (tgt := 29) d_Tokens_isBlank_25 (by decide) ?_
      refine g_ireturn (Or.inr ⟨rfl, rfl⟩) d_Tokens_isBlank_29 rfl ?_
      exact hQ _ (Or.inr rfl)
    · refine g_iload_n (pc1 := 13) d_Tokens_isBlank_12 rfl 0 rfl ?_
      refine g_bipush (pc1 := 15) (v := 13) d_Tokens_isBlank_13 rfl (by decide) ?_
      refine g_icmp_eq (pc1 := 18) (tgt := 24) d_Tokens_isBlank_15 (by decide) rfl (fun h85 => ?_) (fun h85 => ?_)
      · refine g_iconst (pc1 := 25) (v := 1) d_Tokens_isBlank_24 rfl (by decide) ?_
        refine g_goto (tgt := 29) d_Tokens_isBlank_25 (by decide) ?_
        refine g_ireturn (Or.inr ⟨rfl, rfl⟩) d_Tokens_isBlank_29 rfl ?_
        exact hQ _ (Or.inr rfl)
      · refine g_iload_n (pc1 := 19) d_Tokens_isBlank_18 rfl 0 rfl ?_
        refine g_bipush (pc1 := 21) (v := 32) d_Tokens_isBlank_19 rfl (by decide) ?_
        refine g_icmp_ne (pc1 := 24) (tgt := 28) d_Tokens_isBlank_21 (by decide) rfl (fun h86 => ?_) (fun h86 => ?_)
        · refine g_iconst (pc1 := 29) (v := 0) d_Tokens_isBlank_28 rfl (by decide) ?_
          refine g_ireturn (Or.inr ⟨rfl, rfl⟩) d_Tokens_isBlank_29 rfl ?_
          exact hQ _ (Or.inl rfl)
        · refine g_iconst (pc1 := 25) (v := 1) d_Tokens_isBlank_24 rfl (by decide) ?_
          refine g_goto (tgt := 29) d_Tokens_isBlank_25 (by decide) ?_
          refine g_ireturn (Or.inr ⟨rfl, rfl⟩) d_Tokens_isBlank_29 rfl ?_
          exact hQ _ (Or.inr rfl)
set_option maxHeartbeats 4000000 in
set_option maxRecDepth 20000 in
theorem t1_Tokens_isSign {l : Launch} {ld : Nat} (hld : isLa ld) {M : gM} {L : gL} {Q : Option Value → gM → gL → gR → Prop} (p1 : Int32) (hQ : ∀ (r : Int32) , (r = 0 ∨ r = 1) → Q (some (.int r)) M L (rf ld)) : Tm l y_Tokens_isSign (0, 0, 447) 447 [.int p1] M L (rf ld) Q := by
  refine Tm.of (by decide) (Nat.le_of_ble_eq_true rfl) ?_
  show Wp l y_Tokens_isSign (0, 0, 447) 447 0 0 0 [(0, .int p1)] [] M L (rf ld) Q
  refine g_iload_n (pc1 := 1) d_Tokens_isSign_0 rfl 0 rfl ?_
  refine g_bipush (pc1 := 3) (v := 59) d_Tokens_isSign_1 rfl (by decide) ?_
  refine g_icmp_eq (pc1 := 6) (tgt := 54) d_Tokens_isSign_3 (by decide) rfl (fun h87 => ?_) (fun h87 => ?_)
  · refine g_iconst (pc1 := 55) (v := 1) d_Tokens_isSign_54 rfl (by decide) ?_
    refine g_goto (tgt := 59) d_Tokens_isSign_55 (by decide) ?_
    refine g_ireturn (Or.inr ⟨rfl, rfl⟩) d_Tokens_isSign_59 rfl ?_
    exact hQ _ (Or.inr rfl)
  · refine g_iload_n (pc1 := 7) d_Tokens_isSign_6 rfl 0 rfl ?_
    refine g_bipush (pc1 := 9) (v := 61) d_Tokens_isSign_7 rfl (by decide) ?_
    refine g_icmp_eq (pc1 := 12) (tgt := 54) d_Tokens_isSign_9 (by decide) rfl (fun h88 => ?_) (fun h88 => ?_)
    · refine g_iconst (pc1 := 55) (v := 1) d_Tokens_isSign_54 rfl (by decide) ?_
      refine g_goto (tgt := 59) d_Tokens_isSign_55 (by decide) ?_
      refine g_ireturn (Or.inr ⟨rfl, rfl⟩) d_Tokens_isSign_59 rfl ?_
      exact hQ _ (Or.inr rfl)
    · refine g_iload_n (pc1 := 13) d_Tokens_isSign_12 rfl 0 rfl ?_
      refine g_bipush (pc1 := 15) (v := 43) d_Tokens_isSign_13 rfl (by decide) ?_
      refine g_icmp_eq (pc1 := 18) (tgt := 54) d_Tokens_isSign_15 (by decide) rfl (fun h89 => ?_) (fun h89 => ?_)
      · refine g_iconst (pc1 := 55) (v := 1) d_Tokens_isSign_54 rfl (by decide) ?_
        refine g_goto (tgt := 59) d_Tokens_isSign_55 (by decide) ?_
        refine g_ireturn (Or.inr ⟨rfl, rfl⟩) d_Tokens_isSign_59 rfl ?_
        exact hQ _ (Or.inr rfl)
      · refine g_iload_n (pc1 := 19) d_Tokens_isSign_18 rfl 0 rfl ?_
        refine g_bipush (pc1 := 21) (v := 45) d_Tokens_isSign_19 rfl (by decide) ?_
        refine g_icmp_eq (pc1 := 24) (tgt := 54) d_Tokens_isSign_21 (by decide) rfl (fun h90 => ?_) (fun h90 => ?_)
        · refine g_iconst (pc1 := 55) (v := 1) d_Tokens_isSign_54 rfl (by decide) ?_
          refine g_goto (tgt := 59) d_Tokens_isSign_55 (by decide) ?_
          refine g_ireturn (Or.inr ⟨rfl, rfl⟩) d_Tokens_isSign_59 rfl ?_
          exact hQ _ (Or.inr rfl)
        · refine g_iload_n (pc1 := 25) d_Tokens_isSign_24 rfl 0 rfl ?_
          refine g_bipush (pc1 := 27) (v := 42) d_Tokens_isSign_25 rfl (by decide) ?_
          refine g_icmp_eq (pc1 := 30) (tgt := 54) d_Tokens_isSign_27 (by decide) rfl (fun h91 => ?_) (fun h91 => ?_)
          · refine g_iconst (pc1 := 55) (v := 1) d_Tokens_isSign_54 rfl (by decide) ?_
            refine g_goto (tgt := 59) d_Tokens_isSign_55 (by decide) ?_
            refine g_ireturn (Or.inr ⟨rfl, rfl⟩) d_Tokens_isSign_59 rfl ?_
            exact hQ _ (Or.inr rfl)
          · refine g_iload_n (pc1 := 31) d_Tokens_isSign_30 rfl 0 rfl ?_
            refine g_bipush (pc1 := 33) (v := 47) d_Tokens_isSign_31 rfl (by decide) ?_
            refine g_icmp_eq (pc1 := 36) (tgt := 54) d_Tokens_isSign_33 (by decide) rfl (fun h92 => ?_) (fun h92 => ?_)
            · refine g_iconst (pc1 := 55) (v := 1) d_Tokens_isSign_54 rfl (by decide) ?_
              refine g_goto (tgt := 59) d_Tokens_isSign_55 (by decide) ?_
              refine g_ireturn (Or.inr ⟨rfl, rfl⟩) d_Tokens_isSign_59 rfl ?_
              exact hQ _ (Or.inr rfl)
            · refine g_iload_n (pc1 := 37) d_Tokens_isSign_36 rfl 0 rfl ?_
              refine g_bipush (pc1 := 39) (v := 60) d_Tokens_isSign_37 rfl (by decide) ?_
              refine g_icmp_eq (pc1 := 42) (tgt := 54) d_Tokens_isSign_39 (by decide) rfl (fun h93 => ?_) (fun h93 => ?_)
              · refine g_iconst (pc1 := 55) (v := 1) d_Tokens_isSign_54 rfl (by decide) ?_
                refine g_goto (tgt := 59) d_Tokens_isSign_55 (by decide) ?_
                refine g_ireturn (Or.inr ⟨rfl, rfl⟩) d_Tokens_isSign_59 rfl ?_
                exact hQ _ (Or.inr rfl)
              · refine g_iload_n (pc1 := 43) d_Tokens_isSign_42 rfl 0 rfl ?_
                refine g_bipush (pc1 := 45) (v := 40) d_Tokens_isSign_43 rfl (by decide) ?_
                refine g_icmp_eq (pc1 := 48) (tgt := 54) d_Tokens_isSign_45 (by decide) rfl (fun h94 => ?_) (fun h94 => ?_)
                · refine g_iconst (pc1 := 55) (v := 1) d_Tokens_isSign_54 rfl (by decide) ?_
                  refine g_goto (tgt := 59) d_Tokens_isSign_55 (by decide) ?_
                  refine g_ireturn (Or.inr ⟨rfl, rfl⟩) d_Tokens_isSign_59 rfl ?_
                  exact hQ _ (Or.inr rfl)
                · refine g_iload_n (pc1 := 49) d_Tokens_isSign_48 rfl 0 rfl ?_
                  refine g_bipush (pc1 := 51) (v := 41) d_Tokens_isSign_49 rfl (by decide) ?_
                  refine g_icmp_ne (pc1 := 54) (tgt := 58) d_Tokens_isSign_51 (by decide) rfl (fun h95 => ?_) (fun h95 => ?_)
                  · refine g_iconst (pc1 := 59) (v := 0) d_Tokens_isSign_58 rfl (by decide) ?_
                    refine g_ireturn (Or.inr ⟨rfl, rfl⟩) d_Tokens_isSign_59 rfl ?_
                    exact hQ _ (Or.inl rfl)
                  · refine g_iconst (pc1 := 55) (v := 1) d_Tokens_isSign_54 rfl (by decide) ?_
                    refine g_goto (tgt := 59) d_Tokens_isSign_55 (by decide) ?_
                    refine g_ireturn (Or.inr ⟨rfl, rfl⟩) d_Tokens_isSign_59 rfl ?_
                    exact hQ _ (Or.inr rfl)
set_option maxHeartbeats 4000000 in
set_option maxRecDepth 20000 in
theorem t1_Tokens_kindOf {l : Launch} {ld : Nat} (hld : isLa ld) {M : gM} {L : gL} {Q : Option Value → gM → gL → gR → Prop} (p1 : Int64) (hQ : ∀ (r : Int32) , Q (some (.int r)) M L (rf ld)) : Tm l y_Tokens_kindOf (0, 0, 447) 447 [.ref 4, .long p1] M L (rf ld) Q := by
  refine Tm.of (by decide) (Nat.le_of_ble_eq_true rfl) ?_
  show Wp l y_Tokens_kindOf (0, 0, 447) 447 0 0 0 [(0, .ref 4), (1, .long p1)] [] M L (rf ld) Q
  refine g_iconst (pc1 := 1) (v := 0) d_Tokens_kindOf_0 rfl (by decide) ?_
  refine g_istore_n (pc1 := 2) (lv' := [(0, .ref 4), (1, .long p1), (3, .int 0)]) d_Tokens_kindOf_1 rfl rfl (by decide) [1, 2, 0] rfl ?_
  have LP99 : ∀ (f96 : Nat) (v100 : Int32), ¬ v100 < 0 → ((21 : Int32).toInt - v100.toInt).toNat < f96 → Wp l y_Tokens_kindOf (0, 0, 447) 447 0 0 2 [(0, .ref 4), (1, .long p1), (3, .int v100)] [] M L (rf ld) Q := by
    intro f96
    induction f96 with
    | zero => intro v100 _ hm98; exact absurd hm98 (Nat.not_lt_zero _)
    | succ f96 ih97 =>
      intro v100 n101 hm98
      refine g_iload_n (pc1 := 3) d_Tokens_kindOf_2 rfl 2 rfl ?_
      refine g_aload_n (pc1 := 4) d_Tokens_kindOf_3 rfl 0 rfl ?_
      refine g_getr (pc1 := 7) d_Tokens_kindOf_4 rfl ⟨_, fo_Tokens_9⟩ sh_4 (by decide) (rf_4_0 ld) ?_
      refine g_alen (pc1 := 8) (v := 21) d_Tokens_kindOf_7 rfl sh_5 (by decide) (by decide) (by decide) (by decide) ?_
      refine g_icmp_ge (pc1 := 11) (tgt := 34) d_Tokens_kindOf_8 (by decide) rfl (fun h102 => ?_) (fun h102 => ?_)
      · refine g_iconst (pc1 := 35) (v := 2) d_Tokens_kindOf_34 rfl (by decide) ?_
        refine g_ireturn (Or.inl rfl) d_Tokens_kindOf_35 rfl ?_
        exact hQ _
      · refine g_aload_n (pc1 := 12) d_Tokens_kindOf_11 rfl 0 rfl ?_
        refine g_getr (pc1 := 15) d_Tokens_kindOf_12 rfl ⟨_, fo_Tokens_9⟩ sh_4 (by decide) (rf_4_0 ld) ?_
        refine g_iload_n (pc1 := 16) d_Tokens_kindOf_15 rfl 2 rfl ?_
        refine g_lald (pc1 := 17) d_Tokens_kindOf_16 rfl sh_5 (by decide) (vin_of n101 h102 (by decide)) ?_
        refine g_lload_n (pc1 := 18) d_Tokens_kindOf_17 rfl 1 rfl ?_
        refine g_lcmp (pc1 := 19) d_Tokens_kindOf_18 rfl ?_
        refine g_if_ne (pc1 := 22) (tgt := 28) d_Tokens_kindOf_19 (by decide) rfl (fun h103 => ?_) (fun h103 => ?_)
        · obtain ⟨x104, ex104⟩ : ∃ y : Int32, y = v100 + 1 := ⟨_, rfl⟩
          refine g_iinc (pc1 := 31) (v := x104) (lv' := [(0, .ref 4), (1, .long p1), (3, .int x104)]) d_Tokens_kindOf_28 rfl 2 rfl (by rw [ex104]; rfl) (by decide) [1, 2, 0] rfl ?_
          refine g_goto (tgt := 2) d_Tokens_kindOf_31 (by decide) ?_
          exact ih97 x104 (nn_up (y := (21 : Int32)) h102 ex104 n101) (md_up h102 ex104 hm98)
        · refine g_sipush (pc1 := 25) (v := 128) d_Tokens_kindOf_22 rfl (by decide) ?_
          refine g_iload_n (pc1 := 26) d_Tokens_kindOf_25 rfl 2 rfl ?_
          refine g_iadd (pc1 := 27) d_Tokens_kindOf_26 rfl ?_
          refine g_ireturn (Or.inl rfl) d_Tokens_kindOf_27 rfl ?_
          exact hQ _
  exact LP99 _ 0 (by decide) (Nat.lt_succ_self _)
set_option maxHeartbeats 4000000 in
set_option maxRecDepth 20000 in
theorem t1_Tokens_set {l : Launch} {ld : Nat} (hld : isLa ld) {M : gM} {L : gL} {Q : Option Value → gM → gL → gR → Prop} (p1 : Int32) (p2 : Int32) (p3 : Int64) (hQ : ∀ (M' : gM) (L' : gL), Kp S2 M L M' L' → Q none M' L' (rf ld)) : Tm l y_Tokens_set (0, 0, 447) 447 [.ref 4, .int p1, .int p2, .long p3] M L (rf ld) Q := by
  refine Tm.of (by decide) (Nat.le_of_ble_eq_true rfl) ?_
  show Wp l y_Tokens_set (0, 0, 447) 447 0 0 0 [(0, .ref 4), (1, .int p1), (2, .int p2), (3, .long p3)] [] M L (rf ld) Q
  refine g_iload_n (pc1 := 1) d_Tokens_set_0 rfl 1 rfl ?_
  refine g_if_lt (pc1 := 4) (tgt := 36) d_Tokens_set_1 (by decide) rfl (fun h105 => ?_) (fun h105 => ?_)
  · refine g_return rfl d_Tokens_set_36 rfl ?_
    exact hQ _ _ Kp.rf
  · refine g_iload_n (pc1 := 5) d_Tokens_set_4 rfl 1 rfl ?_
    refine g_aload_n (pc1 := 6) d_Tokens_set_5 rfl 0 rfl ?_
    refine g_getr (pc1 := 9) d_Tokens_set_6 rfl ⟨_, fo_Tokens_15⟩ sh_4 (by decide) (rf_4_1 ld) ?_
    refine g_alen (pc1 := 10) (v := 401) d_Tokens_set_9 rfl sh_6 (by decide) (by decide) (by decide) (by decide) ?_
    refine g_icmp_ge (pc1 := 13) (tgt := 36) d_Tokens_set_10 (by decide) rfl (fun h106 => ?_) (fun h106 => ?_)
    · refine g_return rfl d_Tokens_set_36 rfl ?_
      exact hQ _ _ Kp.rf
    · refine g_iload_n (pc1 := 14) d_Tokens_set_13 rfl 1 rfl ?_
      refine g_aload_n (pc1 := 15) d_Tokens_set_14 rfl 0 rfl ?_
      refine g_getr (pc1 := 18) d_Tokens_set_15 rfl ⟨_, fo_Tokens_22⟩ sh_4 (by decide) (rf_4_3 ld) ?_
      refine g_alen (pc1 := 19) (v := 401) d_Tokens_set_18 rfl sh_8 (by decide) (by decide) (by decide) (by decide) ?_
      refine g_icmp_ge (pc1 := 22) (tgt := 36) d_Tokens_set_19 (by decide) rfl (fun h107 => ?_) (fun h107 => ?_)
      · refine g_return rfl d_Tokens_set_36 rfl ?_
        exact hQ _ _ Kp.rf
      · refine g_aload_n (pc1 := 23) d_Tokens_set_22 rfl 0 rfl ?_
        refine g_getr (pc1 := 26) d_Tokens_set_23 rfl ⟨_, fo_Tokens_15⟩ sh_4 (by decide) (rf_4_1 ld) ?_
        refine g_iload_n (pc1 := 27) d_Tokens_set_26 rfl 1 rfl ?_
        refine g_iload_n (pc1 := 28) d_Tokens_set_27 rfl 2 rfl ?_
        refine g_iast (pc1 := 29) d_Tokens_set_28 rfl sh_6 (by decide) (vin_of h105 h107 (by decide)) ?_
        refine Wp.topM (fun M108 eM108 => ?_)
        refine g_aload_n (pc1 := 30) d_Tokens_set_29 rfl 0 rfl ?_
        refine g_getr (pc1 := 33) d_Tokens_set_30 rfl ⟨_, fo_Tokens_22⟩ sh_4 (by decide) (rf_4_3 ld) ?_
        refine g_iload_n (pc1 := 34) d_Tokens_set_33 rfl 1 rfl ?_
        refine g_lload_n (pc1 := 35) d_Tokens_set_34 rfl 3 rfl ?_
        refine g_last (pc1 := 36) d_Tokens_set_35 rfl sh_8 (by decide) (vin_of h105 h107 (by decide)) ?_
        refine Wp.topL (fun L109 eL109 => ?_)
        refine g_return rfl d_Tokens_set_36 rfl ?_
        exact hQ _ _ (Kp.wL (Kp.wM Kp.rf rfl eM108) rfl eL109)
set_option maxHeartbeats 4000000 in
set_option maxRecDepth 20000 in
theorem t1_Tokens_valueAt {l : Launch} {ld : Nat} (hld : isLa ld) {M : gM} {L : gL} {Q : Option Value → gM → gL → gR → Prop} (p1 : Int32) (hQ : ∀ (r : Int64) , Q (some (.long r)) M L (rf ld)) : Tm l y_Tokens_valueAt (0, 0, 447) 447 [.ref 4, .int p1] M L (rf ld) Q := by
  refine Tm.of (by decide) (Nat.le_of_ble_eq_true rfl) ?_
  show Wp l y_Tokens_valueAt (0, 0, 447) 447 0 0 0 [(0, .ref 4), (1, .int p1)] [] M L (rf ld) Q
  refine g_iload_n (pc1 := 1) d_Tokens_valueAt_0 rfl 1 rfl ?_
  refine g_if_lt (pc1 := 4) (tgt := 22) d_Tokens_valueAt_1 (by decide) rfl (fun h110 => ?_) (fun h110 => ?_)
  · refine g_lconst (pc1 := 23) (v := 0) d_Tokens_valueAt_22 rfl (by decide) ?_
    refine g_lreturn rfl d_Tokens_valueAt_23 rfl ?_
    exact hQ _
  · refine g_iload_n (pc1 := 5) d_Tokens_valueAt_4 rfl 1 rfl ?_
    refine g_aload_n (pc1 := 6) d_Tokens_valueAt_5 rfl 0 rfl ?_
    refine g_getr (pc1 := 9) d_Tokens_valueAt_6 rfl ⟨_, fo_Tokens_22⟩ sh_4 (by decide) (rf_4_3 ld) ?_
    refine g_alen (pc1 := 10) (v := 401) d_Tokens_valueAt_9 rfl sh_8 (by decide) (by decide) (by decide) (by decide) ?_
    refine g_icmp_ge (pc1 := 13) (tgt := 22) d_Tokens_valueAt_10 (by decide) rfl (fun h111 => ?_) (fun h111 => ?_)
    · refine g_lconst (pc1 := 23) (v := 0) d_Tokens_valueAt_22 rfl (by decide) ?_
      refine g_lreturn rfl d_Tokens_valueAt_23 rfl ?_
      exact hQ _
    · refine g_aload_n (pc1 := 14) d_Tokens_valueAt_13 rfl 0 rfl ?_
      refine g_getr (pc1 := 17) d_Tokens_valueAt_14 rfl ⟨_, fo_Tokens_22⟩ sh_4 (by decide) (rf_4_3 ld) ?_
      refine g_iload_n (pc1 := 18) d_Tokens_valueAt_17 rfl 1 rfl ?_
      refine g_lald (pc1 := 19) d_Tokens_valueAt_18 rfl sh_8 (by decide) (vin_of h110 h111 (by decide)) ?_
      refine g_goto (tgt := 23) d_Tokens_valueAt_19 (by decide) ?_
      refine g_lreturn rfl d_Tokens_valueAt_23 rfl ?_
      exact hQ _
set_option maxHeartbeats 4000000 in
set_option maxRecDepth 20000 in
theorem t1_Tokens_withLetter {l : Launch} {ld : Nat} (hld : isLa ld) {M : gM} {L : gL} {Q : Option Value → gM → gL → gR → Prop} (p1 : Int64) (p2 : Int32) (hQ : ∀ (r : Int64) , Q (some (.long r)) M L (rf ld)) : Tm l y_Tokens_withLetter (0, 0, 447) 447 [.long p1, .int p2] M L (rf ld) Q := by
  refine Tm.of (by decide) (Nat.le_of_ble_eq_true rfl) ?_
  show Wp l y_Tokens_withLetter (0, 0, 447) 447 0 0 0 [(0, .long p1), (2, .int p2)] [] M L (rf ld) Q
  refine g_lload_n (pc1 := 1) d_Tokens_withLetter_0 rfl 0 rfl ?_
  refine g_ldc2 (pc1 := 4) (v := 32) d_Tokens_withLetter_1 rfl co_Tokens_41 ?_
  refine g_lmul (pc1 := 5) d_Tokens_withLetter_4 rfl ?_
  refine g_iload_n (pc1 := 6) d_Tokens_withLetter_5 rfl 1 rfl ?_
  refine g_bipush (pc1 := 8) (v := 97) d_Tokens_withLetter_6 rfl (by decide) ?_
  refine g_isub (pc1 := 9) d_Tokens_withLetter_8 rfl ?_
  refine g_iconst (pc1 := 10) (v := 1) d_Tokens_withLetter_9 rfl (by decide) ?_
  refine g_iadd (pc1 := 11) d_Tokens_withLetter_10 rfl ?_
  refine g_i2l (pc1 := 12) d_Tokens_withLetter_11 rfl ?_
  refine g_ladd (pc1 := 13) d_Tokens_withLetter_12 rfl ?_
  refine g_lreturn rfl d_Tokens_withLetter_13 rfl ?_
  exact hQ _
set_option maxHeartbeats 4000000 in
set_option maxRecDepth 20000 in
theorem t1_Told_clear {l : Launch} {ld : Nat} (hld : isLa ld) {M : gM} {L : gL} {Q : Option Value → gM → gL → gR → Prop}  (hQ : ∀ (M' : gM) (L' : gL), Kp S1 M L M' L' → Q none M' L' (rf ld)) : Tm l y_Told_clear (0, 0, 447) 447 [.ref 383] M L (rf ld) Q := by
  refine Tm.of (by decide) (Nat.le_of_ble_eq_true rfl) ?_
  show Wp l y_Told_clear (0, 0, 447) 447 0 0 0 [(0, .ref 383)] [] M L (rf ld) Q
  refine g_aload_n (pc1 := 1) d_Told_clear_0 rfl 0 rfl ?_
  refine g_iconst (pc1 := 2) (v := 0) d_Told_clear_1 rfl (by decide) ?_
  refine g_puti (pc1 := 5) d_Told_clear_2 rfl fo_Told_33 (po_9_3 _) sh_383 (by decide) ?_
  refine Wp.topM (fun M112 eM112 => ?_)
  refine g_return rfl d_Told_clear_5 rfl ?_
  exact hQ _ _ (Kp.wM Kp.rf rfl eM112)
set_option maxHeartbeats 4000000 in
set_option maxRecDepth 20000 in
theorem t1_Int_bitCount {l : Launch} {ld : Nat} (hld : isLa ld) {M : gM} {L : gL} {Q : Option Value → gM → gL → gR → Prop} (p1 : Int32) (hQ : ∀ (r : Int32) , Q (some (.int r)) M L (rf ld)) : Tm l y_Int_bitCount (0, 0, 447) 447 [.int p1] M L (rf ld) Q := by
  refine Tm.of (by decide) (Nat.le_of_ble_eq_true rfl) ?_
  show Wp l y_Int_bitCount (0, 0, 447) 447 0 0 0 [(0, .int p1)] [] M L (rf ld) Q
  refine g_iload_n (pc1 := 1) d_Int_bitCount_0 rfl 0 rfl ?_
  refine g_iload_n (pc1 := 2) d_Int_bitCount_1 rfl 0 rfl ?_
  refine g_iconst (pc1 := 3) (v := 1) d_Int_bitCount_2 rfl (by decide) ?_
  refine g_iushr (pc1 := 4) d_Int_bitCount_3 rfl ?_
  refine g_ldcw (pc1 := 7) (v := 1431655765) d_Int_bitCount_4 rfl co_Int_265 ?_
  refine g_iand (pc1 := 8) d_Int_bitCount_7 rfl ?_
  refine g_isub (pc1 := 9) d_Int_bitCount_8 rfl ?_
  refine Wp.topi (fun x113 ex113 => ?_)
  refine g_istore_n (pc1 := 10) (lv' := [(0, .int x113)]) d_Int_bitCount_9 rfl rfl (by decide) [0] rfl ?_
  refine g_iload_n (pc1 := 11) d_Int_bitCount_10 rfl 0 rfl ?_
  refine g_ldcw (pc1 := 14) (v := 858993459) d_Int_bitCount_11 rfl co_Int_266 ?_
  refine g_iand (pc1 := 15) d_Int_bitCount_14 rfl ?_
  refine g_iload_n (pc1 := 16) d_Int_bitCount_15 rfl 0 rfl ?_
  refine g_iconst (pc1 := 17) (v := 2) d_Int_bitCount_16 rfl (by decide) ?_
  refine g_iushr (pc1 := 18) d_Int_bitCount_17 rfl ?_
  refine g_ldcw (pc1 := 21) (v := 858993459) d_Int_bitCount_18 rfl co_Int_266 ?_
  refine g_iand (pc1 := 22) d_Int_bitCount_21 rfl ?_
  refine g_iadd (pc1 := 23) d_Int_bitCount_22 rfl ?_
  refine Wp.topi (fun x114 ex114 => ?_)
  refine g_istore_n (pc1 := 24) (lv' := [(0, .int x114)]) d_Int_bitCount_23 rfl rfl (by decide) [0] rfl ?_
  refine g_iload_n (pc1 := 25) d_Int_bitCount_24 rfl 0 rfl ?_
  refine g_iload_n (pc1 := 26) d_Int_bitCount_25 rfl 0 rfl ?_
  refine g_iconst (pc1 := 27) (v := 4) d_Int_bitCount_26 rfl (by decide) ?_
  refine g_iushr (pc1 := 28) d_Int_bitCount_27 rfl ?_
  refine g_iadd (pc1 := 29) d_Int_bitCount_28 rfl ?_
  refine g_ldcw (pc1 := 32) (v := 252645135) d_Int_bitCount_29 rfl co_Int_267 ?_
  refine g_iand (pc1 := 33) d_Int_bitCount_32 rfl ?_
  refine Wp.topi (fun x115 ex115 => ?_)
  refine g_istore_n (pc1 := 34) (lv' := [(0, .int x115)]) d_Int_bitCount_33 rfl rfl (by decide) [0] rfl ?_
  refine g_iload_n (pc1 := 35) d_Int_bitCount_34 rfl 0 rfl ?_
  refine g_iload_n (pc1 := 36) d_Int_bitCount_35 rfl 0 rfl ?_
  refine g_bipush (pc1 := 38) (v := 8) d_Int_bitCount_36 rfl (by decide) ?_
  refine g_iushr (pc1 := 39) d_Int_bitCount_38 rfl ?_
  refine g_iadd (pc1 := 40) d_Int_bitCount_39 rfl ?_
  refine Wp.topi (fun x116 ex116 => ?_)
  refine g_istore_n (pc1 := 41) (lv' := [(0, .int x116)]) d_Int_bitCount_40 rfl rfl (by decide) [0] rfl ?_
  refine g_iload_n (pc1 := 42) d_Int_bitCount_41 rfl 0 rfl ?_
  refine g_iload_n (pc1 := 43) d_Int_bitCount_42 rfl 0 rfl ?_
  refine g_bipush (pc1 := 45) (v := 16) d_Int_bitCount_43 rfl (by decide) ?_
  refine g_iushr (pc1 := 46) d_Int_bitCount_45 rfl ?_
  refine g_iadd (pc1 := 47) d_Int_bitCount_46 rfl ?_
  refine Wp.topi (fun x117 ex117 => ?_)
  refine g_istore_n (pc1 := 48) (lv' := [(0, .int x117)]) d_Int_bitCount_47 rfl rfl (by decide) [0] rfl ?_
  refine g_iload_n (pc1 := 49) d_Int_bitCount_48 rfl 0 rfl ?_
  refine g_bipush (pc1 := 51) (v := 63) d_Int_bitCount_49 rfl (by decide) ?_
  refine g_iand (pc1 := 52) d_Int_bitCount_51 rfl ?_
  refine g_ireturn (Or.inl rfl) d_Int_bitCount_52 rfl ?_
  exact hQ _
set_option maxHeartbeats 4000000 in
set_option maxRecDepth 20000 in
theorem t1_Main_forget {l : Launch} {ld : Nat} (hld : isLa ld) {M : gM} {L : gL} {Q : Option Value → gM → gL → gR → Prop}  (hQ : ∀ (r : Int32) (M' : gM) (L' : gL), Kp S1 M L M' L' → Q (some (.int r)) M' L' (rf ld)) : Tm l y_Main_forget (0, 0, 447) 447 [.ref 0] M L (rf ld) Q := by
  refine Tm.of (by decide) (Nat.le_of_ble_eq_true rfl) ?_
  show Wp l y_Main_forget (0, 0, 447) 447 0 0 0 [(0, .ref 0)] [] M L (rf ld) Q
  refine g_aload_n (pc1 := 1) d_Main_forget_0 rfl 0 rfl ?_
  refine g_getr (pc1 := 4) d_Main_forget_1 rfl ⟨_, fo_Main_60⟩ sh_0 (by decide) (rf_0_8 ld) ?_
  refine g_geti (pc1 := 7) d_Main_forget_4 rfl ⟨_, fo_Main_275⟩ sh_383 (by decide) ?_
  refine Wp.topi (fun x118 ex118 => ?_)
  refine g_istore_n (pc1 := 8) (lv' := [(0, .ref 0), (1, .int x118)]) d_Main_forget_7 rfl rfl (by decide) [1, 0] rfl ?_
  refine g_aload_n (pc1 := 9) d_Main_forget_8 rfl 0 rfl ?_
  refine g_getr (pc1 := 12) d_Main_forget_9 rfl ⟨_, fo_Main_60⟩ sh_0 (by decide) (rf_0_8 ld) ?_
  refine g_callV0 (pc1 := 15) (As := []) (rest := []) d_Main_forget_12 rfl mo_Main_108 mi_Told_clear mv_Told_clear rfl sh_383 (by decide) (by decide) rfl rfl (Nat.le_of_ble_eq_true rfl) ?_
  refine t1_Told_clear hld  (fun  M119 L120 k121 => ?_)
  refine g_iload_n (pc1 := 16) d_Main_forget_15 rfl 1 rfl ?_
  refine g_ireturn (Or.inl rfl) d_Main_forget_16 rfl ?_
  exact hQ _ _ _ (Kp.trans Kp.rf k121)
set_option maxHeartbeats 4000000 in
set_option maxRecDepth 20000 in
theorem t1_Main_within {l : Launch} {ld : Nat} (hld : isLa ld) {M : gM} {L : gL} {Q : Option Value → gM → gL → gR → Prop} (p1 : Int32) (p2 : Int32) (p3 : Int32) (hQ : ∀ (r : Int32) , Q (some (.int r)) M L (rf ld)) : Tm l y_Main_within (0, 0, 447) 447 [.int p1, .int p2, .int p3] M L (rf ld) Q := by
  refine Tm.of (by decide) (Nat.le_of_ble_eq_true rfl) ?_
  show Wp l y_Main_within (0, 0, 447) 447 0 0 0 [(0, .int p1), (1, .int p2), (2, .int p3)] [] M L (rf ld) Q
  refine g_iload_n (pc1 := 1) d_Main_within_0 rfl 1 rfl ?_
  refine g_iload_n (pc1 := 2) d_Main_within_1 rfl 2 rfl ?_
  refine g_iload_n (pc1 := 3) d_Main_within_2 rfl 0 rfl ?_
  refine g_mmin (pc1 := 6) d_Main_within_3 rfl mm_Main_313 (by decide) ⟨Nat.le_refl 0, Nat.le_refl 0⟩ (Nat.le_of_ble_eq_true rfl) ?_
  refine g_mmax (pc1 := 9) d_Main_within_6 rfl mm_Main_316 (by decide) ⟨Nat.le_refl 0, Nat.le_refl 0⟩ (Nat.le_of_ble_eq_true rfl) ?_
  refine g_ireturn (Or.inl rfl) d_Main_within_9 rfl ?_
  exact hQ _
set_option maxHeartbeats 4000000 in
set_option maxRecDepth 20000 in
theorem t1_Land_broughtBy {l : Launch} {ld : Nat} (hld : isLa ld) {M : gM} {L : gL} {Q : Option Value → gM → gL → gR → Prop} (Ld0 : Nat) (hLd0 : isLa Ld0) (p1 : Int32) (p2 : Int32) (hQ : ∀ (r : Int32) , Q (some (.int r)) M L (rf ld)) : Tm l y_Land_broughtBy (0, 0, 447) 447 [.ref Ld0, .int p1, .int p2] M L (rf ld) Q := by
  refine Tm.of (by decide) (Nat.le_of_ble_eq_true rfl) ?_
  show Wp l y_Land_broughtBy (0, 0, 447) 447 0 0 0 [(0, .ref Ld0), (1, .int p1), (2, .int p2)] [] M L (rf ld) Q
  refine g_aload_n (pc1 := 1) d_Land_broughtBy_0 rfl 0 rfl ?_
  refine g_getr (pc1 := 4) d_Land_broughtBy_1 rfl ⟨_, fo_Land_18⟩ (shLa_0 hLd0) (ltLa_0 hLd0) (rfLa_7 ld hLd0) ?_
  refine g_iload_n (pc1 := 5) d_Land_broughtBy_4 rfl 1 rfl ?_
  refine g_iconst (pc1 := 6) (v := 3) d_Land_broughtBy_5 rfl (by decide) ?_
  refine g_imul (pc1 := 7) d_Land_broughtBy_6 rfl ?_
  refine g_iload_n (pc1 := 8) d_Land_broughtBy_7 rfl 2 rfl ?_
  refine g_iadd (pc1 := 9) d_Land_broughtBy_8 rfl ?_
  refine g_callS0 (pc1 := 12) (As := [.ref (Ld0 + 3), .int ((p1 * 3) + p2)]) (rest := []) d_Land_broughtBy_9 rfl mo_Land_78 ms_Main_at (by decide) rfl rfl (Nat.le_of_ble_eq_true rfl) ?_
  refine t1_Main_at hld (Ld0 + 3) (shLa_3 hLd0) (ltLa_3 hLd0) (by decide) _ (fun r122 => ?_)
  refine g_ireturn (Or.inl rfl) d_Land_broughtBy_12 rfl ?_
  exact hQ _
set_option maxHeartbeats 4000000 in
set_option maxRecDepth 20000 in
theorem t1_Land_clear {l : Launch} {ld : Nat} (hld : isLa ld) {M : gM} {L : gL} {Q : Option Value → gM → gL → gR → Prop} (Ld0 : Nat) (hLd0 : isLa Ld0) (hQ : ∀ (M' : gM) (L' : gL), Kp S2 M L M' L' → Q none M' L' (rf ld)) : Tm l y_Land_clear (0, 0, 447) 447 [.ref Ld0] M L (rf ld) Q := by
  refine Tm.of (by decide) (Nat.le_of_ble_eq_true rfl) ?_
  show Wp l y_Land_clear (0, 0, 447) 447 0 0 0 [(0, .ref Ld0)] [] M L (rf ld) Q
  refine g_aload_n (pc1 := 1) d_Land_clear_0 rfl 0 rfl ?_
  refine g_iconst (pc1 := 2) (v := 0) d_Land_clear_1 rfl (by decide) ?_
  refine g_puti (pc1 := 5) d_Land_clear_2 rfl fo_Land_55 (po_4_0 _) (shLa_0 hLd0) (ltLa_0 hLd0) ?_
  refine Wp.topM (fun M123 eM123 => ?_)
  refine g_aload_n (pc1 := 6) d_Land_clear_5 rfl 0 rfl ?_
  refine g_iconst (pc1 := 7) (v := 0) d_Land_clear_6 rfl (by decide) ?_
  refine g_puti (pc1 := 10) d_Land_clear_7 rfl fo_Land_59 (po_4_1 _) (shLa_0 hLd0) (ltLa_0 hLd0) ?_
  refine Wp.topM (fun M124 eM124 => ?_)
  refine g_aload_n (pc1 := 11) d_Land_clear_10 rfl 0 rfl ?_
  refine g_iconst (pc1 := 12) (v := 0) d_Land_clear_11 rfl (by decide) ?_
  refine g_puti (pc1 := 15) d_Land_clear_12 rfl fo_Land_62 (po_4_2 _) (shLa_0 hLd0) (ltLa_0 hLd0) ?_
  refine Wp.topM (fun M125 eM125 => ?_)
  refine g_aload_n (pc1 := 16) d_Land_clear_15 rfl 0 rfl ?_
  refine g_iconst (pc1 := 17) (v := 0) d_Land_clear_16 rfl (by decide) ?_
  refine g_puti (pc1 := 20) d_Land_clear_17 rfl fo_Land_65 (po_4_3 _) (shLa_0 hLd0) (ltLa_0 hLd0) ?_
  refine Wp.topM (fun M126 eM126 => ?_)
  refine g_aload_n (pc1 := 21) d_Land_clear_20 rfl 0 rfl ?_
  refine g_iconst (pc1 := 22) (v := 0) d_Land_clear_21 rfl (by decide) ?_
  refine g_puti (pc1 := 25) d_Land_clear_22 rfl fo_Land_68 (po_4_4 _) (shLa_0 hLd0) (ltLa_0 hLd0) ?_
  refine Wp.topM (fun M127 eM127 => ?_)
  refine g_aload_n (pc1 := 26) d_Land_clear_25 rfl 0 rfl ?_
  refine g_getr (pc1 := 29) d_Land_clear_26 rfl ⟨_, fo_Land_24⟩ (shLa_0 hLd0) (ltLa_0 hLd0) (rfLa_9 ld hLd0) ?_
  refine g_callS0 (pc1 := 32) (As := [.ref (Ld0 + 5)]) (rest := []) d_Land_clear_29 rfl mo_Land_71 ms_Main_wipe (by decide) rfl rfl (Nat.le_of_ble_eq_true rfl) ?_
  refine t1_Main_wipe hld (Ld0 + 5) (shLa_5 hLd0) (ltLa_5 hLd0) (by decide) (fun  M128 L129 k130 => ?_)
  refine g_aload_n (pc1 := 33) d_Land_clear_32 rfl 0 rfl ?_
  refine g_getr (pc1 := 36) d_Land_clear_33 rfl ⟨_, fo_Land_39⟩ (shLa_0 hLd0) (ltLa_0 hLd0) (rfLa_13 ld hLd0) ?_
  refine g_callV0 (pc1 := 39) (As := []) (rest := []) d_Land_clear_36 rfl mo_Land_75 mi_Law_clear mv_Law_clear rfl (shLw_0 (isLw_9 hLd0)) (ltLw_0 (isLw_9 hLd0)) (by decide) rfl rfl (Nat.le_of_ble_eq_true rfl) ?_
  refine t1_Law_clear hld (Ld0 + 9) (isLw_9 hLd0) (fun  M131 L132 k133 => ?_)
  refine g_aload_n (pc1 := 40) d_Land_clear_39 rfl 0 rfl ?_
  refine g_getr (pc1 := 43) d_Land_clear_40 rfl ⟨_, fo_Land_43⟩ (shLa_0 hLd0) (ltLa_0 hLd0) (rfLa_14 ld hLd0) ?_
  refine g_callV0 (pc1 := 46) (As := []) (rest := []) d_Land_clear_43 rfl mo_Land_75 mi_Law_clear mv_Law_clear rfl (shLw_0 (isLw_13 hLd0)) (ltLw_0 (isLw_13 hLd0)) (by decide) rfl rfl (Nat.le_of_ble_eq_true rfl) ?_
  refine t1_Law_clear hld (Ld0 + 13) (isLw_13 hLd0) (fun  M134 L135 k136 => ?_)
  refine g_aload_n (pc1 := 47) d_Land_clear_46 rfl 0 rfl ?_
  refine g_getr (pc1 := 50) d_Land_clear_47 rfl ⟨_, fo_Land_46⟩ (shLa_0 hLd0) (ltLa_0 hLd0) (rfLa_15 ld hLd0) ?_
  refine g_callV0 (pc1 := 53) (As := []) (rest := []) d_Land_clear_50 rfl mo_Land_75 mi_Law_clear mv_Law_clear rfl (shLw_0 (isLw_17 hLd0)) (ltLw_0 (isLw_17 hLd0)) (by decide) rfl rfl (Nat.le_of_ble_eq_true rfl) ?_
  refine t1_Law_clear hld (Ld0 + 17) (isLw_17 hLd0) (fun  M137 L138 k139 => ?_)
  refine g_aload_n (pc1 := 54) d_Land_clear_53 rfl 0 rfl ?_
  refine g_getr (pc1 := 57) d_Land_clear_54 rfl ⟨_, fo_Land_49⟩ (shLa_0 hLd0) (ltLa_0 hLd0) (rfLa_16 ld hLd0) ?_
  refine g_callV0 (pc1 := 60) (As := []) (rest := []) d_Land_clear_57 rfl mo_Land_75 mi_Law_clear mv_Law_clear rfl (shLw_0 (isLw_21 hLd0)) (ltLw_0 (isLw_21 hLd0)) (by decide) rfl rfl (Nat.le_of_ble_eq_true rfl) ?_
  refine t1_Law_clear hld (Ld0 + 21) (isLw_21 hLd0) (fun  M140 L141 k142 => ?_)
  refine g_return rfl d_Land_clear_60 rfl ?_
  exact hQ _ _ (Kp.trans (Kp.trans (Kp.trans (Kp.trans (Kp.trans (Kp.wM (Kp.wM (Kp.wM (Kp.wM (Kp.wM Kp.rf (S2_La_0 hLd0) eM123) (S2_La_0 hLd0) eM124) (S2_La_0 hLd0) eM125) (S2_La_0 hLd0) eM126) (S2_La_0 hLd0) eM127) (Kp.mono k130 (one_S (S2_La_5 hLd0)))) (Kp.mono k133 SL_S2)) (Kp.mono k136 SL_S2)) (Kp.mono k139 SL_S2)) (Kp.mono k142 SL_S2))
set_option maxHeartbeats 4000000 in
set_option maxRecDepth 20000 in
theorem t1_Land_freeUnder {l : Launch} {ld : Nat} (hld : isLa ld) {M : gM} {L : gL} {Q : Option Value → gM → gL → gR → Prop} (Ld0 : Nat) (hLd0 : isLa Ld0) (p1 : Int32) (p2 : Int32) (hQ : ∀ (r : Int32) , Q (some (.int r)) M L (rf ld)) : Tm l y_Land_freeUnder (0, 0, 447) 447 [.ref Ld0, .int p1, .int p2] M L (rf ld) Q := by
  refine Tm.of (by decide) (Nat.le_of_ble_eq_true rfl) ?_
  show Wp l y_Land_freeUnder (0, 0, 447) 447 0 0 0 [(0, .ref Ld0), (1, .int p1), (2, .int p2)] [] M L (rf ld) Q
  refine g_iconst (pc1 := 1) (v := 0) d_Land_freeUnder_0 rfl (by decide) ?_
  refine g_istore_n (pc1 := 2) (lv' := [(0, .ref Ld0), (1, .int p1), (2, .int p2), (3, .int 0)]) d_Land_freeUnder_1 rfl rfl (by decide) [1, 2, 3, 0] rfl ?_
  refine g_iconst (pc1 := 3) (v := 0) d_Land_freeUnder_2 rfl (by decide) ?_
  refine g_istore (pc1 := 5) (lv' := [(0, .ref Ld0), (1, .int p1), (2, .int p2), (3, .int 0), (4, .int 0)]) d_Land_freeUnder_3 rfl (by decide) [1, 2, 3, 4, 0] rfl ?_
  have LP146 : ∀ (f143 : Nat) (v147 : Int32) (v148 : Int32), ¬ v148 < 0 → ((M Ld0 3).toInt - v148.toInt).toNat < f143 → Wp l y_Land_freeUnder (0, 0, 447) 447 0 0 5 [(0, .ref Ld0), (1, .int p1), (2, .int p2), (3, .int v147), (4, .int v148)] [] M L (rf ld) Q := by
    intro f143
    induction f143 with
    | zero => intro v147 v148 _ hm145; exact absurd hm145 (Nat.not_lt_zero _)
    | succ f143 ih144 =>
      intro v147 v148 n149 hm145
      refine g_iload (pc1 := 7) d_Land_freeUnder_5 rfl 4 rfl ?_
      refine g_aload_n (pc1 := 8) d_Land_freeUnder_7 rfl 0 rfl ?_
      refine g_geti (pc1 := 11) d_Land_freeUnder_8 rfl ⟨_, fo_Land_65⟩ (shLa_0 hLd0) (ltLa_0 hLd0) ?_
      refine g_icmp_ge (pc1 := 14) (tgt := 53) d_Land_freeUnder_11 (by decide) rfl (fun h150 => ?_) (fun h150 => ?_)
      · refine g_iload_n (pc1 := 54) d_Land_freeUnder_53 rfl 3 rfl ?_
        refine g_ireturn (Or.inl rfl) d_Land_freeUnder_54 rfl ?_
        exact hQ _
      · refine g_aload_n (pc1 := 15) d_Land_freeUnder_14 rfl 0 rfl ?_
        refine g_getr (pc1 := 18) d_Land_freeUnder_15 rfl ⟨_, fo_Land_30⟩ (shLa_0 hLd0) (ltLa_0 hLd0) (rfLa_11 ld hLd0) ?_
        refine g_iload (pc1 := 20) d_Land_freeUnder_18 rfl 4 rfl ?_
        refine g_callS0 (pc1 := 23) (As := [.ref (Ld0 + 7), .int v148]) (rest := []) d_Land_freeUnder_20 rfl mo_Land_78 ms_Main_at (by decide) rfl rfl (Nat.le_of_ble_eq_true rfl) ?_
        refine t1_Main_at hld (Ld0 + 7) (shLa_7 hLd0) (ltLa_7 hLd0) (by decide) _ (fun r151 => ?_)
        refine g_iload_n (pc1 := 24) d_Land_freeUnder_23 rfl 1 rfl ?_
        refine g_icmp_ne (pc1 := 27) (tgt := 47) d_Land_freeUnder_24 (by decide) rfl (fun h152 => ?_) (fun h152 => ?_)
        · obtain ⟨x153, ex153⟩ : ∃ y : Int32, y = v148 + 1 := ⟨_, rfl⟩
          refine g_iinc (pc1 := 50) (v := x153) (lv' := [(0, .ref Ld0), (1, .int p1), (2, .int p2), (3, .int v147), (4, .int x153)]) d_Land_freeUnder_47 rfl 4 rfl (by rw [ex153]; rfl) (by decide) [1, 2, 3, 4, 0] rfl ?_
          refine g_goto (tgt := 5) d_Land_freeUnder_50 (by decide) ?_
          exact ih144 v147 x153 (nn_up (y := (M Ld0 3)) h150 ex153 n149) (md_up h150 ex153 hm145)
        · refine g_iload_n (pc1 := 28) d_Land_freeUnder_27 rfl 2 rfl ?_
          refine g_aload_n (pc1 := 29) d_Land_freeUnder_28 rfl 0 rfl ?_
          refine g_getr (pc1 := 32) d_Land_freeUnder_29 rfl ⟨_, fo_Land_33⟩ (shLa_0 hLd0) (ltLa_0 hLd0) (rfLa_12 ld hLd0) ?_
          refine g_iload (pc1 := 34) d_Land_freeUnder_32 rfl 4 rfl ?_
          refine g_callS0 (pc1 := 37) (As := [.ref (Ld0 + 8), .int v148]) (rest := [.int p2]) d_Land_freeUnder_34 rfl mo_Land_78 ms_Main_at (by decide) rfl rfl (Nat.le_of_ble_eq_true rfl) ?_
          refine t1_Main_at hld (Ld0 + 8) (shLa_8 hLd0) (ltLa_8 hLd0) (by decide) _ (fun r154 => ?_)
          refine g_icmp_ge (pc1 := 40) (tgt := 47) d_Land_freeUnder_37 (by decide) rfl (fun h155 => ?_) (fun h155 => ?_)
          · obtain ⟨x156, ex156⟩ : ∃ y : Int32, y = v148 + 1 := ⟨_, rfl⟩
            refine g_iinc (pc1 := 50) (v := x156) (lv' := [(0, .ref Ld0), (1, .int p1), (2, .int p2), (3, .int v147), (4, .int x156)]) d_Land_freeUnder_47 rfl 4 rfl (by rw [ex156]; rfl) (by decide) [1, 2, 3, 4, 0] rfl ?_
            refine g_goto (tgt := 5) d_Land_freeUnder_50 (by decide) ?_
            exact ih144 v147 x156 (nn_up (y := (M Ld0 3)) h150 ex156 n149) (md_up h150 ex156 hm145)
          · refine g_iload_n (pc1 := 41) d_Land_freeUnder_40 rfl 3 rfl ?_
            refine g_iconst (pc1 := 42) (v := 1) d_Land_freeUnder_41 rfl (by decide) ?_
            refine g_iload (pc1 := 44) d_Land_freeUnder_42 rfl 4 rfl ?_
            refine g_ishl (pc1 := 45) d_Land_freeUnder_44 rfl ?_
            refine g_ior (pc1 := 46) d_Land_freeUnder_45 rfl ?_
            refine Wp.topi (fun x157 ex157 => ?_)
            refine g_istore_n (pc1 := 47) (lv' := [(0, .ref Ld0), (1, .int p1), (2, .int p2), (3, .int x157), (4, .int v148)]) d_Land_freeUnder_46 rfl rfl (by decide) [1, 2, 3, 0, 4] rfl ?_
            obtain ⟨x158, ex158⟩ : ∃ y : Int32, y = v148 + 1 := ⟨_, rfl⟩
            refine g_iinc (pc1 := 50) (v := x158) (lv' := [(0, .ref Ld0), (1, .int p1), (2, .int p2), (3, .int x157), (4, .int x158)]) d_Land_freeUnder_47 rfl 4 rfl (by rw [ex158]; rfl) (by decide) [1, 2, 3, 4, 0] rfl ?_
            refine g_goto (tgt := 5) d_Land_freeUnder_50 (by decide) ?_
            exact ih144 x157 x158 (nn_up (y := (M Ld0 3)) h150 ex158 n149) (md_up h150 ex158 hm145)
  exact LP146 _ 0 0 (by decide) (Nat.lt_succ_self _)
set_option maxHeartbeats 4000000 in
set_option maxRecDepth 20000 in
theorem t1_Land_inDish {l : Launch} {ld : Nat} (hld : isLa ld) {M : gM} {L : gL} {Q : Option Value → gM → gL → gR → Prop} (Ld0 : Nat) (hLd0 : isLa Ld0) (p1 : Int32) (p2 : Int32) (hQ : ∀ (r : Int32) , Q (some (.int r)) M L (rf ld)) : Tm l y_Land_inDish (0, 0, 447) 447 [.ref Ld0, .int p1, .int p2] M L (rf ld) Q := by
  refine Tm.of (by decide) (Nat.le_of_ble_eq_true rfl) ?_
  show Wp l y_Land_inDish (0, 0, 447) 447 0 0 0 [(0, .ref Ld0), (1, .int p1), (2, .int p2)] [] M L (rf ld) Q
  refine g_aload_n (pc1 := 1) d_Land_inDish_0 rfl 0 rfl ?_
  refine g_getr (pc1 := 4) d_Land_inDish_1 rfl ⟨_, fo_Land_24⟩ (shLa_0 hLd0) (ltLa_0 hLd0) (rfLa_9 ld hLd0) ?_
  refine g_iload_n (pc1 := 5) d_Land_inDish_4 rfl 1 rfl ?_
  refine g_bipush (pc1 := 7) (v := 6) d_Land_inDish_5 rfl (by decide) ?_
  refine g_imul (pc1 := 8) d_Land_inDish_7 rfl ?_
  refine g_iload_n (pc1 := 9) d_Land_inDish_8 rfl 2 rfl ?_
  refine g_iadd (pc1 := 10) d_Land_inDish_9 rfl ?_
  refine g_callS0 (pc1 := 13) (As := [.ref (Ld0 + 5), .int ((p1 * 6) + p2)]) (rest := []) d_Land_inDish_10 rfl mo_Land_78 ms_Main_at (by decide) rfl rfl (Nat.le_of_ble_eq_true rfl) ?_
  refine t1_Main_at hld (Ld0 + 5) (shLa_5 hLd0) (ltLa_5 hLd0) (by decide) _ (fun r159 => ?_)
  refine g_ireturn (Or.inl rfl) d_Land_inDish_13 rfl ?_
  exact hQ _
set_option maxHeartbeats 4000000 in
set_option maxRecDepth 20000 in
theorem t1_Land_lot {l : Launch} {ld : Nat} (hld : isLa ld) {M : gM} {L : gL} {Q : Option Value → gM → gL → gR → Prop} (p1 : Int32) (p2 : Int32) (p3 : Int32) (hQ : ∀ (r : Int32) , Q (some (.int r)) M L (rf ld)) : Tm l y_Land_lot (0, 0, 447) 447 [.int p1, .int p2, .int p3] M L (rf ld) Q := by
  refine Tm.of (by decide) (Nat.le_of_ble_eq_true rfl) ?_
  show Wp l y_Land_lot (0, 0, 447) 447 0 0 0 [(0, .int p1), (1, .int p2), (2, .int p3)] [] M L (rf ld) Q
  refine g_iload_n (pc1 := 1) d_Land_lot_0 rfl 1 rfl ?_
  refine g_bipush (pc1 := 3) (v := 103) d_Land_lot_1 rfl (by decide) ?_
  refine g_callS0 (pc1 := 6) (As := [.int p2, .int 103]) (rest := []) d_Land_lot_3 rfl mo_Land_130 ms_Land_stirred (by decide) rfl rfl (Nat.le_of_ble_eq_true rfl) ?_
  refine t1_Land_stirred hld _ _ (fun r160 => ?_)
  refine g_iload_n (pc1 := 7) d_Land_lot_6 rfl 2 rfl ?_
  refine g_callS0 (pc1 := 10) (As := [.int r160, .int p3]) (rest := []) d_Land_lot_7 rfl mo_Land_130 ms_Land_stirred (by decide) rfl rfl (Nat.le_of_ble_eq_true rfl) ?_
  refine t1_Land_stirred hld _ _ (fun r161 => ?_)
  refine g_istore_n (pc1 := 11) (lv' := [(0, .int p1), (1, .int p2), (2, .int p3), (3, .int r161)]) d_Land_lot_10 rfl rfl (by decide) [1, 2, 3, 0] rfl ?_
  refine g_iload_n (pc1 := 12) d_Land_lot_11 rfl 0 rfl ?_
  refine g_if_le (pc1 := 15) (tgt := 23) d_Land_lot_12 (by decide) rfl (fun h162 => ?_) (fun h162 => ?_)
  · refine g_iconst (pc1 := 24) (v := 0) d_Land_lot_23 rfl (by decide) ?_
    refine g_ireturn (Or.inl rfl) d_Land_lot_24 rfl ?_
    exact hQ _
  · refine g_iload_n (pc1 := 16) d_Land_lot_15 rfl 3 rfl ?_
    refine g_iconst (pc1 := 17) (v := 1) d_Land_lot_16 rfl (by decide) ?_
    refine g_iushr (pc1 := 18) d_Land_lot_17 rfl ?_
    refine g_iload_n (pc1 := 19) d_Land_lot_18 rfl 0 rfl ?_
    refine g_irem (pc1 := 20) d_Land_lot_19 rfl (fun q => h162 (by rw [q]; decide)) ?_
    refine g_goto (tgt := 24) d_Land_lot_20 (by decide) ?_
    refine g_ireturn (Or.inl rfl) d_Land_lot_24 rfl ?_
    exact hQ _
set_option maxHeartbeats 4000000 in
set_option maxRecDepth 20000 in
theorem t1_Law_closeIf {l : Launch} {ld : Nat} (hld : isLa ld) {M : gM} {L : gL} {Q : Option Value → gM → gL → gR → Prop} (Wl0 : Nat) (hWl0 : isLw Wl0) (p1 : Int32) (hQ : ∀ (M' : gM) (L' : gL), Kp SL M L M' L' → Q none M' L' (rf ld)) : Tm l y_Law_closeIf (0, 0, 447) 447 [.ref Wl0, .int p1] M L (rf ld) Q := by
  refine Tm.of (by decide) (Nat.le_of_ble_eq_true rfl) ?_
  show Wp l y_Law_closeIf (0, 0, 447) 447 0 0 0 [(0, .ref Wl0), (1, .int p1)] [] M L (rf ld) Q
  refine g_aload_n (pc1 := 1) d_Law_closeIf_0 rfl 0 rfl ?_
  refine g_sipush (pc1 := 4) (v := 20059) d_Law_closeIf_1 rfl (by decide) ?_
  refine g_callV0 (pc1 := 7) (As := [.int 20059]) (rest := []) d_Law_closeIf_4 rfl mo_Law_29 mi_Law_add mv_Law_add rfl (shLw_0 hWl0) (ltLw_0 hWl0) (by decide) rfl rfl (Nat.le_of_ble_eq_true rfl) ?_
  refine t1_Law_add hld Wl0 hWl0 _ (fun  M163 L164 k165 => ?_)
  refine g_aload_n (pc1 := 8) d_Law_closeIf_7 rfl 0 rfl ?_
  refine g_getr (pc1 := 11) d_Law_closeIf_8 rfl ⟨_, fo_Law_11⟩ (shLw_0 hWl0) (ltLw_0 hWl0) (rfLw_0 ld hWl0) ?_
  refine g_iload_n (pc1 := 12) d_Law_closeIf_11 rfl 1 rfl ?_
  refine g_aload_n (pc1 := 13) d_Law_closeIf_12 rfl 0 rfl ?_
  refine g_geti (pc1 := 16) d_Law_closeIf_13 rfl ⟨_, fo_Law_21⟩ (shLw_0 hWl0) (ltLw_0 hWl0) ?_
  refine g_callS0 (pc1 := 19) (As := [.ref (Wl0 + 1), .int p1, .int (M163 Wl0 1)]) (rest := []) d_Law_closeIf_16 rfl mo_Law_25 ms_Main_put (by decide) rfl rfl (Nat.le_of_ble_eq_true rfl) ?_
  refine t1_Main_put hld (Wl0 + 1) (shLw_1 hWl0) (ltLw_1 hWl0) (by decide) _ _ (fun  M166 L167 k168 => ?_)
  refine g_return rfl d_Law_closeIf_19 rfl ?_
  exact hQ _ _ (Kp.trans (Kp.trans Kp.rf k165) (Kp.mono k168 (one_S (SL_Lw_1 hWl0))))
set_option maxHeartbeats 4000000 in
set_option maxRecDepth 20000 in
theorem t1_Law_let {l : Launch} {ld : Nat} (hld : isLa ld) {M : gM} {L : gL} {Q : Option Value → gM → gL → gR → Prop} (Wl0 : Nat) (hWl0 : isLw Wl0) (p1 : Int32) (p2 : Int32) (hQ : ∀ (M' : gM) (L' : gL), Kp S0 M L M' L' → Q none M' L' (rf ld)) : Tm l y_Law_let (0, 0, 447) 447 [.ref Wl0, .int p1, .int p2] M L (rf ld) Q := by
  refine Tm.of (by decide) (Nat.le_of_ble_eq_true rfl) ?_
  show Wp l y_Law_let (0, 0, 447) 447 0 0 0 [(0, .ref Wl0), (1, .int p1), (2, .int p2)] [] M L (rf ld) Q
  refine g_aload_n (pc1 := 1) d_Law_let_0 rfl 0 rfl ?_
  refine g_getr (pc1 := 4) d_Law_let_1 rfl ⟨_, fo_Law_15⟩ (shLw_0 hWl0) (ltLw_0 hWl0) (rfLw_2 ld hWl0) ?_
  refine g_iload_n (pc1 := 5) d_Law_let_4 rfl 1 rfl ?_
  refine g_iload_n (pc1 := 6) d_Law_let_5 rfl 2 rfl ?_
  refine g_callS0 (pc1 := 9) (As := [.ref (Wl0 + 2), .int p1, .int p2]) (rest := []) d_Law_let_6 rfl mo_Law_25 ms_Main_put (by decide) rfl rfl (Nat.le_of_ble_eq_true rfl) ?_
  refine t1_Main_put hld (Wl0 + 2) (shLw_2 hWl0) (ltLw_2 hWl0) (by decide) _ _ (fun  M169 L170 k171 => ?_)
  refine g_return rfl d_Law_let_9 rfl ?_
  exact hQ _ _ (Kp.trans Kp.rf (Kp.mono k171 (one_S (S0_Lw_2 hWl0))))
set_option maxHeartbeats 4000000 in
set_option maxRecDepth 20000 in
theorem t1_Law_openIf {l : Launch} {ld : Nat} (hld : isLa ld) {M : gM} {L : gL} {Q : Option Value → gM → gL → gR → Prop} (Wl0 : Nat) (hWl0 : isLw Wl0) (hQ : ∀ (r : Int32) (M' : gM) (L' : gL), Kp SL M L M' L' → Q (some (.int r)) M' L' (rf ld)) : Tm l y_Law_openIf (0, 0, 447) 447 [.ref Wl0] M L (rf ld) Q := by
  refine Tm.of (by decide) (Nat.le_of_ble_eq_true rfl) ?_
  show Wp l y_Law_openIf (0, 0, 447) 447 0 0 0 [(0, .ref Wl0)] [] M L (rf ld) Q
  refine g_aload_n (pc1 := 1) d_Law_openIf_0 rfl 0 rfl ?_
  refine g_sipush (pc1 := 4) (v := 20060) d_Law_openIf_1 rfl (by decide) ?_
  refine g_callV0 (pc1 := 7) (As := [.int 20060]) (rest := []) d_Law_openIf_4 rfl mo_Law_29 mi_Law_add mv_Law_add rfl (shLw_0 hWl0) (ltLw_0 hWl0) (by decide) rfl rfl (Nat.le_of_ble_eq_true rfl) ?_
  refine t1_Law_add hld Wl0 hWl0 _ (fun  M172 L173 k174 => ?_)
  refine g_aload_n (pc1 := 8) d_Law_openIf_7 rfl 0 rfl ?_
  refine g_iconst (pc1 := 9) (v := 0) d_Law_openIf_8 rfl (by decide) ?_
  refine g_callV0 (pc1 := 12) (As := [.int 0]) (rest := []) d_Law_openIf_9 rfl mo_Law_29 mi_Law_add mv_Law_add rfl (shLw_0 hWl0) (ltLw_0 hWl0) (by decide) rfl rfl (Nat.le_of_ble_eq_true rfl) ?_
  refine t1_Law_add hld Wl0 hWl0 _ (fun  M175 L176 k177 => ?_)
  refine g_aload_n (pc1 := 13) d_Law_openIf_12 rfl 0 rfl ?_
  refine g_geti (pc1 := 16) d_Law_openIf_13 rfl ⟨_, fo_Law_21⟩ (shLw_0 hWl0) (ltLw_0 hWl0) ?_
  refine g_iconst (pc1 := 17) (v := 1) d_Law_openIf_16 rfl (by decide) ?_
  refine g_isub (pc1 := 18) d_Law_openIf_17 rfl ?_
  refine g_ireturn (Or.inl rfl) d_Law_openIf_18 rfl ?_
  exact hQ _ _ _ (Kp.trans (Kp.trans Kp.rf k174) k177)
set_option maxHeartbeats 4000000 in
set_option maxRecDepth 20000 in
theorem t1_Law_value {l : Launch} {ld : Nat} (hld : isLa ld) {M : gM} {L : gL} {Q : Option Value → gM → gL → gR → Prop} (Wl0 : Nat) (hWl0 : isLw Wl0) (hQ : ∀ (r : Int32) (M' : gM) (L' : gL), Kp S0 M L M' L' → Q (some (.int r)) M' L' (rf ld)) : Tm l y_Law_value (0, 0, 447) 447 [.ref Wl0] M L (rf ld) Q := by
  refine Tm.of (by decide) (Nat.le_of_ble_eq_true rfl) ?_
  show Wp l y_Law_value (0, 0, 447) 447 0 0 0 [(0, .ref Wl0)] [] M L (rf ld) Q
  refine g_iconst (pc1 := 1) (v := 0) d_Law_value_0 rfl (by decide) ?_
  refine g_istore_n (pc1 := 2) (lv' := [(0, .ref Wl0), (1, .int 0)]) d_Law_value_1 rfl rfl (by decide) [1, 0] rfl ?_
  refine g_iconst (pc1 := 3) (v := 0) d_Law_value_2 rfl (by decide) ?_
  refine g_istore_n (pc1 := 4) (lv' := [(0, .ref Wl0), (1, .int 0), (2, .int 0)]) d_Law_value_3 rfl rfl (by decide) [1, 2, 0] rfl ?_
  refine g_iconst (pc1 := 5) (v := 0) d_Law_value_4 rfl (by decide) ?_
  refine g_istore_n (pc1 := 6) (lv' := [(0, .ref Wl0), (1, .int 0), (2, .int 0), (3, .int 0)]) d_Law_value_5 rfl rfl (by decide) [1, 2, 3, 0] rfl ?_
  have LP181 : ∀ (f178 : Nat) (v182 : Int32) (v183 : Int32) (v184 : Int32) (M185 : gM) (L186 : gL), Kp S0 M L M185 L186 → ¬ v184 < 0 → ((400 : Int32).toInt - v184.toInt).toNat < f178 → Wp l y_Law_value (0, 0, 447) 447 0 0 6 [(0, .ref Wl0), (1, .int v182), (2, .int v183), (3, .int v184)] [] M185 L186 (rf ld) Q := by
    intro f178
    induction f178 with
    | zero => intro v182 v183 v184 M185 L186 _ _ hm180; exact absurd hm180 (Nat.not_lt_zero _)
    | succ f178 ih179 =>
      intro v182 v183 v184 M185 L186 k187 n188 hm180
      refine g_iload_n (pc1 := 7) d_Law_value_6 rfl 3 rfl ?_
      refine g_sipush (pc1 := 10) (v := 400) d_Law_value_7 rfl (by decide) ?_
      refine g_icmp_ge (pc1 := 13) (tgt := 232) d_Law_value_10 (by decide) rfl (fun h189 => ?_) (fun h189 => ?_)
      · refine g_aload_n (pc1 := 233) d_Law_value_232 rfl 0 rfl ?_
        refine g_getr (pc1 := 236) d_Law_value_233 rfl ⟨_, fo_Law_18⟩ (shLw_0 hWl0) (ltLw_0 hWl0) (rfLw_3 ld hWl0) ?_
        refine g_iconst (pc1 := 237) (v := 0) d_Law_value_236 rfl (by decide) ?_
        refine g_callS0 (pc1 := 240) (As := [.ref (Wl0 + 3), .int 0]) (rest := []) d_Law_value_237 rfl mo_Law_33 ms_Main_at (by decide) rfl rfl (Nat.le_of_ble_eq_true rfl) ?_
        refine t1_Main_at hld (Wl0 + 3) (shLw_3 hWl0) (ltLw_3 hWl0) (by decide) _ (fun r190 => ?_)
        refine g_ireturn (Or.inl rfl) d_Law_value_240 rfl ?_
        exact hQ _ _ _ k187
      · refine g_iload_n (pc1 := 14) d_Law_value_13 rfl 2 rfl ?_
        refine g_if_lt (pc1 := 17) (tgt := 232) d_Law_value_14 (by decide) rfl (fun h191 => ?_) (fun h191 => ?_)
        · refine g_aload_n (pc1 := 233) d_Law_value_232 rfl 0 rfl ?_
          refine g_getr (pc1 := 236) d_Law_value_233 rfl ⟨_, fo_Law_18⟩ (shLw_0 hWl0) (ltLw_0 hWl0) (rfLw_3 ld hWl0) ?_
          refine g_iconst (pc1 := 237) (v := 0) d_Law_value_236 rfl (by decide) ?_
          refine g_callS0 (pc1 := 240) (As := [.ref (Wl0 + 3), .int 0]) (rest := []) d_Law_value_237 rfl mo_Law_33 ms_Main_at (by decide) rfl rfl (Nat.le_of_ble_eq_true rfl) ?_
          refine t1_Main_at hld (Wl0 + 3) (shLw_3 hWl0) (ltLw_3 hWl0) (by decide) _ (fun r192 => ?_)
          refine g_ireturn (Or.inl rfl) d_Law_value_240 rfl ?_
          exact hQ _ _ _ k187
        · refine g_iload_n (pc1 := 18) d_Law_value_17 rfl 2 rfl ?_
          refine g_aload_n (pc1 := 19) d_Law_value_18 rfl 0 rfl ?_
          refine g_geti (pc1 := 22) d_Law_value_19 rfl ⟨_, fo_Law_21⟩ (shLw_0 hWl0) (ltLw_0 hWl0) ?_
          refine g_icmp_ge (pc1 := 25) (tgt := 232) d_Law_value_22 (by decide) rfl (fun h193 => ?_) (fun h193 => ?_)
          · refine g_aload_n (pc1 := 233) d_Law_value_232 rfl 0 rfl ?_
            refine g_getr (pc1 := 236) d_Law_value_233 rfl ⟨_, fo_Law_18⟩ (shLw_0 hWl0) (ltLw_0 hWl0) (rfLw_3 ld hWl0) ?_
            refine g_iconst (pc1 := 237) (v := 0) d_Law_value_236 rfl (by decide) ?_
            refine g_callS0 (pc1 := 240) (As := [.ref (Wl0 + 3), .int 0]) (rest := []) d_Law_value_237 rfl mo_Law_33 ms_Main_at (by decide) rfl rfl (Nat.le_of_ble_eq_true rfl) ?_
            refine t1_Main_at hld (Wl0 + 3) (shLw_3 hWl0) (ltLw_3 hWl0) (by decide) _ (fun r194 => ?_)
            refine g_ireturn (Or.inl rfl) d_Law_value_240 rfl ?_
            exact hQ _ _ _ k187
          · refine g_iload_n (pc1 := 26) d_Law_value_25 rfl 2 rfl ?_
            refine g_aload_n (pc1 := 27) d_Law_value_26 rfl 0 rfl ?_
            refine g_getr (pc1 := 30) d_Law_value_27 rfl ⟨_, fo_Law_11⟩ (shLw_0 hWl0) (ltLw_0 hWl0) (rfLw_0 ld hWl0) ?_
            refine g_alen (pc1 := 31) (v := 400) d_Law_value_30 rfl (shLw_1 hWl0) (by decide) (by decide) (ltLw_1 hWl0) (by decide) ?_
            refine g_icmp_ge (pc1 := 34) (tgt := 232) d_Law_value_31 (by decide) rfl (fun h195 => ?_) (fun h195 => ?_)
            · refine g_aload_n (pc1 := 233) d_Law_value_232 rfl 0 rfl ?_
              refine g_getr (pc1 := 236) d_Law_value_233 rfl ⟨_, fo_Law_18⟩ (shLw_0 hWl0) (ltLw_0 hWl0) (rfLw_3 ld hWl0) ?_
              refine g_iconst (pc1 := 237) (v := 0) d_Law_value_236 rfl (by decide) ?_
              refine g_callS0 (pc1 := 240) (As := [.ref (Wl0 + 3), .int 0]) (rest := []) d_Law_value_237 rfl mo_Law_33 ms_Main_at (by decide) rfl rfl (Nat.le_of_ble_eq_true rfl) ?_
              refine t1_Main_at hld (Wl0 + 3) (shLw_3 hWl0) (ltLw_3 hWl0) (by decide) _ (fun r196 => ?_)
              refine g_ireturn (Or.inl rfl) d_Law_value_240 rfl ?_
              exact hQ _ _ _ k187
            · refine g_aload_n (pc1 := 35) d_Law_value_34 rfl 0 rfl ?_
              refine g_getr (pc1 := 38) d_Law_value_35 rfl ⟨_, fo_Law_11⟩ (shLw_0 hWl0) (ltLw_0 hWl0) (rfLw_0 ld hWl0) ?_
              refine g_iload_n (pc1 := 39) d_Law_value_38 rfl 2 rfl ?_
              refine g_iald (pc1 := 40) d_Law_value_39 rfl (shLw_1 hWl0) (ltLw_1 hWl0) (vin_of h191 h195 (by decide)) ?_
              refine Wp.topi (fun x197 ex197 => ?_)
              refine g_istore (pc1 := 42) (lv' := [(0, .ref Wl0), (1, .int v182), (2, .int v183), (3, .int v184), (4, .int x197)]) d_Law_value_40 rfl (by decide) [1, 2, 3, 4, 0] rfl ?_
              obtain ⟨x198, ex198⟩ : ∃ y : Int32, y = v183 + 1 := ⟨_, rfl⟩
              refine g_iinc (pc1 := 45) (v := x198) (lv' := [(0, .ref Wl0), (1, .int v182), (2, .int x198), (3, .int v184), (4, .int x197)]) d_Law_value_42 rfl 2 rfl (by rw [ex198]; rfl) (by decide) [1, 2, 0, 3, 4] rfl ?_
              refine g_iload (pc1 := 47) d_Law_value_45 rfl 4 rfl ?_
              refine g_sipush (pc1 := 50) (v := 20059) d_Law_value_47 rfl (by decide) ?_
              refine g_icmp_ne (pc1 := 53) (tgt := 56) d_Law_value_50 (by decide) rfl (fun h199 => ?_) (fun h199 => ?_)
              · refine g_iload (pc1 := 58) d_Law_value_56 rfl 4 rfl ?_
                refine g_sipush (pc1 := 61) (v := 20000) d_Law_value_58 rfl (by decide) ?_
                refine g_icmp_ge (pc1 := 64) (tgt := 117) d_Law_value_61 (by decide) rfl (fun h200 => ?_) (fun h200 => ?_)
                · refine g_iload_n (pc1 := 118) d_Law_value_117 rfl 1 rfl ?_
                  refine g_iconst (pc1 := 119) (v := 2) d_Law_value_118 rfl (by decide) ?_
                  refine g_icmp_lt (pc1 := 122) (tgt := 131) d_Law_value_119 (by decide) rfl (fun h201 => ?_) (fun h201 => ?_)
                  · refine g_iconst (pc1 := 132) (v := 0) d_Law_value_131 rfl (by decide) ?_
                    refine g_ireturn (Or.inl rfl) d_Law_value_132 rfl ?_
                    exact hQ _ _ _ k187
                  · refine g_iload_n (pc1 := 123) d_Law_value_122 rfl 1 rfl ?_
                    refine g_aload_n (pc1 := 124) d_Law_value_123 rfl 0 rfl ?_
                    refine g_getr (pc1 := 127) d_Law_value_124 rfl ⟨_, fo_Law_18⟩ (shLw_0 hWl0) (ltLw_0 hWl0) (rfLw_3 ld hWl0) ?_
                    refine g_alen (pc1 := 128) (v := 32) d_Law_value_127 rfl (shLw_3 hWl0) (by decide) (by decide) (ltLw_3 hWl0) (by decide) ?_
                    refine g_icmp_le (pc1 := 131) (tgt := 133) d_Law_value_128 (by decide) rfl (fun h202 => ?_) (fun h202 => ?_)
                    · refine g_aload_n (pc1 := 134) d_Law_value_133 rfl 0 rfl ?_
                      refine g_getr (pc1 := 137) d_Law_value_134 rfl ⟨_, fo_Law_18⟩ (shLw_0 hWl0) (ltLw_0 hWl0) (rfLw_3 ld hWl0) ?_
                      refine g_iload_n (pc1 := 138) d_Law_value_137 rfl 1 rfl ?_
                      refine g_iconst (pc1 := 139) (v := 2) d_Law_value_138 rfl (by decide) ?_
                      refine g_isub (pc1 := 140) d_Law_value_139 rfl ?_
                      refine g_iald (pc1 := 141) d_Law_value_140 rfl (shLw_3 hWl0) (ltLw_3 hWl0) (vin_s2 h201 h202) ?_
                      refine Wp.topi (fun x203 ex203 => ?_)
                      refine g_istore (pc1 := 143) (lv' := [(0, .ref Wl0), (1, .int v182), (2, .int x198), (3, .int v184), (4, .int x197), (5, .int x203)]) d_Law_value_141 rfl (by decide) [1, 2, 3, 4, 5, 0] rfl ?_
                      refine g_aload_n (pc1 := 144) d_Law_value_143 rfl 0 rfl ?_
                      refine g_getr (pc1 := 147) d_Law_value_144 rfl ⟨_, fo_Law_18⟩ (shLw_0 hWl0) (ltLw_0 hWl0) (rfLw_3 ld hWl0) ?_
                      refine g_iload_n (pc1 := 148) d_Law_value_147 rfl 1 rfl ?_
                      refine g_iconst (pc1 := 149) (v := 1) d_Law_value_148 rfl (by decide) ?_
                      refine g_isub (pc1 := 150) d_Law_value_149 rfl ?_
                      refine g_iald (pc1 := 151) d_Law_value_150 rfl (shLw_3 hWl0) (ltLw_3 hWl0) (vin_s1 h201 h202) ?_
                      refine Wp.topi (fun x204 ex204 => ?_)
                      refine g_istore (pc1 := 153) (lv' := [(0, .ref Wl0), (1, .int v182), (2, .int x198), (3, .int v184), (4, .int x197), (5, .int x203), (6, .int x204)]) d_Law_value_151 rfl (by decide) [1, 2, 3, 4, 5, 6, 0] rfl ?_
                      obtain ⟨x205, ex205⟩ : ∃ y : Int32, y = v182 + (-2) := ⟨_, rfl⟩
                      refine g_iinc (pc1 := 156) (v := x205) (lv' := [(0, .ref Wl0), (1, .int x205), (2, .int x198), (3, .int v184), (4, .int x197), (5, .int x203), (6, .int x204)]) d_Law_value_153 rfl 1 rfl (by rw [ex205]; rfl) (by decide) [1, 0, 2, 3, 4, 5, 6] rfl ?_
                      refine g_iload (pc1 := 158) d_Law_value_156 rfl 4 rfl ?_
                      refine g_sipush (pc1 := 161) (v := 20060) d_Law_value_158 rfl (by decide) ?_
                      refine g_icmp_ne (pc1 := 164) (tgt := 189) d_Law_value_161 (by decide) rfl (fun h206 => ?_) (fun h206 => ?_)
                      · refine g_iload (pc1 := 191) d_Law_value_189 rfl 4 rfl ?_
                        refine g_sipush (pc1 := 194) (v := 20047) d_Law_value_191 rfl (by decide) ?_
                        refine g_icmp_ne (pc1 := 197) (tgt := 204) d_Law_value_194 (by decide) rfl (fun h207 => ?_) (fun h207 => ?_)
                        · refine g_aload_n (pc1 := 205) d_Law_value_204 rfl 0 rfl ?_
                          refine g_getr (pc1 := 208) d_Law_value_205 rfl ⟨_, fo_Law_18⟩ (shLw_0 hWl0) (ltLw_0 hWl0) (rfLw_3 ld hWl0) ?_
                          refine g_iload_n (pc1 := 209) d_Law_value_208 rfl 1 rfl ?_
                          refine g_iload (pc1 := 211) d_Law_value_209 rfl 4 rfl ?_
                          refine g_sipush (pc1 := 214) (v := 20000) d_Law_value_211 rfl (by decide) ?_
                          refine g_isub (pc1 := 215) d_Law_value_214 rfl ?_
                          refine g_iload (pc1 := 217) d_Law_value_215 rfl 5 rfl ?_
                          refine g_iload (pc1 := 219) d_Law_value_217 rfl 6 rfl ?_
                          refine g_callS0 (pc1 := 222) (As := [.int (x197 - 20000), .int x203, .int x204]) (rest := [.int x205, .ref (Wl0 + 3)]) d_Law_value_219 rfl mo_Law_37 ms_Law_reckon (by decide) rfl rfl (Nat.le_of_ble_eq_true rfl) ?_
                          refine t1_Law_reckon hld _ _ _ (fun r208 => ?_)
                          refine g_iast (pc1 := 223) d_Law_value_222 rfl (shLw_3 hWl0) (ltLw_3 hWl0) (by rw [ex205]; exact vin_a2 h201 h202) ?_
                          refine Wp.topM (fun M209 eM209 => ?_)
                          obtain ⟨x210, ex210⟩ : ∃ y : Int32, y = x205 + 1 := ⟨_, rfl⟩
                          refine g_iinc (pc1 := 226) (v := x210) (lv' := [(0, .ref Wl0), (1, .int x210), (2, .int x198), (3, .int v184), (4, .int x197), (5, .int x203), (6, .int x204)]) d_Law_value_223 rfl 1 rfl (by rw [ex210]; rfl) (by decide) [1, 0, 2, 3, 4, 5, 6] rfl ?_
                          obtain ⟨x211, ex211⟩ : ∃ y : Int32, y = v184 + 1 := ⟨_, rfl⟩
                          refine g_iinc (pc1 := 229) (v := x211) (lv' := [(0, .ref Wl0), (1, .int x210), (2, .int x198), (3, .int x211), (4, .int x197), (5, .int x203), (6, .int x204)]) d_Law_value_226 rfl 3 rfl (by rw [ex211]; rfl) (by decide) [1, 2, 3, 0, 4, 5, 6] rfl ?_
                          refine g_goto (tgt := 6) d_Law_value_229 (by decide) ?_
                          refine Wp.loc (lv' := [(0, .ref Wl0), (1, .int x210), (2, .int x198), (3, .int x211)]) [0, 1, 2, 3] rfl ?_
                          exact ih179 x210 x198 x211 M209 L186 (Kp.wM k187 (S0_Lw_3 hWl0) eM209) (nn_up (y := (400 : Int32)) h189 ex211 n188) (md_up h189 ex211 hm180)
                        · refine g_iload (pc1 := 199) d_Law_value_197 rfl 6 rfl ?_
                          refine g_if_ne (pc1 := 202) (tgt := 204) d_Law_value_199 (by decide) rfl (fun h212 => ?_) (fun h212 => ?_)
                          · refine g_aload_n (pc1 := 205) d_Law_value_204 rfl 0 rfl ?_
                            refine g_getr (pc1 := 208) d_Law_value_205 rfl ⟨_, fo_Law_18⟩ (shLw_0 hWl0) (ltLw_0 hWl0) (rfLw_3 ld hWl0) ?_
                            refine g_iload_n (pc1 := 209) d_Law_value_208 rfl 1 rfl ?_
                            refine g_iload (pc1 := 211) d_Law_value_209 rfl 4 rfl ?_
                            refine g_sipush (pc1 := 214) (v := 20000) d_Law_value_211 rfl (by decide) ?_
                            refine g_isub (pc1 := 215) d_Law_value_214 rfl ?_
                            refine g_iload (pc1 := 217) d_Law_value_215 rfl 5 rfl ?_
                            refine g_iload (pc1 := 219) d_Law_value_217 rfl 6 rfl ?_
                            refine g_callS0 (pc1 := 222) (As := [.int (x197 - 20000), .int x203, .int x204]) (rest := [.int x205, .ref (Wl0 + 3)]) d_Law_value_219 rfl mo_Law_37 ms_Law_reckon (by decide) rfl rfl (Nat.le_of_ble_eq_true rfl) ?_
                            refine t1_Law_reckon hld _ _ _ (fun r213 => ?_)
                            refine g_iast (pc1 := 223) d_Law_value_222 rfl (shLw_3 hWl0) (ltLw_3 hWl0) (by rw [ex205]; exact vin_a2 h201 h202) ?_
                            refine Wp.topM (fun M214 eM214 => ?_)
                            obtain ⟨x215, ex215⟩ : ∃ y : Int32, y = x205 + 1 := ⟨_, rfl⟩
                            refine g_iinc (pc1 := 226) (v := x215) (lv' := [(0, .ref Wl0), (1, .int x215), (2, .int x198), (3, .int v184), (4, .int x197), (5, .int x203), (6, .int x204)]) d_Law_value_223 rfl 1 rfl (by rw [ex215]; rfl) (by decide) [1, 0, 2, 3, 4, 5, 6] rfl ?_
                            obtain ⟨x216, ex216⟩ : ∃ y : Int32, y = v184 + 1 := ⟨_, rfl⟩
                            refine g_iinc (pc1 := 229) (v := x216) (lv' := [(0, .ref Wl0), (1, .int x215), (2, .int x198), (3, .int x216), (4, .int x197), (5, .int x203), (6, .int x204)]) d_Law_value_226 rfl 3 rfl (by rw [ex216]; rfl) (by decide) [1, 2, 3, 0, 4, 5, 6] rfl ?_
                            refine g_goto (tgt := 6) d_Law_value_229 (by decide) ?_
                            refine Wp.loc (lv' := [(0, .ref Wl0), (1, .int x215), (2, .int x198), (3, .int x216)]) [0, 1, 2, 3] rfl ?_
                            exact ih179 x215 x198 x216 M214 L186 (Kp.wM k187 (S0_Lw_3 hWl0) eM214) (nn_up (y := (400 : Int32)) h189 ex216 n188) (md_up h189 ex216 hm180)
                          · refine g_iconst (pc1 := 203) (v := 0) d_Law_value_202 rfl (by decide) ?_
                            refine g_ireturn (Or.inl rfl) d_Law_value_203 rfl ?_
                            exact hQ _ _ _ k187
                      · refine g_iload (pc1 := 166) d_Law_value_164 rfl 5 rfl ?_
                        refine g_iload (pc1 := 168) d_Law_value_166 rfl 6 rfl ?_
                        refine g_icmp_ge (pc1 := 171) (tgt := 177) d_Law_value_168 (by decide) rfl (fun h217 => ?_) (fun h217 => ?_)
                        · refine g_aload_n (pc1 := 178) d_Law_value_177 rfl 0 rfl ?_
                          refine g_getr (pc1 := 181) d_Law_value_178 rfl ⟨_, fo_Law_11⟩ (shLw_0 hWl0) (ltLw_0 hWl0) (rfLw_0 ld hWl0) ?_
                          refine g_iload_n (pc1 := 182) d_Law_value_181 rfl 2 rfl ?_
                          refine g_callS0 (pc1 := 185) (As := [.ref (Wl0 + 1), .int x198]) (rest := []) d_Law_value_182 rfl mo_Law_33 ms_Main_at (by decide) rfl rfl (Nat.le_of_ble_eq_true rfl) ?_
                          refine t1_Main_at hld (Wl0 + 1) (shLw_1 hWl0) (ltLw_1 hWl0) (by decide) _ (fun r218 => ?_)
                          refine g_istore_n (pc1 := 186) (lv' := [(0, .ref Wl0), (1, .int x205), (2, .int r218), (3, .int v184), (4, .int x197), (5, .int x203), (6, .int x204)]) d_Law_value_185 rfl rfl (by decide) [1, 2, 0, 3, 4, 5, 6] rfl ?_
                          refine g_goto (tgt := 226) d_Law_value_186 (by decide) ?_
                          obtain ⟨x219, ex219⟩ : ∃ y : Int32, y = v184 + 1 := ⟨_, rfl⟩
                          refine g_iinc (pc1 := 229) (v := x219) (lv' := [(0, .ref Wl0), (1, .int x205), (2, .int r218), (3, .int x219), (4, .int x197), (5, .int x203), (6, .int x204)]) d_Law_value_226 rfl 3 rfl (by rw [ex219]; rfl) (by decide) [1, 2, 3, 0, 4, 5, 6] rfl ?_
                          refine g_goto (tgt := 6) d_Law_value_229 (by decide) ?_
                          refine Wp.loc (lv' := [(0, .ref Wl0), (1, .int x205), (2, .int r218), (3, .int x219)]) [0, 1, 2, 3] rfl ?_
                          exact ih179 x205 r218 x219 M185 L186 k187 (nn_up (y := (400 : Int32)) h189 ex219 n188) (md_up h189 ex219 hm180)
                        · refine g_iload_n (pc1 := 172) d_Law_value_171 rfl 2 rfl ?_
                          refine g_iconst (pc1 := 173) (v := 1) d_Law_value_172 rfl (by decide) ?_
                          refine g_iadd (pc1 := 174) d_Law_value_173 rfl ?_
                          refine g_goto (tgt := 185) d_Law_value_174 (by decide) ?_
                          refine Wp.topi (fun x220 ex220 => ?_)
                          refine g_istore_n (pc1 := 186) (lv' := [(0, .ref Wl0), (1, .int x205), (2, .int x220), (3, .int v184), (4, .int x197), (5, .int x203), (6, .int x204)]) d_Law_value_185 rfl rfl (by decide) [1, 2, 0, 3, 4, 5, 6] rfl ?_
                          refine g_goto (tgt := 226) d_Law_value_186 (by decide) ?_
                          obtain ⟨x221, ex221⟩ : ∃ y : Int32, y = v184 + 1 := ⟨_, rfl⟩
                          refine g_iinc (pc1 := 229) (v := x221) (lv' := [(0, .ref Wl0), (1, .int x205), (2, .int x220), (3, .int x221), (4, .int x197), (5, .int x203), (6, .int x204)]) d_Law_value_226 rfl 3 rfl (by rw [ex221]; rfl) (by decide) [1, 2, 3, 0, 4, 5, 6] rfl ?_
                          refine g_goto (tgt := 6) d_Law_value_229 (by decide) ?_
                          refine Wp.loc (lv' := [(0, .ref Wl0), (1, .int x205), (2, .int x220), (3, .int x221)]) [0, 1, 2, 3] rfl ?_
                          exact ih179 x205 x220 x221 M185 L186 k187 (nn_up (y := (400 : Int32)) h189 ex221 n188) (md_up h189 ex221 hm180)
                    · refine g_iconst (pc1 := 132) (v := 0) d_Law_value_131 rfl (by decide) ?_
                      refine g_ireturn (Or.inl rfl) d_Law_value_132 rfl ?_
                      exact hQ _ _ _ k187
                · refine g_iload_n (pc1 := 65) d_Law_value_64 rfl 1 rfl ?_
                  refine g_if_lt (pc1 := 68) (tgt := 77) d_Law_value_65 (by decide) rfl (fun h222 => ?_) (fun h222 => ?_)
                  · refine g_iconst (pc1 := 78) (v := 0) d_Law_value_77 rfl (by decide) ?_
                    refine g_ireturn (Or.inl rfl) d_Law_value_78 rfl ?_
                    exact hQ _ _ _ k187
                  · refine g_iload_n (pc1 := 69) d_Law_value_68 rfl 1 rfl ?_
                    refine g_aload_n (pc1 := 70) d_Law_value_69 rfl 0 rfl ?_
                    refine g_getr (pc1 := 73) d_Law_value_70 rfl ⟨_, fo_Law_18⟩ (shLw_0 hWl0) (ltLw_0 hWl0) (rfLw_3 ld hWl0) ?_
                    refine g_alen (pc1 := 74) (v := 32) d_Law_value_73 rfl (shLw_3 hWl0) (by decide) (by decide) (ltLw_3 hWl0) (by decide) ?_
                    refine g_icmp_lt (pc1 := 77) (tgt := 79) d_Law_value_74 (by decide) rfl (fun h223 => ?_) (fun h223 => ?_)
                    · refine g_aload_n (pc1 := 80) d_Law_value_79 rfl 0 rfl ?_
                      refine g_getr (pc1 := 83) d_Law_value_80 rfl ⟨_, fo_Law_18⟩ (shLw_0 hWl0) (ltLw_0 hWl0) (rfLw_3 ld hWl0) ?_
                      refine g_iload_n (pc1 := 84) d_Law_value_83 rfl 1 rfl ?_
                      refine g_iload (pc1 := 86) d_Law_value_84 rfl 4 rfl ?_
                      refine g_sipush (pc1 := 89) (v := 10000) d_Law_value_86 rfl (by decide) ?_
                      refine g_icmp_ge (pc1 := 92) (tgt := 97) d_Law_value_89 (by decide) rfl (fun h224 => ?_) (fun h224 => ?_)
                      · refine g_aload_n (pc1 := 98) d_Law_value_97 rfl 0 rfl ?_
                        refine g_getr (pc1 := 101) d_Law_value_98 rfl ⟨_, fo_Law_15⟩ (shLw_0 hWl0) (ltLw_0 hWl0) (rfLw_2 ld hWl0) ?_
                        refine g_iload (pc1 := 103) d_Law_value_101 rfl 4 rfl ?_
                        refine g_sipush (pc1 := 106) (v := 10000) d_Law_value_103 rfl (by decide) ?_
                        refine g_isub (pc1 := 107) d_Law_value_106 rfl ?_
                        refine g_callS0 (pc1 := 110) (As := [.ref (Wl0 + 2), .int (x197 - 10000)]) (rest := [.int v182, .ref (Wl0 + 3)]) d_Law_value_107 rfl mo_Law_33 ms_Main_at (by decide) rfl rfl (Nat.le_of_ble_eq_true rfl) ?_
                        refine t1_Main_at hld (Wl0 + 2) (shLw_2 hWl0) (ltLw_2 hWl0) (by decide) _ (fun r225 => ?_)
                        refine g_iast (pc1 := 111) d_Law_value_110 rfl (shLw_3 hWl0) (ltLw_3 hWl0) (vin_of h222 (fun q => i_nl q h223) (by decide)) ?_
                        refine Wp.topM (fun M226 eM226 => ?_)
                        obtain ⟨x227, ex227⟩ : ∃ y : Int32, y = v182 + 1 := ⟨_, rfl⟩
                        refine g_iinc (pc1 := 114) (v := x227) (lv' := [(0, .ref Wl0), (1, .int x227), (2, .int x198), (3, .int v184), (4, .int x197)]) d_Law_value_111 rfl 1 rfl (by rw [ex227]; rfl) (by decide) [1, 0, 2, 3, 4] rfl ?_
                        refine g_goto (tgt := 226) d_Law_value_114 (by decide) ?_
                        obtain ⟨x228, ex228⟩ : ∃ y : Int32, y = v184 + 1 := ⟨_, rfl⟩
                        refine g_iinc (pc1 := 229) (v := x228) (lv' := [(0, .ref Wl0), (1, .int x227), (2, .int x198), (3, .int x228), (4, .int x197)]) d_Law_value_226 rfl 3 rfl (by rw [ex228]; rfl) (by decide) [1, 2, 3, 0, 4] rfl ?_
                        refine g_goto (tgt := 6) d_Law_value_229 (by decide) ?_
                        refine Wp.loc (lv' := [(0, .ref Wl0), (1, .int x227), (2, .int x198), (3, .int x228)]) [0, 1, 2, 3] rfl ?_
                        exact ih179 x227 x198 x228 M226 L186 (Kp.wM k187 (S0_Lw_3 hWl0) eM226) (nn_up (y := (400 : Int32)) h189 ex228 n188) (md_up h189 ex228 hm180)
                      · refine g_iload (pc1 := 94) d_Law_value_92 rfl 4 rfl ?_
                        refine g_goto (tgt := 110) d_Law_value_94 (by decide) ?_
                        refine g_iast (pc1 := 111) d_Law_value_110 rfl (shLw_3 hWl0) (ltLw_3 hWl0) (vin_of h222 (fun q => i_nl q h223) (by decide)) ?_
                        refine Wp.topM (fun M229 eM229 => ?_)
                        obtain ⟨x230, ex230⟩ : ∃ y : Int32, y = v182 + 1 := ⟨_, rfl⟩
                        refine g_iinc (pc1 := 114) (v := x230) (lv' := [(0, .ref Wl0), (1, .int x230), (2, .int x198), (3, .int v184), (4, .int x197)]) d_Law_value_111 rfl 1 rfl (by rw [ex230]; rfl) (by decide) [1, 0, 2, 3, 4] rfl ?_
                        refine g_goto (tgt := 226) d_Law_value_114 (by decide) ?_
                        obtain ⟨x231, ex231⟩ : ∃ y : Int32, y = v184 + 1 := ⟨_, rfl⟩
                        refine g_iinc (pc1 := 229) (v := x231) (lv' := [(0, .ref Wl0), (1, .int x230), (2, .int x198), (3, .int x231), (4, .int x197)]) d_Law_value_226 rfl 3 rfl (by rw [ex231]; rfl) (by decide) [1, 2, 3, 0, 4] rfl ?_
                        refine g_goto (tgt := 6) d_Law_value_229 (by decide) ?_
                        refine Wp.loc (lv' := [(0, .ref Wl0), (1, .int x230), (2, .int x198), (3, .int x231)]) [0, 1, 2, 3] rfl ?_
                        exact ih179 x230 x198 x231 M229 L186 (Kp.wM k187 (S0_Lw_3 hWl0) eM229) (nn_up (y := (400 : Int32)) h189 ex231 n188) (md_up h189 ex231 hm180)
                    · refine g_iconst (pc1 := 78) (v := 0) d_Law_value_77 rfl (by decide) ?_
                      refine g_ireturn (Or.inl rfl) d_Law_value_78 rfl ?_
                      exact hQ _ _ _ k187
              · refine g_goto (tgt := 232) d_Law_value_53 (by decide) ?_
                refine g_aload_n (pc1 := 233) d_Law_value_232 rfl 0 rfl ?_
                refine g_getr (pc1 := 236) d_Law_value_233 rfl ⟨_, fo_Law_18⟩ (shLw_0 hWl0) (ltLw_0 hWl0) (rfLw_3 ld hWl0) ?_
                refine g_iconst (pc1 := 237) (v := 0) d_Law_value_236 rfl (by decide) ?_
                refine g_callS0 (pc1 := 240) (As := [.ref (Wl0 + 3), .int 0]) (rest := []) d_Law_value_237 rfl mo_Law_33 ms_Main_at (by decide) rfl rfl (Nat.le_of_ble_eq_true rfl) ?_
                refine t1_Main_at hld (Wl0 + 3) (shLw_3 hWl0) (ltLw_3 hWl0) (by decide) _ (fun r232 => ?_)
                refine g_ireturn (Or.inl rfl) d_Law_value_240 rfl ?_
                exact hQ _ _ _ k187
  exact LP181 _ 0 0 0 M L Kp.rf (by decide) (Nat.lt_succ_self _)
set_option maxHeartbeats 4000000 in
set_option maxRecDepth 20000 in
theorem t1_MenuSearch_isFree {l : Launch} {ld : Nat} (hld : isLa ld) {M : gM} {L : gL} {Q : Option Value → gM → gL → gR → Prop} (p1 : Int32) (p2 : Int32) (p3 : Int32) (hQ : ∀ (r : Int32) , (r = 0 ∨ r = 1) → Q (some (.int r)) M L (rf ld)) : Tm l y_MenuSearch_isFree (0, 0, 447) 447 [.ref 396, .int p1, .int p2, .int p3] M L (rf ld) Q := by
  refine Tm.of (by decide) (Nat.le_of_ble_eq_true rfl) ?_
  show Wp l y_MenuSearch_isFree (0, 0, 447) 447 0 0 0 [(0, .ref 396), (1, .int p1), (2, .int p2), (3, .int p3)] [] M L (rf ld) Q
  refine g_iload_n (pc1 := 1) d_MenuSearch_isFree_0 rfl 3 rfl ?_
  refine g_if_ge (pc1 := 4) (tgt := 32) d_MenuSearch_isFree_1 (by decide) rfl (fun h233 => ?_) (fun h233 => ?_)
  · refine g_iload_n (pc1 := 33) d_MenuSearch_isFree_32 rfl 1 rfl ?_
    refine g_iload_n (pc1 := 34) d_MenuSearch_isFree_33 rfl 2 rfl ?_
    refine g_iload_n (pc1 := 35) d_MenuSearch_isFree_34 rfl 3 rfl ?_
    refine g_callS0 (pc1 := 38) (As := [.int p1, .int p2, .int p3]) (rest := []) d_MenuSearch_isFree_35 rfl mo_MenuSearch_71 ms_MenuSearch_indexOf (by decide) rfl rfl (Nat.le_of_ble_eq_true rfl) ?_
    refine t1_MenuSearch_indexOf hld _ _ _ (fun r234 => ?_)
    refine g_istore (pc1 := 40) (lv' := [(0, .ref 396), (1, .int p1), (2, .int p2), (3, .int p3), (4, .int r234)]) d_MenuSearch_isFree_38 rfl (by decide) [1, 2, 3, 4, 0] rfl ?_
    refine g_iload (pc1 := 42) d_MenuSearch_isFree_40 rfl 4 rfl ?_
    refine g_if_lt (pc1 := 45) (tgt := 69) d_MenuSearch_isFree_42 (by decide) rfl (fun h235 => ?_) (fun h235 => ?_)
    · refine g_iconst (pc1 := 70) (v := 0) d_MenuSearch_isFree_69 rfl (by decide) ?_
      refine g_ireturn (Or.inr ⟨rfl, rfl⟩) d_MenuSearch_isFree_70 rfl ?_
      exact hQ _ (Or.inl rfl)
    · refine g_iload (pc1 := 47) d_MenuSearch_isFree_45 rfl 4 rfl ?_
      refine g_aload_n (pc1 := 48) d_MenuSearch_isFree_47 rfl 0 rfl ?_
      refine g_getr (pc1 := 51) d_MenuSearch_isFree_48 rfl ⟨_, fo_MenuSearch_15⟩ sh_396 (by decide) (rf_396_1 ld) ?_
      refine g_alen (pc1 := 52) (v := 80) d_MenuSearch_isFree_51 rfl sh_398 (by decide) (by decide) (by decide) (by decide) ?_
      refine g_icmp_ge (pc1 := 55) (tgt := 69) d_MenuSearch_isFree_52 (by decide) rfl (fun h236 => ?_) (fun h236 => ?_)
      · refine g_iconst (pc1 := 70) (v := 0) d_MenuSearch_isFree_69 rfl (by decide) ?_
        refine g_ireturn (Or.inr ⟨rfl, rfl⟩) d_MenuSearch_isFree_70 rfl ?_
        exact hQ _ (Or.inl rfl)
      · refine g_aload_n (pc1 := 56) d_MenuSearch_isFree_55 rfl 0 rfl ?_
        refine g_getr (pc1 := 59) d_MenuSearch_isFree_56 rfl ⟨_, fo_MenuSearch_15⟩ sh_396 (by decide) (rf_396_1 ld) ?_
        refine g_iload (pc1 := 61) d_MenuSearch_isFree_59 rfl 4 rfl ?_
        refine g_zald (pc1 := 62) d_MenuSearch_isFree_61 rfl sh_398 (by decide) (vin_of h235 h236 (by decide)) ?_
        refine g_if_eq (pc1 := 65) (tgt := 69) d_MenuSearch_isFree_62 (by decide) rfl (fun h237 => ?_) (fun h237 => ?_)
        · refine g_iconst (pc1 := 70) (v := 0) d_MenuSearch_isFree_69 rfl (by decide) ?_
          refine g_ireturn (Or.inr ⟨rfl, rfl⟩) d_MenuSearch_isFree_70 rfl ?_
          exact hQ _ (Or.inl rfl)
        · refine g_iconst (pc1 := 66) (v := 1) d_MenuSearch_isFree_65 rfl (by decide) ?_
          refine g_goto (tgt := 70) d_MenuSearch_isFree_66 (by decide) ?_
          refine g_ireturn (Or.inr ⟨rfl, rfl⟩) d_MenuSearch_isFree_70 rfl ?_
          exact hQ _ (Or.inr rfl)
  · refine g_iload_n (pc1 := 5) d_MenuSearch_isFree_4 rfl 1 rfl ?_
    refine g_if_lt (pc1 := 8) (tgt := 30) d_MenuSearch_isFree_5 (by decide) rfl (fun h238 => ?_) (fun h238 => ?_)
    · refine g_iconst (pc1 := 31) (v := 0) d_MenuSearch_isFree_30 rfl (by decide) ?_
      refine g_ireturn (Or.inr ⟨rfl, rfl⟩) d_MenuSearch_isFree_31 rfl ?_
      exact hQ _ (Or.inl rfl)
    · refine g_iload_n (pc1 := 9) d_MenuSearch_isFree_8 rfl 1 rfl ?_
      refine g_aload_n (pc1 := 10) d_MenuSearch_isFree_9 rfl 0 rfl ?_
      refine g_getr (pc1 := 13) d_MenuSearch_isFree_10 rfl ⟨_, fo_MenuSearch_9⟩ sh_396 (by decide) (rf_396_0 ld) ?_
      refine g_alen (pc1 := 14) (v := 4) d_MenuSearch_isFree_13 rfl sh_397 (by decide) (by decide) (by decide) (by decide) ?_
      refine g_icmp_ge (pc1 := 17) (tgt := 30) d_MenuSearch_isFree_14 (by decide) rfl (fun h239 => ?_) (fun h239 => ?_)
      · refine g_iconst (pc1 := 31) (v := 0) d_MenuSearch_isFree_30 rfl (by decide) ?_
        refine g_ireturn (Or.inr ⟨rfl, rfl⟩) d_MenuSearch_isFree_31 rfl ?_
        exact hQ _ (Or.inl rfl)
      · refine g_aload_n (pc1 := 18) d_MenuSearch_isFree_17 rfl 0 rfl ?_
        refine g_getr (pc1 := 21) d_MenuSearch_isFree_18 rfl ⟨_, fo_MenuSearch_9⟩ sh_396 (by decide) (rf_396_0 ld) ?_
        refine g_iload_n (pc1 := 22) d_MenuSearch_isFree_21 rfl 1 rfl ?_
        refine g_zald (pc1 := 23) d_MenuSearch_isFree_22 rfl sh_397 (by decide) (vin_of h238 h239 (by decide)) ?_
        refine g_if_eq (pc1 := 26) (tgt := 30) d_MenuSearch_isFree_23 (by decide) rfl (fun h240 => ?_) (fun h240 => ?_)
        · refine g_iconst (pc1 := 31) (v := 0) d_MenuSearch_isFree_30 rfl (by decide) ?_
          refine g_ireturn (Or.inr ⟨rfl, rfl⟩) d_MenuSearch_isFree_31 rfl ?_
          exact hQ _ (Or.inl rfl)
        · refine g_iconst (pc1 := 27) (v := 1) d_MenuSearch_isFree_26 rfl (by decide) ?_
          refine g_goto (tgt := 31) d_MenuSearch_isFree_27 (by decide) ?_
          refine g_ireturn (Or.inr ⟨rfl, rfl⟩) d_MenuSearch_isFree_31 rfl ?_
          exact hQ _ (Or.inr rfl)
set_option maxHeartbeats 4000000 in
set_option maxRecDepth 20000 in
theorem t1_MenuSearch_step {l : Launch} {ld : Nat} (hld : isLa ld) {M : gM} {L : gL} {Q : Option Value → gM → gL → gR → Prop} (p1 : Int32) (p2 : Int32) (hQ : ∀ (r : Int32) (M' : gM) (L' : gL), (r = 0 ∨ r = 1) → Kp S1 M L M' L' → Q (some (.int r)) M' L' (rf ld)) : Tm l y_MenuSearch_step (0, 0, 447) 447 [.ref 396, .int p1, .int p2] M L (rf ld) Q := by
  refine Tm.of (by decide) (Nat.le_of_ble_eq_true rfl) ?_
  show Wp l y_MenuSearch_step (0, 0, 447) 447 0 0 0 [(0, .ref 396), (1, .int p1), (2, .int p2)] [] M L (rf ld) Q
  refine g_iload_n (pc1 := 1) d_MenuSearch_step_0 rfl 1 rfl ?_
  refine g_iconst (pc1 := 2) (v := 1) d_MenuSearch_step_1 rfl (by decide) ?_
  refine g_isub (pc1 := 3) d_MenuSearch_step_2 rfl ?_
  refine Wp.topi (fun x241 ex241 => ?_)
  refine g_istore_n (pc1 := 4) (lv' := [(0, .ref 396), (1, .int p1), (2, .int p2), (3, .int x241)]) d_MenuSearch_step_3 rfl rfl (by decide) [1, 2, 3, 0] rfl ?_
  have LP245 : ∀ (f242 : Nat) (v246 : Int32) (M247 : gM) (L248 : gL), Kp S1 M L M247 L248 → (v246.toInt + 1).toNat < f242 → Wp l y_MenuSearch_step (0, 0, 447) 447 0 0 4 [(0, .ref 396), (1, .int p1), (2, .int p2), (3, .int v246)] [] M247 L248 (rf ld) Q := by
    intro f242
    induction f242 with
    | zero => intro v246 M247 L248 _ hm244; exact absurd hm244 (Nat.not_lt_zero _)
    | succ f242 ih243 =>
      intro v246 M247 L248 k249 hm244
      refine g_iload_n (pc1 := 5) d_MenuSearch_step_4 rfl 3 rfl ?_
      refine g_if_lt (pc1 := 8) (tgt := 53) d_MenuSearch_step_5 (by decide) rfl (fun h250 => ?_) (fun h250 => ?_)
      · refine g_iconst (pc1 := 54) (v := 0) d_MenuSearch_step_53 rfl (by decide) ?_
        refine g_ireturn (Or.inr ⟨rfl, rfl⟩) d_MenuSearch_step_54 rfl ?_
        exact hQ _ _ _ (Or.inl rfl) k249
      · refine g_aload_n (pc1 := 9) d_MenuSearch_step_8 rfl 0 rfl ?_
        refine g_getr (pc1 := 12) d_MenuSearch_step_9 rfl ⟨_, fo_MenuSearch_18⟩ sh_396 (by decide) (rf_396_2 ld) ?_
        refine g_iload_n (pc1 := 13) d_MenuSearch_step_12 rfl 3 rfl ?_
        refine g_callS0 (pc1 := 16) (As := [.ref 399, .int v246]) (rest := []) d_MenuSearch_step_13 rfl mo_MenuSearch_75 ms_Main_at (by decide) rfl rfl (Nat.le_of_ble_eq_true rfl) ?_
        refine t1_Main_at hld 399 sh_399 (by decide) (by decide) _ (fun r251 => ?_)
        refine g_istore (pc1 := 18) (lv' := [(0, .ref 396), (1, .int p1), (2, .int p2), (3, .int v246), (4, .int r251)]) d_MenuSearch_step_16 rfl (by decide) [1, 2, 3, 4, 0] rfl ?_
        refine g_iload (pc1 := 20) d_MenuSearch_step_18 rfl 4 rfl ?_
        refine g_iload_n (pc1 := 21) d_MenuSearch_step_20 rfl 2 rfl ?_
        refine g_icmp_ge (pc1 := 24) (tgt := 38) d_MenuSearch_step_21 (by decide) rfl (fun h252 => ?_) (fun h252 => ?_)
        · refine g_aload_n (pc1 := 39) d_MenuSearch_step_38 rfl 0 rfl ?_
          refine g_getr (pc1 := 42) d_MenuSearch_step_39 rfl ⟨_, fo_MenuSearch_18⟩ sh_396 (by decide) (rf_396_2 ld) ?_
          refine g_iload_n (pc1 := 43) d_MenuSearch_step_42 rfl 3 rfl ?_
          refine g_iconst (pc1 := 44) (v := 0) d_MenuSearch_step_43 rfl (by decide) ?_
          refine g_callS0 (pc1 := 47) (As := [.ref 399, .int v246, .int 0]) (rest := []) d_MenuSearch_step_44 rfl mo_MenuSearch_83 ms_Main_put (by decide) rfl rfl (Nat.le_of_ble_eq_true rfl) ?_
          refine t1_Main_put hld 399 sh_399 (by decide) (by decide) _ _ (fun  M253 L254 k255 => ?_)
          obtain ⟨x256, ex256⟩ : ∃ y : Int32, y = v246 + (-1) := ⟨_, rfl⟩
          refine g_iinc (pc1 := 50) (v := x256) (lv' := [(0, .ref 396), (1, .int p1), (2, .int p2), (3, .int x256), (4, .int r251)]) d_MenuSearch_step_47 rfl 3 rfl (by rw [ex256]; rfl) (by decide) [1, 2, 3, 0, 4] rfl ?_
          refine g_goto (tgt := 4) d_MenuSearch_step_50 (by decide) ?_
          refine Wp.loc (lv' := [(0, .ref 396), (1, .int p1), (2, .int p2), (3, .int x256)]) [0, 1, 2, 3] rfl ?_
          exact ih243 x256 M253 L254 (Kp.trans k249 (Kp.mono k255 (one_S rfl))) (md_dn h250 ex256 hm244)
        · refine g_aload_n (pc1 := 25) d_MenuSearch_step_24 rfl 0 rfl ?_
          refine g_getr (pc1 := 28) d_MenuSearch_step_25 rfl ⟨_, fo_MenuSearch_18⟩ sh_396 (by decide) (rf_396_2 ld) ?_
          refine g_iload_n (pc1 := 29) d_MenuSearch_step_28 rfl 3 rfl ?_
          refine g_iload (pc1 := 31) d_MenuSearch_step_29 rfl 4 rfl ?_
          refine g_iconst (pc1 := 32) (v := 1) d_MenuSearch_step_31 rfl (by decide) ?_
          refine g_iadd (pc1 := 33) d_MenuSearch_step_32 rfl ?_
          refine g_callS0 (pc1 := 36) (As := [.ref 399, .int v246, .int (r251 + 1)]) (rest := []) d_MenuSearch_step_33 rfl mo_MenuSearch_83 ms_Main_put (by decide) rfl rfl (Nat.le_of_ble_eq_true rfl) ?_
          refine t1_Main_put hld 399 sh_399 (by decide) (by decide) _ _ (fun  M257 L258 k259 => ?_)
          refine g_iconst (pc1 := 37) (v := 1) d_MenuSearch_step_36 rfl (by decide) ?_
          refine g_ireturn (Or.inr ⟨rfl, rfl⟩) d_MenuSearch_step_37 rfl ?_
          exact hQ _ _ _ (Or.inr rfl) (Kp.trans k249 (Kp.mono k259 (one_S rfl)))
  exact LP245 _ x241 M L Kp.rf (Nat.lt_succ_self _)
set_option maxHeartbeats 4000000 in
set_option maxRecDepth 20000 in
theorem t1_PotSearch_fillFrom {l : Launch} {ld : Nat} (hld : isLa ld) {M : gM} {L : gL} {Q : Option Value → gM → gL → gR → Prop} (X1 : Nat) (hX1 : isSt X1) (p2 : Int32) (p3 : Int32) (hQ : ∀ (M' : gM) (L' : gL), Kp S1 M L M' L' → Q none M' L' (rf ld)) : Tm l y_PotSearch_fillFrom (0, 0, 447) 447 [.ref 391, .ref X1, .int p2, .int p3] M L (rf ld) Q := by
  refine Tm.of (by decide) (Nat.le_of_ble_eq_true rfl) ?_
  show Wp l y_PotSearch_fillFrom (0, 0, 447) 447 0 0 0 [(0, .ref 391), (1, .ref X1), (2, .int p2), (3, .int p3)] [] M L (rf ld) Q
  refine g_iload_n (pc1 := 1) d_PotSearch_fillFrom_0 rfl 3 rfl ?_
  refine g_istore (pc1 := 3) (lv' := [(0, .ref 391), (1, .ref X1), (2, .int p2), (3, .int p3), (4, .int p3)]) d_PotSearch_fillFrom_1 rfl (by decide) [1, 2, 3, 4, 0] rfl ?_
  refine g_iload_n (pc1 := 4) d_PotSearch_fillFrom_3 rfl 2 rfl ?_
  refine g_istore (pc1 := 6) (lv' := [(0, .ref 391), (1, .ref X1), (2, .int p2), (3, .int p3), (4, .int p3), (5, .int p2)]) d_PotSearch_fillFrom_4 rfl (by decide) [1, 2, 3, 4, 5, 0] rfl ?_
  have LP263 : ∀ (f260 : Nat) (v264 : Int32) (v265 : Int32) (M266 : gM) (L267 : gL), Kp S1 M L M266 L267 → ((6 : Int32).toInt - v265.toInt).toNat < f260 → Wp l y_PotSearch_fillFrom (0, 0, 447) 447 0 0 6 [(0, .ref 391), (1, .ref X1), (2, .int p2), (3, .int p3), (4, .int v264), (5, .int v265)] [] M266 L267 (rf ld) Q := by
    intro f260
    induction f260 with
    | zero => intro v264 v265 M266 L267 _ hm262; exact absurd hm262 (Nat.not_lt_zero _)
    | succ f260 ih261 =>
      intro v264 v265 M266 L267 k268 hm262
      refine g_iload (pc1 := 8) d_PotSearch_fillFrom_6 rfl 5 rfl ?_
      refine g_bipush (pc1 := 10) (v := 6) d_PotSearch_fillFrom_8 rfl (by decide) ?_
      refine g_icmp_ge (pc1 := 13) (tgt := 53) d_PotSearch_fillFrom_10 (by decide) rfl (fun h269 => ?_) (fun h269 => ?_)
      · refine g_return rfl d_PotSearch_fillFrom_53 rfl ?_
        exact hQ _ _ k268
      · refine g_iload (pc1 := 15) d_PotSearch_fillFrom_13 rfl 4 rfl ?_
        refine g_aload_n (pc1 := 16) d_PotSearch_fillFrom_15 rfl 1 rfl ?_
        refine g_getr (pc1 := 19) d_PotSearch_fillFrom_16 rfl ⟨_, fo_PotSearch_72⟩ (shSt_0 hX1) (ltSt_0 hX1) (rfSt_5 ld hX1) ?_
        refine g_iload (pc1 := 21) d_PotSearch_fillFrom_19 rfl 5 rfl ?_
        refine g_callS0 (pc1 := 24) (As := [.ref (X1 + 2), .int v265]) (rest := [.int v264]) d_PotSearch_fillFrom_21 rfl mo_PotSearch_75 ms_Main_at (by decide) rfl rfl (Nat.le_of_ble_eq_true rfl) ?_
        refine t1_Main_at hld (X1 + 2) (shSt_2 hX1) (ltSt_2 hX1) (by decide) _ (fun r270 => ?_)
        refine g_mmin (pc1 := 27) d_PotSearch_fillFrom_24 rfl mm_PotSearch_79 (by decide) ⟨Nat.le_refl 0, Nat.le_refl 0⟩ (Nat.le_of_ble_eq_true rfl) ?_
        refine Wp.topi (fun x271 ex271 => ?_)
        refine g_istore (pc1 := 29) (lv' := [(0, .ref 391), (1, .ref X1), (2, .int p2), (3, .int p3), (4, .int v264), (5, .int v265), (6, .int x271)]) d_PotSearch_fillFrom_27 rfl (by decide) [1, 2, 3, 4, 5, 6, 0] rfl ?_
        refine g_aload_n (pc1 := 30) d_PotSearch_fillFrom_29 rfl 0 rfl ?_
        refine g_getr (pc1 := 33) d_PotSearch_fillFrom_30 rfl ⟨_, fo_PotSearch_15⟩ sh_391 (by decide) (rf_391_1 ld) ?_
        refine g_iload (pc1 := 35) d_PotSearch_fillFrom_33 rfl 5 rfl ?_
        refine g_iload (pc1 := 37) d_PotSearch_fillFrom_35 rfl 6 rfl ?_
        refine g_callS0 (pc1 := 40) (As := [.ref 393, .int v265, .int x271]) (rest := []) d_PotSearch_fillFrom_37 rfl mo_PotSearch_24 ms_Main_put (by decide) rfl rfl (Nat.le_of_ble_eq_true rfl) ?_
        refine t1_Main_put hld 393 sh_393 (by decide) (by decide) _ _ (fun  M272 L273 k274 => ?_)
        refine g_iload (pc1 := 42) d_PotSearch_fillFrom_40 rfl 4 rfl ?_
        refine g_iload (pc1 := 44) d_PotSearch_fillFrom_42 rfl 6 rfl ?_
        refine g_isub (pc1 := 45) d_PotSearch_fillFrom_44 rfl ?_
        refine Wp.topi (fun x275 ex275 => ?_)
        refine g_istore (pc1 := 47) (lv' := [(0, .ref 391), (1, .ref X1), (2, .int p2), (3, .int p3), (4, .int x275), (5, .int v265), (6, .int x271)]) d_PotSearch_fillFrom_45 rfl (by decide) [1, 2, 3, 4, 0, 5, 6] rfl ?_
        obtain ⟨x276, ex276⟩ : ∃ y : Int32, y = v265 + 1 := ⟨_, rfl⟩
        refine g_iinc (pc1 := 50) (v := x276) (lv' := [(0, .ref 391), (1, .ref X1), (2, .int p2), (3, .int p3), (4, .int x275), (5, .int x276), (6, .int x271)]) d_PotSearch_fillFrom_47 rfl 5 rfl (by rw [ex276]; rfl) (by decide) [1, 2, 3, 4, 5, 0, 6] rfl ?_
        refine g_goto (tgt := 6) d_PotSearch_fillFrom_50 (by decide) ?_
        refine Wp.loc (lv' := [(0, .ref 391), (1, .ref X1), (2, .int p2), (3, .int p3), (4, .int x275), (5, .int x276)]) [0, 1, 2, 3, 4, 5] rfl ?_
        exact ih261 x275 x276 M272 L273 (Kp.trans k268 (Kp.mono k274 (one_S rfl))) (md_up h269 ex276 hm262)
  exact LP263 _ p3 p2 M L Kp.rf (Nat.lt_succ_self _)
set_option maxHeartbeats 4000000 in
set_option maxRecDepth 20000 in
theorem t1_Reader_holdSign {l : Launch} {ld : Nat} (hld : isLa ld) {M : gM} {L : gL} {Q : Option Value → gM → gL → gR → Prop} (p1 : Int32) (hQ : ∀ (M' : gM) (L' : gL), Kp S2 M L M' L' → Q none M' L' (rf ld)) : Tm l y_Reader_holdSign (0, 0, 447) 447 [.ref 3, .int p1] M L (rf ld) Q := by
  refine Tm.of (by decide) (Nat.le_of_ble_eq_true rfl) ?_
  show Wp l y_Reader_holdSign (0, 0, 447) 447 0 0 0 [(0, .ref 3), (1, .int p1)] [] M L (rf ld) Q
  refine g_aload_n (pc1 := 1) d_Reader_holdSign_0 rfl 0 rfl ?_
  refine g_getr (pc1 := 4) d_Reader_holdSign_1 rfl ⟨_, fo_Reader_26⟩ sh_3 (by decide) (rf_3_9 ld) ?_
  refine g_aload_n (pc1 := 5) d_Reader_holdSign_4 rfl 0 rfl ?_
  refine g_geti (pc1 := 8) d_Reader_holdSign_5 rfl ⟨_, fo_Reader_199⟩ sh_3 (by decide) ?_
  refine g_iload_n (pc1 := 9) d_Reader_holdSign_8 rfl 1 rfl ?_
  refine g_callS0 (pc1 := 12) (As := [.ref 11, .int (M 3 10), .int p1]) (rest := []) d_Reader_holdSign_9 rfl mo_Reader_138 ms_Main_put (by decide) rfl rfl (Nat.le_of_ble_eq_true rfl) ?_
  refine t1_Main_put hld 11 sh_11 (by decide) (by decide) _ _ (fun  M277 L278 k279 => ?_)
  refine g_aload_n (pc1 := 13) d_Reader_holdSign_12 rfl 0 rfl ?_
  refine g_dup (pc1 := 14) d_Reader_holdSign_13 rfl rfl ?_
  refine g_geti (pc1 := 17) d_Reader_holdSign_14 rfl ⟨_, fo_Reader_199⟩ sh_3 (by decide) ?_
  refine g_iconst (pc1 := 18) (v := 1) d_Reader_holdSign_17 rfl (by decide) ?_
  refine g_iadd (pc1 := 19) d_Reader_holdSign_18 rfl ?_
  refine g_puti (pc1 := 22) d_Reader_holdSign_19 rfl fo_Reader_199 (po_2_10 _) sh_3 (by decide) ?_
  refine Wp.topM (fun M280 eM280 => ?_)
  refine g_return rfl d_Reader_holdSign_22 rfl ?_
  exact hQ _ _ (Kp.wM (Kp.trans Kp.rf (Kp.mono k279 (one_S rfl))) rfl eM280)
set_option maxHeartbeats 4000000 in
set_option maxRecDepth 20000 in
theorem t1_Reader_is {l : Launch} {ld : Nat} (hld : isLa ld) {M : gM} {L : gL} {Q : Option Value → gM → gL → gR → Prop} (p1 : Int32) (hQ : ∀ (r : Int32) , (r = 0 ∨ r = 1) → Q (some (.int r)) M L (rf ld)) : Tm l y_Reader_is (0, 0, 447) 447 [.ref 3, .int p1] M L (rf ld) Q := by
  refine Tm.of (by decide) (Nat.le_of_ble_eq_true rfl) ?_
  show Wp l y_Reader_is (0, 0, 447) 447 0 0 0 [(0, .ref 3), (1, .int p1)] [] M L (rf ld) Q
  refine g_aload_n (pc1 := 1) d_Reader_is_0 rfl 0 rfl ?_
  refine g_getr (pc1 := 4) d_Reader_is_1 rfl ⟨_, fo_Reader_12⟩ sh_3 (by decide) (rf_3_0 ld) ?_
  refine g_getr (pc1 := 7) d_Reader_is_4 rfl ⟨_, fo_Reader_55⟩ sh_4 (by decide) (rf_4_1 ld) ?_
  refine g_aload_n (pc1 := 8) d_Reader_is_7 rfl 0 rfl ?_
  refine g_geti (pc1 := 11) d_Reader_is_8 rfl ⟨_, fo_Reader_38⟩ sh_3 (by decide) ?_
  refine g_callS0 (pc1 := 14) (As := [.ref 6, .int (M 3 1)]) (rest := []) d_Reader_is_11 rfl mo_Reader_58 ms_Main_at (by decide) rfl rfl (Nat.le_of_ble_eq_true rfl) ?_
  refine t1_Main_at hld 6 sh_6 (by decide) (by decide) _ (fun r281 => ?_)
  refine g_iload_n (pc1 := 15) d_Reader_is_14 rfl 1 rfl ?_
  refine g_icmp_ne (pc1 := 18) (tgt := 22) d_Reader_is_15 (by decide) rfl (fun h282 => ?_) (fun h282 => ?_)
  · refine g_iconst (pc1 := 23) (v := 0) d_Reader_is_22 rfl (by decide) ?_
    refine g_ireturn (Or.inr ⟨rfl, rfl⟩) d_Reader_is_23 rfl ?_
    exact hQ _ (Or.inl rfl)
  · refine g_iconst (pc1 := 19) (v := 1) d_Reader_is_18 rfl (by decide) ?_
    refine g_goto (tgt := 23) d_Reader_is_19 (by decide) ?_
    refine g_ireturn (Or.inr ⟨rfl, rfl⟩) d_Reader_is_23 rfl ?_
    exact hQ _ (Or.inr rfl)
set_option maxHeartbeats 4000000 in
set_option maxRecDepth 20000 in
theorem t1_Reader_layHeld {l : Launch} {ld : Nat} (hld : isLa ld) {M : gM} {L : gL} {Q : Option Value → gM → gL → gR → Prop} (Wl1 : Nat) (hWl1 : isLw Wl1) (p2 : Int32) (hQ : ∀ (M' : gM) (L' : gL), Kp S2 M L M' L' → Q none M' L' (rf ld)) : Tm l y_Reader_layHeld (0, 0, 447) 447 [.ref 3, .ref Wl1, .int p2] M L (rf ld) Q := by
  refine Tm.of (by decide) (Nat.le_of_ble_eq_true rfl) ?_
  show Wp l y_Reader_layHeld (0, 0, 447) 447 0 0 0 [(0, .ref 3), (1, .ref Wl1), (2, .int p2)] [] M L (rf ld) Q
  have LP286 : ∀ (f283 : Nat)  (M287 : gM) (L288 : gL), Kp S2 M L M287 L288 → (M287 3 10).toInt.toNat < f283 → Wp l y_Reader_layHeld (0, 0, 447) 447 0 0 0 [(0, .ref 3), (1, .ref Wl1), (2, .int p2)] [] M287 L288 (rf ld) Q := by
    intro f283
    induction f283 with
    | zero => intro  M287 L288 _ hm285; exact absurd hm285 (Nat.not_lt_zero _)
    | succ f283 ih284 =>
      intro  M287 L288 k289 hm285
      refine g_aload_n (pc1 := 1) d_Reader_layHeld_0 rfl 0 rfl ?_
      refine g_geti (pc1 := 4) d_Reader_layHeld_1 rfl ⟨_, fo_Reader_199⟩ sh_3 (by decide) ?_
      refine g_if_le (pc1 := 7) (tgt := 59) d_Reader_layHeld_4 (by decide) rfl (fun h290 => ?_) (fun h290 => ?_)
      · refine g_return rfl d_Reader_layHeld_59 rfl ?_
        exact hQ _ _ k289
      · refine g_aload_n (pc1 := 8) d_Reader_layHeld_7 rfl 0 rfl ?_
        refine g_getr (pc1 := 11) d_Reader_layHeld_8 rfl ⟨_, fo_Reader_26⟩ sh_3 (by decide) (rf_3_9 ld) ?_
        refine g_aload_n (pc1 := 12) d_Reader_layHeld_11 rfl 0 rfl ?_
        refine g_geti (pc1 := 15) d_Reader_layHeld_12 rfl ⟨_, fo_Reader_199⟩ sh_3 (by decide) ?_
        refine g_iconst (pc1 := 16) (v := 1) d_Reader_layHeld_15 rfl (by decide) ?_
        refine g_isub (pc1 := 17) d_Reader_layHeld_16 rfl ?_
        refine g_callS0 (pc1 := 20) (As := [.ref 11, .int ((M287 3 10) - 1)]) (rest := []) d_Reader_layHeld_17 rfl mo_Reader_58 ms_Main_at (by decide) rfl rfl (Nat.le_of_ble_eq_true rfl) ?_
        refine t1_Main_at hld 11 sh_11 (by decide) (by decide) _ (fun r291 => ?_)
        refine g_callS0 (pc1 := 23) (As := [.int r291]) (rest := []) d_Reader_layHeld_20 rfl mo_Reader_206 ms_Reader_rank (by decide) rfl rfl (Nat.le_of_ble_eq_true rfl) ?_
        refine t1_Reader_rank hld _ (fun r292 => ?_)
        refine g_iload_n (pc1 := 24) d_Reader_layHeld_23 rfl 2 rfl ?_
        refine g_icmp_lt (pc1 := 27) (tgt := 59) d_Reader_layHeld_24 (by decide) rfl (fun h293 => ?_) (fun h293 => ?_)
        · refine g_return rfl d_Reader_layHeld_59 rfl ?_
          exact hQ _ _ k289
        · refine g_aload_n (pc1 := 28) d_Reader_layHeld_27 rfl 0 rfl ?_
          refine g_dup (pc1 := 29) d_Reader_layHeld_28 rfl rfl ?_
          refine g_geti (pc1 := 32) d_Reader_layHeld_29 rfl ⟨_, fo_Reader_199⟩ sh_3 (by decide) ?_
          refine g_iconst (pc1 := 33) (v := 1) d_Reader_layHeld_32 rfl (by decide) ?_
          refine g_isub (pc1 := 34) d_Reader_layHeld_33 rfl ?_
          refine g_puti (pc1 := 37) d_Reader_layHeld_34 rfl fo_Reader_199 (po_2_10 _) sh_3 (by decide) ?_
          refine Wp.topM (fun M294 eM294 => ?_)
          refine g_aload_n (pc1 := 38) d_Reader_layHeld_37 rfl 1 rfl ?_
          refine g_sipush (pc1 := 41) (v := 20000) d_Reader_layHeld_38 rfl (by decide) ?_
          refine g_aload_n (pc1 := 42) d_Reader_layHeld_41 rfl 0 rfl ?_
          refine g_getr (pc1 := 45) d_Reader_layHeld_42 rfl ⟨_, fo_Reader_26⟩ sh_3 (by decide) (rf_3_9 ld) ?_
          refine g_aload_n (pc1 := 46) d_Reader_layHeld_45 rfl 0 rfl ?_
          refine g_geti (pc1 := 49) d_Reader_layHeld_46 rfl ⟨_, fo_Reader_199⟩ sh_3 (by decide) ?_
          refine g_callS0 (pc1 := 52) (As := [.ref 11, .int (M294 3 10)]) (rest := [.int 20000, .ref Wl1]) d_Reader_layHeld_49 rfl mo_Reader_58 ms_Main_at (by decide) rfl rfl (Nat.le_of_ble_eq_true rfl) ?_
          refine t1_Main_at hld 11 sh_11 (by decide) (by decide) _ (fun r295 => ?_)
          refine g_iadd (pc1 := 53) d_Reader_layHeld_52 rfl ?_
          refine g_callV0 (pc1 := 56) (As := [.int (20000 + r295)]) (rest := []) d_Reader_layHeld_53 rfl mo_Reader_222 mi_Law_add mv_Law_add rfl (shLw_0 hWl1) (ltLw_0 hWl1) (by decide) rfl rfl (Nat.le_of_ble_eq_true rfl) ?_
          refine t1_Law_add hld Wl1 hWl1 _ (fun  M296 L297 k298 => ?_)
          refine g_goto (tgt := 0) d_Reader_layHeld_56 (by decide) ?_
          exact ih284  M296 L297 (Kp.trans (Kp.wM k289 rfl eM294) (Kp.mono k298 SL_S2)) (md_lay h290 (by rw [k298.m rfl 10, eM294, uM_at, if_pos ⟨rfl, rfl⟩]) hm285)
  exact LP286 _  M L Kp.rf (Nat.lt_succ_self _)
set_option maxHeartbeats 4000000 in
set_option maxRecDepth 20000 in
theorem t1_Reader_placeOfFault {l : Launch} {ld : Nat} (hld : isLa ld) {M : gM} {L : gL} {Q : Option Value → gM → gL → gR → Prop}  (hQ : ∀ (r : Int32) , Q (some (.int r)) M L (rf ld)) : Tm l y_Reader_placeOfFault (0, 0, 447) 447 [.ref 3] M L (rf ld) Q := by
  refine Tm.of (by decide) (Nat.le_of_ble_eq_true rfl) ?_
  show Wp l y_Reader_placeOfFault (0, 0, 447) 447 0 0 0 [(0, .ref 3)] [] M L (rf ld) Q
  refine g_aload_n (pc1 := 1) d_Reader_placeOfFault_0 rfl 0 rfl ?_
  refine g_geti (pc1 := 4) d_Reader_placeOfFault_1 rfl ⟨_, fo_Reader_42⟩ sh_3 (by decide) ?_
  refine g_if_ne (pc1 := 7) (tgt := 11) d_Reader_placeOfFault_4 (by decide) rfl (fun h299 => ?_) (fun h299 => ?_)
  · refine g_aload_n (pc1 := 12) d_Reader_placeOfFault_11 rfl 0 rfl ?_
    refine g_getr (pc1 := 15) d_Reader_placeOfFault_12 rfl ⟨_, fo_Reader_12⟩ sh_3 (by decide) (rf_3_0 ld) ?_
    refine g_getr (pc1 := 18) d_Reader_placeOfFault_15 rfl ⟨_, fo_Reader_105⟩ sh_4 (by decide) (rf_4_2 ld) ?_
    refine g_aload_n (pc1 := 19) d_Reader_placeOfFault_18 rfl 0 rfl ?_
    refine g_geti (pc1 := 22) d_Reader_placeOfFault_19 rfl ⟨_, fo_Reader_102⟩ sh_3 (by decide) ?_
    refine g_callS0 (pc1 := 25) (As := [.ref 7, .int (M 3 3)]) (rest := []) d_Reader_placeOfFault_22 rfl mo_Reader_58 ms_Main_at (by decide) rfl rfl (Nat.le_of_ble_eq_true rfl) ?_
    refine t1_Main_at hld 7 sh_7 (by decide) (by decide) _ (fun r300 => ?_)
    refine g_ireturn (Or.inl rfl) d_Reader_placeOfFault_25 rfl ?_
    exact hQ _
  · refine g_iconst (pc1 := 8) (v := (-1)) d_Reader_placeOfFault_7 rfl (by decide) ?_
    refine g_goto (tgt := 25) d_Reader_placeOfFault_8 (by decide) ?_
    refine g_ireturn (Or.inl rfl) d_Reader_placeOfFault_25 rfl ?_
    exact hQ _
set_option maxHeartbeats 4000000 in
set_option maxRecDepth 20000 in
theorem t1_Reader_take {l : Launch} {ld : Nat} (hld : isLa ld) {M : gM} {L : gL} {Q : Option Value → gM → gL → gR → Prop}  (hQ : ∀ (M' : gM) (L' : gL), Kp S2 M L M' L' → Q none M' L' (rf ld)) : Tm l y_Reader_take (0, 0, 447) 447 [.ref 3] M L (rf ld) Q := by
  refine Tm.of (by decide) (Nat.le_of_ble_eq_true rfl) ?_
  show Wp l y_Reader_take (0, 0, 447) 447 0 0 0 [(0, .ref 3)] [] M L (rf ld) Q
  refine g_aload_n (pc1 := 1) d_Reader_take_0 rfl 0 rfl ?_
  refine g_geti (pc1 := 4) d_Reader_take_1 rfl ⟨_, fo_Reader_42⟩ sh_3 (by decide) ?_
  refine g_if_eq (pc1 := 7) (tgt := 8) d_Reader_take_4 (by decide) rfl (fun h301 => ?_) (fun h301 => ?_)
  · refine g_aload_n (pc1 := 9) d_Reader_take_8 rfl 0 rfl ?_
    refine g_geti (pc1 := 12) d_Reader_take_9 rfl ⟨_, fo_Reader_38⟩ sh_3 (by decide) ?_
    refine g_sipush (pc1 := 15) (v := 400) d_Reader_take_12 rfl (by decide) ?_
    refine g_icmp_lt (pc1 := 18) (tgt := 26) d_Reader_take_15 (by decide) rfl (fun h302 => ?_) (fun h302 => ?_)
    · refine g_aload_n (pc1 := 27) d_Reader_take_26 rfl 0 rfl ?_
      refine g_dup (pc1 := 28) d_Reader_take_27 rfl rfl ?_
      refine g_geti (pc1 := 31) d_Reader_take_28 rfl ⟨_, fo_Reader_38⟩ sh_3 (by decide) ?_
      refine g_iconst (pc1 := 32) (v := 1) d_Reader_take_31 rfl (by decide) ?_
      refine g_iadd (pc1 := 33) d_Reader_take_32 rfl ?_
      refine g_puti (pc1 := 36) d_Reader_take_33 rfl fo_Reader_38 (po_2_1 _) sh_3 (by decide) ?_
      refine Wp.topM (fun M303 eM303 => ?_)
      refine g_return rfl d_Reader_take_36 rfl ?_
      exact hQ _ _ (Kp.wM Kp.rf rfl eM303)
    · refine g_aload_n (pc1 := 19) d_Reader_take_18 rfl 0 rfl ?_
      refine g_iconst (pc1 := 20) (v := 2) d_Reader_take_19 rfl (by decide) ?_
      refine g_callV0 (pc1 := 23) (As := [.int 2]) (rest := []) d_Reader_take_20 rfl mo_Reader_95 mi_Reader_stop mv_Reader_stop rfl sh_3 (by decide) (by decide) rfl rfl (Nat.le_of_ble_eq_true rfl) ?_
      refine t1_Reader_stop hld _ (fun  M304 L305 k306 => ?_)
      refine g_goto (tgt := 36) d_Reader_take_23 (by decide) ?_
      refine g_return rfl d_Reader_take_36 rfl ?_
      exact hQ _ _ (Kp.trans Kp.rf k306)
  · refine g_return rfl d_Reader_take_7 rfl ?_
    exact hQ _ _ Kp.rf
set_option maxHeartbeats 4000000 in
set_option maxRecDepth 20000 in
theorem t1_Slots_full {l : Launch} {ld : Nat} (hld : isLa ld) {M : gM} {L : gL} {Q : Option Value → gM → gL → gR → Prop}  (hQ : ∀ (r : Int32) , Q (some (.int r)) M L (rf ld)) : Tm l y_Slots_full (0, 0, 447) 447 [.ref 360] M L (rf ld) Q := by
  refine Tm.of (by decide) (Nat.le_of_ble_eq_true rfl) ?_
  show Wp l y_Slots_full (0, 0, 447) 447 0 0 0 [(0, .ref 360)] [] M L (rf ld) Q
  refine g_aload_n (pc1 := 1) d_Slots_full_0 rfl 0 rfl ?_
  refine g_geti (pc1 := 4) d_Slots_full_1 rfl ⟨_, fo_Slots_18⟩ sh_360 (by decide) ?_
  refine g_callS0 (pc1 := 7) (As := [.int (M 360 1)]) (rest := []) d_Slots_full_4 rfl mo_Slots_30 ms_Int_bitCount (by decide) rfl rfl (Nat.le_of_ble_eq_true rfl) ?_
  refine t1_Int_bitCount hld _ (fun r307 => ?_)
  refine g_ireturn (Or.inl rfl) d_Slots_full_7 rfl ?_
  exact hQ _
set_option maxHeartbeats 4000000 in
set_option maxRecDepth 20000 in
theorem t1_State_agoOf {l : Launch} {ld : Nat} (hld : isLa ld) {M : gM} {L : gL} {Q : Option Value → gM → gL → gR → Prop} (X0 : Nat) (hX0 : isSt X0) (p1 : Int32) (hQ : ∀ (r : Int32) , Q (some (.int r)) M L (rf ld)) : Tm l y_State_agoOf (0, 0, 447) 447 [.ref X0, .int p1] M L (rf ld) Q := by
  refine Tm.of (by decide) (Nat.le_of_ble_eq_true rfl) ?_
  show Wp l y_State_agoOf (0, 0, 447) 447 0 0 0 [(0, .ref X0), (1, .int p1)] [] M L (rf ld) Q
  refine g_aload_n (pc1 := 1) d_State_agoOf_0 rfl 0 rfl ?_
  refine g_geti (pc1 := 4) d_State_agoOf_1 rfl ⟨_, fo_State_34⟩ (shSt_0 hX0) (ltSt_0 hX0) ?_
  refine g_aload_n (pc1 := 5) d_State_agoOf_4 rfl 0 rfl ?_
  refine g_getr (pc1 := 8) d_State_agoOf_5 rfl ⟨_, fo_State_28⟩ (shSt_0 hX0) (ltSt_0 hX0) (rfSt_8 ld hX0) ?_
  refine g_iload_n (pc1 := 9) d_State_agoOf_8 rfl 1 rfl ?_
  refine g_callS0 (pc1 := 12) (As := [.ref (X0 + 5), .int p1]) (rest := [.int (M X0 0)]) d_State_agoOf_9 rfl mo_State_53 ms_Main_at (by decide) rfl rfl (Nat.le_of_ble_eq_true rfl) ?_
  refine t1_Main_at hld (X0 + 5) (shSt_5 hX0) (ltSt_5 hX0) (by decide) _ (fun r308 => ?_)
  refine g_isub (pc1 := 13) d_State_agoOf_12 rfl ?_
  refine g_ireturn (Or.inl rfl) d_State_agoOf_13 rfl ?_
  exact hQ _
set_option maxHeartbeats 4000000 in
set_option maxRecDepth 20000 in
theorem t1_State_allMeals {l : Launch} {ld : Nat} (hld : isLa ld) {M : gM} {L : gL} {Q : Option Value → gM → gL → gR → Prop} (X0 : Nat) (hX0 : isSt X0) (hQ : ∀ (r : Int32) , Q (some (.int r)) M L (rf ld)) : Tm l y_State_allMeals (0, 0, 447) 447 [.ref X0] M L (rf ld) Q := by
  refine Tm.of (by decide) (Nat.le_of_ble_eq_true rfl) ?_
  show Wp l y_State_allMeals (0, 0, 447) 447 0 0 0 [(0, .ref X0)] [] M L (rf ld) Q
  refine g_iconst (pc1 := 1) (v := 0) d_State_allMeals_0 rfl (by decide) ?_
  refine g_istore_n (pc1 := 2) (lv' := [(0, .ref X0), (1, .int 0)]) d_State_allMeals_1 rfl rfl (by decide) [1, 0] rfl ?_
  refine g_iconst (pc1 := 3) (v := 0) d_State_allMeals_2 rfl (by decide) ?_
  refine g_istore_n (pc1 := 4) (lv' := [(0, .ref X0), (1, .int 0), (2, .int 0)]) d_State_allMeals_3 rfl rfl (by decide) [1, 2, 0] rfl ?_
  have LP312 : ∀ (f309 : Nat) (v313 : Int32) (v314 : Int32), ¬ v314 < 0 → ((4 : Int32).toInt - v314.toInt).toNat < f309 → Wp l y_State_allMeals (0, 0, 447) 447 0 0 4 [(0, .ref X0), (1, .int v313), (2, .int v314)] [] M L (rf ld) Q := by
    intro f309
    induction f309 with
    | zero => intro v313 v314 _ hm311; exact absurd hm311 (Nat.not_lt_zero _)
    | succ f309 ih310 =>
      intro v313 v314 n315 hm311
      refine g_iload_n (pc1 := 5) d_State_allMeals_4 rfl 2 rfl ?_
      refine g_iconst (pc1 := 6) (v := 4) d_State_allMeals_5 rfl (by decide) ?_
      refine g_icmp_ge (pc1 := 9) (tgt := 26) d_State_allMeals_6 (by decide) rfl (fun h316 => ?_) (fun h316 => ?_)
      · refine g_iload_n (pc1 := 27) d_State_allMeals_26 rfl 1 rfl ?_
        refine g_ireturn (Or.inl rfl) d_State_allMeals_27 rfl ?_
        exact hQ _
      · refine g_iload_n (pc1 := 10) d_State_allMeals_9 rfl 1 rfl ?_
        refine g_aload_n (pc1 := 11) d_State_allMeals_10 rfl 0 rfl ?_
        refine g_getr (pc1 := 14) d_State_allMeals_11 rfl ⟨_, fo_State_25⟩ (shSt_0 hX0) (ltSt_0 hX0) (rfSt_7 ld hX0) ?_
        refine g_iload_n (pc1 := 15) d_State_allMeals_14 rfl 2 rfl ?_
        refine g_callS0 (pc1 := 18) (As := [.ref (X0 + 4), .int v314]) (rest := [.int v313]) d_State_allMeals_15 rfl mo_State_53 ms_Main_at (by decide) rfl rfl (Nat.le_of_ble_eq_true rfl) ?_
        refine t1_Main_at hld (X0 + 4) (shSt_4 hX0) (ltSt_4 hX0) (by decide) _ (fun r317 => ?_)
        refine g_iadd (pc1 := 19) d_State_allMeals_18 rfl ?_
        refine Wp.topi (fun x318 ex318 => ?_)
        refine g_istore_n (pc1 := 20) (lv' := [(0, .ref X0), (1, .int x318), (2, .int v314)]) d_State_allMeals_19 rfl rfl (by decide) [1, 0, 2] rfl ?_
        obtain ⟨x319, ex319⟩ : ∃ y : Int32, y = v314 + 1 := ⟨_, rfl⟩
        refine g_iinc (pc1 := 23) (v := x319) (lv' := [(0, .ref X0), (1, .int x318), (2, .int x319)]) d_State_allMeals_20 rfl 2 rfl (by rw [ex319]; rfl) (by decide) [1, 2, 0] rfl ?_
        refine g_goto (tgt := 4) d_State_allMeals_23 (by decide) ?_
        exact ih310 x318 x319 (nn_up (y := (4 : Int32)) h316 ex319 n315) (md_up h316 ex319 hm311)
  exact LP312 _ 0 0 (by decide) (Nat.lt_succ_self _)
set_option maxHeartbeats 4000000 in
set_option maxRecDepth 20000 in
theorem t1_State_begin {l : Launch} {ld : Nat} (hld : isLa ld) {M : gM} {L : gL} {Q : Option Value → gM → gL → gR → Prop} (X0 : Nat) (hX0 : isSt X0) (Ld1 : Nat) (hLd1 : isLa Ld1) (hQ : ∀ (M' : gM) (L' : gL), Kp S1 M L M' L' → Q none M' L' (rf ld)) : Tm l y_State_begin (0, 0, 447) 447 [.ref X0, .ref Ld1] M L (rf ld) Q := by
  refine Tm.of (by decide) (Nat.le_of_ble_eq_true rfl) ?_
  show Wp l y_State_begin (0, 0, 447) 447 0 0 0 [(0, .ref X0), (1, .ref Ld1)] [] M L (rf ld) Q
  refine g_aload_n (pc1 := 1) d_State_begin_0 rfl 0 rfl ?_
  refine g_iconst (pc1 := 2) (v := 0) d_State_begin_1 rfl (by decide) ?_
  refine g_puti (pc1 := 5) d_State_begin_2 rfl fo_State_34 (po_6_0 _) (shSt_0 hX0) (ltSt_0 hX0) ?_
  refine Wp.topM (fun M320 eM320 => ?_)
  refine g_aload_n (pc1 := 6) d_State_begin_5 rfl 0 rfl ?_
  refine g_iconst (pc1 := 7) (v := 0) d_State_begin_6 rfl (by decide) ?_
  refine g_puti (pc1 := 10) d_State_begin_7 rfl fo_State_37 (po_6_1 _) (shSt_0 hX0) (ltSt_0 hX0) ?_
  refine Wp.topM (fun M321 eM321 => ?_)
  refine g_aload_n (pc1 := 11) d_State_begin_10 rfl 0 rfl ?_
  refine g_iconst (pc1 := 12) (v := 0) d_State_begin_11 rfl (by decide) ?_
  refine g_puti (pc1 := 15) d_State_begin_12 rfl fo_State_40 (po_6_2 _) (shSt_0 hX0) (ltSt_0 hX0) ?_
  refine Wp.topM (fun M322 eM322 => ?_)
  refine g_aload_n (pc1 := 16) d_State_begin_15 rfl 0 rfl ?_
  refine g_bipush (pc1 := 18) (v := (-2)) d_State_begin_16 rfl (by decide) ?_
  refine g_puti (pc1 := 21) d_State_begin_18 rfl fo_State_9 (po_6_3 _) (shSt_0 hX0) (ltSt_0 hX0) ?_
  refine Wp.topM (fun M323 eM323 => ?_)
  refine g_aload_n (pc1 := 22) d_State_begin_21 rfl 0 rfl ?_
  refine g_getr (pc1 := 25) d_State_begin_22 rfl ⟨_, fo_State_15⟩ (shSt_0 hX0) (ltSt_0 hX0) (rfSt_4 ld hX0) ?_
  refine g_callS0 (pc1 := 28) (As := [.ref (X0 + 1)]) (rest := []) d_State_begin_25 rfl mo_State_43 ms_Main_wipe (by decide) rfl rfl (Nat.le_of_ble_eq_true rfl) ?_
  refine t1_Main_wipe hld (X0 + 1) (shSt_1 hX0) (ltSt_1 hX0) (by decide) (fun  M324 L325 k326 => ?_)
  refine g_aload_n (pc1 := 29) d_State_begin_28 rfl 0 rfl ?_
  refine g_getr (pc1 := 32) d_State_begin_29 rfl ⟨_, fo_State_22⟩ (shSt_0 hX0) (ltSt_0 hX0) (rfSt_6 ld hX0) ?_
  refine g_callS0 (pc1 := 35) (As := [.ref (X0 + 3)]) (rest := []) d_State_begin_32 rfl mo_State_43 ms_Main_wipe (by decide) rfl rfl (Nat.le_of_ble_eq_true rfl) ?_
  refine t1_Main_wipe hld (X0 + 3) (shSt_3 hX0) (ltSt_3 hX0) (by decide) (fun  M327 L328 k329 => ?_)
  refine g_aload_n (pc1 := 36) d_State_begin_35 rfl 0 rfl ?_
  refine g_getr (pc1 := 39) d_State_begin_36 rfl ⟨_, fo_State_25⟩ (shSt_0 hX0) (ltSt_0 hX0) (rfSt_7 ld hX0) ?_
  refine g_callS0 (pc1 := 42) (As := [.ref (X0 + 4)]) (rest := []) d_State_begin_39 rfl mo_State_43 ms_Main_wipe (by decide) rfl rfl (Nat.le_of_ble_eq_true rfl) ?_
  refine t1_Main_wipe hld (X0 + 4) (shSt_4 hX0) (ltSt_4 hX0) (by decide) (fun  M330 L331 k332 => ?_)
  refine g_aload_n (pc1 := 43) d_State_begin_42 rfl 0 rfl ?_
  refine g_getr (pc1 := 46) d_State_begin_43 rfl ⟨_, fo_State_28⟩ (shSt_0 hX0) (ltSt_0 hX0) (rfSt_8 ld hX0) ?_
  refine g_callS0 (pc1 := 49) (As := [.ref (X0 + 5)]) (rest := []) d_State_begin_46 rfl mo_State_43 ms_Main_wipe (by decide) rfl rfl (Nat.le_of_ble_eq_true rfl) ?_
  refine t1_Main_wipe hld (X0 + 5) (shSt_5 hX0) (ltSt_5 hX0) (by decide) (fun  M333 L334 k335 => ?_)
  refine g_aload_n (pc1 := 50) d_State_begin_49 rfl 0 rfl ?_
  refine g_getr (pc1 := 53) d_State_begin_50 rfl ⟨_, fo_State_31⟩ (shSt_0 hX0) (ltSt_0 hX0) (rfSt_9 ld hX0) ?_
  refine g_callS0 (pc1 := 56) (As := [.ref (X0 + 6)]) (rest := []) d_State_begin_53 rfl mo_State_43 ms_Main_wipe (by decide) rfl rfl (Nat.le_of_ble_eq_true rfl) ?_
  refine t1_Main_wipe hld (X0 + 6) (shSt_6 hX0) (ltSt_6 hX0) (by decide) (fun  M336 L337 k338 => ?_)
  refine g_iconst (pc1 := 57) (v := 0) d_State_begin_56 rfl (by decide) ?_
  refine g_istore_n (pc1 := 58) (lv' := [(0, .ref X0), (1, .ref Ld1), (2, .int 0)]) d_State_begin_57 rfl rfl (by decide) [1, 2, 0] rfl ?_
  have LP342 : ∀ (f339 : Nat) (v343 : Int32) (M344 : gM) (L345 : gL), Kp S1 M L M344 L345 → ¬ v343 < 0 → ((6 : Int32).toInt - v343.toInt).toNat < f339 → Wp l y_State_begin (0, 0, 447) 447 0 0 58 [(0, .ref X0), (1, .ref Ld1), (2, .int v343)] [] M344 L345 (rf ld) Q := by
    intro f339
    induction f339 with
    | zero => intro v343 M344 L345 _ _ hm341; exact absurd hm341 (Nat.not_lt_zero _)
    | succ f339 ih340 =>
      intro v343 M344 L345 k346 n347 hm341
      refine g_iload_n (pc1 := 59) d_State_begin_58 rfl 2 rfl ?_
      refine g_bipush (pc1 := 61) (v := 6) d_State_begin_59 rfl (by decide) ?_
      refine g_icmp_ge (pc1 := 64) (tgt := 98) d_State_begin_61 (by decide) rfl (fun h348 => ?_) (fun h348 => ?_)
      · refine g_return rfl d_State_begin_98 rfl ?_
        exact hQ _ _ k346
      · refine g_aload_n (pc1 := 65) d_State_begin_64 rfl 0 rfl ?_
        refine g_getr (pc1 := 68) d_State_begin_65 rfl ⟨_, fo_State_19⟩ (shSt_0 hX0) (ltSt_0 hX0) (rfSt_5 ld hX0) ?_
        refine g_iload_n (pc1 := 69) d_State_begin_68 rfl 2 rfl ?_
        refine g_iload_n (pc1 := 70) d_State_begin_69 rfl 2 rfl ?_
        refine g_aload_n (pc1 := 71) d_State_begin_70 rfl 1 rfl ?_
        refine g_geti (pc1 := 74) d_State_begin_71 rfl ⟨_, fo_State_47⟩ (shLa_0 hLd1) (ltLa_0 hLd1) ?_
        refine g_icmp_ge (pc1 := 77) (tgt := 88) d_State_begin_74 (by decide) rfl (fun h349 => ?_) (fun h349 => ?_)
        · refine g_iconst (pc1 := 89) (v := 0) d_State_begin_88 rfl (by decide) ?_
          refine g_callS0 (pc1 := 92) (As := [.ref (X0 + 2), .int v343, .int 0]) (rest := []) d_State_begin_89 rfl mo_State_57 ms_Main_put (by decide) rfl rfl (Nat.le_of_ble_eq_true rfl) ?_
          refine t1_Main_put hld (X0 + 2) (shSt_2 hX0) (ltSt_2 hX0) (by decide) _ _ (fun  M350 L351 k352 => ?_)
          obtain ⟨x353, ex353⟩ : ∃ y : Int32, y = v343 + 1 := ⟨_, rfl⟩
          refine g_iinc (pc1 := 95) (v := x353) (lv' := [(0, .ref X0), (1, .ref Ld1), (2, .int x353)]) d_State_begin_92 rfl 2 rfl (by rw [ex353]; rfl) (by decide) [1, 2, 0] rfl ?_
          refine g_goto (tgt := 58) d_State_begin_95 (by decide) ?_
          exact ih340 x353 M350 L351 (Kp.trans k346 (Kp.mono k352 (one_S (S1_St_2 hX0)))) (nn_up (y := (6 : Int32)) h348 ex353 n347) (md_up h348 ex353 hm341)
        · refine g_aload_n (pc1 := 78) d_State_begin_77 rfl 1 rfl ?_
          refine g_getr (pc1 := 81) d_State_begin_78 rfl ⟨_, fo_State_52⟩ (shLa_0 hLd1) (ltLa_0 hLd1) (rfLa_5 ld hLd1) ?_
          refine g_iload_n (pc1 := 82) d_State_begin_81 rfl 2 rfl ?_
          refine g_callS0 (pc1 := 85) (As := [.ref (Ld1 + 1), .int v343]) (rest := [.int v343, .ref (X0 + 2)]) d_State_begin_82 rfl mo_State_53 ms_Main_at (by decide) rfl rfl (Nat.le_of_ble_eq_true rfl) ?_
          refine t1_Main_at hld (Ld1 + 1) (shLa_1 hLd1) (ltLa_1 hLd1) (by decide) _ (fun r354 => ?_)
          refine g_goto (tgt := 89) d_State_begin_85 (by decide) ?_
          refine g_callS0 (pc1 := 92) (As := [.ref (X0 + 2), .int v343, .int r354]) (rest := []) d_State_begin_89 rfl mo_State_57 ms_Main_put (by decide) rfl rfl (Nat.le_of_ble_eq_true rfl) ?_
          refine t1_Main_put hld (X0 + 2) (shSt_2 hX0) (ltSt_2 hX0) (by decide) _ _ (fun  M355 L356 k357 => ?_)
          obtain ⟨x358, ex358⟩ : ∃ y : Int32, y = v343 + 1 := ⟨_, rfl⟩
          refine g_iinc (pc1 := 95) (v := x358) (lv' := [(0, .ref X0), (1, .ref Ld1), (2, .int x358)]) d_State_begin_92 rfl 2 rfl (by rw [ex358]; rfl) (by decide) [1, 2, 0] rfl ?_
          refine g_goto (tgt := 58) d_State_begin_95 (by decide) ?_
          exact ih340 x358 M355 L356 (Kp.trans k346 (Kp.mono k357 (one_S (S1_St_2 hX0)))) (nn_up (y := (6 : Int32)) h348 ex358 n347) (md_up h348 ex358 hm341)
  exact LP342 _ 0 M336 L337 (Kp.trans (Kp.trans (Kp.trans (Kp.trans (Kp.trans (Kp.wM (Kp.wM (Kp.wM (Kp.wM Kp.rf (S1_St_0 hX0) eM320) (S1_St_0 hX0) eM321) (S1_St_0 hX0) eM322) (S1_St_0 hX0) eM323) (Kp.mono k326 (one_S (S1_St_1 hX0)))) (Kp.mono k329 (one_S (S1_St_3 hX0)))) (Kp.mono k332 (one_S (S1_St_4 hX0)))) (Kp.mono k335 (one_S (S1_St_5 hX0)))) (Kp.mono k338 (one_S (S1_St_6 hX0)))) (by decide) (Nat.lt_succ_self _)
set_option maxHeartbeats 4000000 in
set_option maxRecDepth 20000 in
theorem t1_State_copyFrom {l : Launch} {ld : Nat} (hld : isLa ld) {M : gM} {L : gL} {Q : Option Value → gM → gL → gR → Prop} (X0 : Nat) (hX0 : isSt X0) (X1 : Nat) (hX1 : isSt X1) (hQ : ∀ (M' : gM) (L' : gL), Kp S1 M L M' L' → Q none M' L' (rf ld)) : Tm l y_State_copyFrom (0, 0, 447) 447 [.ref X0, .ref X1] M L (rf ld) Q := by
  refine Tm.of (by decide) (Nat.le_of_ble_eq_true rfl) ?_
  show Wp l y_State_copyFrom (0, 0, 447) 447 0 0 0 [(0, .ref X0), (1, .ref X1)] [] M L (rf ld) Q
  refine g_aload_n (pc1 := 1) d_State_copyFrom_0 rfl 0 rfl ?_
  refine g_aload_n (pc1 := 2) d_State_copyFrom_1 rfl 1 rfl ?_
  refine g_geti (pc1 := 5) d_State_copyFrom_2 rfl ⟨_, fo_State_34⟩ (shSt_0 hX1) (ltSt_0 hX1) ?_
  refine g_puti (pc1 := 8) d_State_copyFrom_5 rfl fo_State_34 (po_6_0 _) (shSt_0 hX0) (ltSt_0 hX0) ?_
  refine Wp.topM (fun M359 eM359 => ?_)
  refine g_aload_n (pc1 := 9) d_State_copyFrom_8 rfl 0 rfl ?_
  refine g_aload_n (pc1 := 10) d_State_copyFrom_9 rfl 1 rfl ?_
  refine g_geti (pc1 := 13) d_State_copyFrom_10 rfl ⟨_, fo_State_37⟩ (shSt_0 hX1) (ltSt_0 hX1) ?_
  refine g_puti (pc1 := 16) d_State_copyFrom_13 rfl fo_State_37 (po_6_1 _) (shSt_0 hX0) (ltSt_0 hX0) ?_
  refine Wp.topM (fun M360 eM360 => ?_)
  refine g_aload_n (pc1 := 17) d_State_copyFrom_16 rfl 0 rfl ?_
  refine g_aload_n (pc1 := 18) d_State_copyFrom_17 rfl 1 rfl ?_
  refine g_geti (pc1 := 21) d_State_copyFrom_18 rfl ⟨_, fo_State_40⟩ (shSt_0 hX1) (ltSt_0 hX1) ?_
  refine g_puti (pc1 := 24) d_State_copyFrom_21 rfl fo_State_40 (po_6_2 _) (shSt_0 hX0) (ltSt_0 hX0) ?_
  refine Wp.topM (fun M361 eM361 => ?_)
  refine g_aload_n (pc1 := 25) d_State_copyFrom_24 rfl 0 rfl ?_
  refine g_aload_n (pc1 := 26) d_State_copyFrom_25 rfl 1 rfl ?_
  refine g_geti (pc1 := 29) d_State_copyFrom_26 rfl ⟨_, fo_State_9⟩ (shSt_0 hX1) (ltSt_0 hX1) ?_
  refine g_puti (pc1 := 32) d_State_copyFrom_29 rfl fo_State_9 (po_6_3 _) (shSt_0 hX0) (ltSt_0 hX0) ?_
  refine Wp.topM (fun M362 eM362 => ?_)
  refine g_aload_n (pc1 := 33) d_State_copyFrom_32 rfl 1 rfl ?_
  refine g_getr (pc1 := 36) d_State_copyFrom_33 rfl ⟨_, fo_State_15⟩ (shSt_0 hX1) (ltSt_0 hX1) (rfSt_4 ld hX1) ?_
  refine g_aload_n (pc1 := 37) d_State_copyFrom_36 rfl 0 rfl ?_
  refine g_getr (pc1 := 40) d_State_copyFrom_37 rfl ⟨_, fo_State_15⟩ (shSt_0 hX0) (ltSt_0 hX0) (rfSt_4 ld hX0) ?_
  refine g_callS0 (pc1 := 43) (As := [.ref (X1 + 1), .ref (X0 + 1)]) (rest := []) d_State_copyFrom_40 rfl mo_State_61 ms_Main_copyRow (by decide) rfl rfl (Nat.le_of_ble_eq_true rfl) ?_
  refine t1_Main_copyRow hld (X1 + 1) (shSt_1 hX1) (ltSt_1 hX1) (by decide) (X0 + 1) (shSt_1 hX0) (ltSt_1 hX0) (by decide) (fun  M363 L364 k365 => ?_)
  refine g_aload_n (pc1 := 44) d_State_copyFrom_43 rfl 1 rfl ?_
  refine g_getr (pc1 := 47) d_State_copyFrom_44 rfl ⟨_, fo_State_19⟩ (shSt_0 hX1) (ltSt_0 hX1) (rfSt_5 ld hX1) ?_
  refine g_aload_n (pc1 := 48) d_State_copyFrom_47 rfl 0 rfl ?_
  refine g_getr (pc1 := 51) d_State_copyFrom_48 rfl ⟨_, fo_State_19⟩ (shSt_0 hX0) (ltSt_0 hX0) (rfSt_5 ld hX0) ?_
  refine g_callS0 (pc1 := 54) (As := [.ref (X1 + 2), .ref (X0 + 2)]) (rest := []) d_State_copyFrom_51 rfl mo_State_61 ms_Main_copyRow (by decide) rfl rfl (Nat.le_of_ble_eq_true rfl) ?_
  refine t1_Main_copyRow hld (X1 + 2) (shSt_2 hX1) (ltSt_2 hX1) (by decide) (X0 + 2) (shSt_2 hX0) (ltSt_2 hX0) (by decide) (fun  M366 L367 k368 => ?_)
  refine g_aload_n (pc1 := 55) d_State_copyFrom_54 rfl 1 rfl ?_
  refine g_getr (pc1 := 58) d_State_copyFrom_55 rfl ⟨_, fo_State_22⟩ (shSt_0 hX1) (ltSt_0 hX1) (rfSt_6 ld hX1) ?_
  refine g_aload_n (pc1 := 59) d_State_copyFrom_58 rfl 0 rfl ?_
  refine g_getr (pc1 := 62) d_State_copyFrom_59 rfl ⟨_, fo_State_22⟩ (shSt_0 hX0) (ltSt_0 hX0) (rfSt_6 ld hX0) ?_
  refine g_callS0 (pc1 := 65) (As := [.ref (X1 + 3), .ref (X0 + 3)]) (rest := []) d_State_copyFrom_62 rfl mo_State_61 ms_Main_copyRow (by decide) rfl rfl (Nat.le_of_ble_eq_true rfl) ?_
  refine t1_Main_copyRow hld (X1 + 3) (shSt_3 hX1) (ltSt_3 hX1) (by decide) (X0 + 3) (shSt_3 hX0) (ltSt_3 hX0) (by decide) (fun  M369 L370 k371 => ?_)
  refine g_aload_n (pc1 := 66) d_State_copyFrom_65 rfl 1 rfl ?_
  refine g_getr (pc1 := 69) d_State_copyFrom_66 rfl ⟨_, fo_State_25⟩ (shSt_0 hX1) (ltSt_0 hX1) (rfSt_7 ld hX1) ?_
  refine g_aload_n (pc1 := 70) d_State_copyFrom_69 rfl 0 rfl ?_
  refine g_getr (pc1 := 73) d_State_copyFrom_70 rfl ⟨_, fo_State_25⟩ (shSt_0 hX0) (ltSt_0 hX0) (rfSt_7 ld hX0) ?_
  refine g_callS0 (pc1 := 76) (As := [.ref (X1 + 4), .ref (X0 + 4)]) (rest := []) d_State_copyFrom_73 rfl mo_State_61 ms_Main_copyRow (by decide) rfl rfl (Nat.le_of_ble_eq_true rfl) ?_
  refine t1_Main_copyRow hld (X1 + 4) (shSt_4 hX1) (ltSt_4 hX1) (by decide) (X0 + 4) (shSt_4 hX0) (ltSt_4 hX0) (by decide) (fun  M372 L373 k374 => ?_)
  refine g_aload_n (pc1 := 77) d_State_copyFrom_76 rfl 1 rfl ?_
  refine g_getr (pc1 := 80) d_State_copyFrom_77 rfl ⟨_, fo_State_28⟩ (shSt_0 hX1) (ltSt_0 hX1) (rfSt_8 ld hX1) ?_
  refine g_aload_n (pc1 := 81) d_State_copyFrom_80 rfl 0 rfl ?_
  refine g_getr (pc1 := 84) d_State_copyFrom_81 rfl ⟨_, fo_State_28⟩ (shSt_0 hX0) (ltSt_0 hX0) (rfSt_8 ld hX0) ?_
  refine g_callS0 (pc1 := 87) (As := [.ref (X1 + 5), .ref (X0 + 5)]) (rest := []) d_State_copyFrom_84 rfl mo_State_61 ms_Main_copyRow (by decide) rfl rfl (Nat.le_of_ble_eq_true rfl) ?_
  refine t1_Main_copyRow hld (X1 + 5) (shSt_5 hX1) (ltSt_5 hX1) (by decide) (X0 + 5) (shSt_5 hX0) (ltSt_5 hX0) (by decide) (fun  M375 L376 k377 => ?_)
  refine g_aload_n (pc1 := 88) d_State_copyFrom_87 rfl 1 rfl ?_
  refine g_getr (pc1 := 91) d_State_copyFrom_88 rfl ⟨_, fo_State_31⟩ (shSt_0 hX1) (ltSt_0 hX1) (rfSt_9 ld hX1) ?_
  refine g_aload_n (pc1 := 92) d_State_copyFrom_91 rfl 0 rfl ?_
  refine g_getr (pc1 := 95) d_State_copyFrom_92 rfl ⟨_, fo_State_31⟩ (shSt_0 hX0) (ltSt_0 hX0) (rfSt_9 ld hX0) ?_
  refine g_callS0 (pc1 := 98) (As := [.ref (X1 + 6), .ref (X0 + 6)]) (rest := []) d_State_copyFrom_95 rfl mo_State_61 ms_Main_copyRow (by decide) rfl rfl (Nat.le_of_ble_eq_true rfl) ?_
  refine t1_Main_copyRow hld (X1 + 6) (shSt_6 hX1) (ltSt_6 hX1) (by decide) (X0 + 6) (shSt_6 hX0) (ltSt_6 hX0) (by decide) (fun  M378 L379 k380 => ?_)
  refine g_return rfl d_State_copyFrom_98 rfl ?_
  exact hQ _ _ (Kp.trans (Kp.trans (Kp.trans (Kp.trans (Kp.trans (Kp.trans (Kp.wM (Kp.wM (Kp.wM (Kp.wM Kp.rf (S1_St_0 hX0) eM359) (S1_St_0 hX0) eM360) (S1_St_0 hX0) eM361) (S1_St_0 hX0) eM362) (Kp.mono k365 (one_S (S1_St_1 hX0)))) (Kp.mono k368 (one_S (S1_St_2 hX0)))) (Kp.mono k371 (one_S (S1_St_3 hX0)))) (Kp.mono k374 (one_S (S1_St_4 hX0)))) (Kp.mono k377 (one_S (S1_St_5 hX0)))) (Kp.mono k380 (one_S (S1_St_6 hX0))))
set_option maxHeartbeats 4000000 in
set_option maxRecDepth 20000 in
theorem t1_State_eatServed {l : Launch} {ld : Nat} (hld : isLa ld) {M : gM} {L : gL} {Q : Option Value → gM → gL → gR → Prop} (X0 : Nat) (hX0 : isSt X0) (p1 : Int32) (hQ : ∀ (M' : gM) (L' : gL), Kp S1 M L M' L' → Q none M' L' (rf ld)) : Tm l y_State_eatServed (0, 0, 447) 447 [.ref X0, .int p1] M L (rf ld) Q := by
  refine Tm.of (by decide) (Nat.le_of_ble_eq_true rfl) ?_
  show Wp l y_State_eatServed (0, 0, 447) 447 0 0 0 [(0, .ref X0), (1, .int p1)] [] M L (rf ld) Q
  refine g_iconst (pc1 := 1) (v := 0) d_State_eatServed_0 rfl (by decide) ?_
  refine g_istore_n (pc1 := 2) (lv' := [(0, .ref X0), (1, .int p1), (2, .int 0)]) d_State_eatServed_1 rfl rfl (by decide) [1, 2, 0] rfl ?_
  have LP384 : ∀ (f381 : Nat) (v385 : Int32) (M386 : gM) (L387 : gL), Kp S1 M L M386 L387 → ¬ v385 < 0 → ((3 : Int32).toInt - v385.toInt).toNat < f381 → Wp l y_State_eatServed (0, 0, 447) 447 0 0 2 [(0, .ref X0), (1, .int p1), (2, .int v385)] [] M386 L387 (rf ld) Q := by
    intro f381
    induction f381 with
    | zero => intro v385 M386 L387 _ _ hm383; exact absurd hm383 (Nat.not_lt_zero _)
    | succ f381 ih382 =>
      intro v385 M386 L387 k388 n389 hm383
      refine g_iload_n (pc1 := 3) d_State_eatServed_2 rfl 2 rfl ?_
      refine g_iconst (pc1 := 4) (v := 3) d_State_eatServed_3 rfl (by decide) ?_
      refine g_icmp_ge (pc1 := 7) (tgt := 33) d_State_eatServed_4 (by decide) rfl (fun h390 => ?_) (fun h390 => ?_)
      · refine g_aload_n (pc1 := 34) d_State_eatServed_33 rfl 0 rfl ?_
        refine g_getr (pc1 := 37) d_State_eatServed_34 rfl ⟨_, fo_State_28⟩ (shSt_0 hX0) (ltSt_0 hX0) (rfSt_8 ld hX0) ?_
        refine g_iload_n (pc1 := 38) d_State_eatServed_37 rfl 1 rfl ?_
        refine g_aload_n (pc1 := 39) d_State_eatServed_38 rfl 0 rfl ?_
        refine g_geti (pc1 := 42) d_State_eatServed_39 rfl ⟨_, fo_State_34⟩ (shSt_0 hX0) (ltSt_0 hX0) ?_
        refine g_callS0 (pc1 := 45) (As := [.ref (X0 + 5), .int p1, .int (M386 X0 0)]) (rest := []) d_State_eatServed_42 rfl mo_State_57 ms_Main_put (by decide) rfl rfl (Nat.le_of_ble_eq_true rfl) ?_
        refine t1_Main_put hld (X0 + 5) (shSt_5 hX0) (ltSt_5 hX0) (by decide) _ _ (fun  M391 L392 k393 => ?_)
        refine g_aload_n (pc1 := 46) d_State_eatServed_45 rfl 0 rfl ?_
        refine g_getr (pc1 := 49) d_State_eatServed_46 rfl ⟨_, fo_State_25⟩ (shSt_0 hX0) (ltSt_0 hX0) (rfSt_7 ld hX0) ?_
        refine g_iload_n (pc1 := 50) d_State_eatServed_49 rfl 1 rfl ?_
        refine g_aload_n (pc1 := 51) d_State_eatServed_50 rfl 0 rfl ?_
        refine g_getr (pc1 := 54) d_State_eatServed_51 rfl ⟨_, fo_State_25⟩ (shSt_0 hX0) (ltSt_0 hX0) (rfSt_7 ld hX0) ?_
        refine g_iload_n (pc1 := 55) d_State_eatServed_54 rfl 1 rfl ?_
        refine g_callS0 (pc1 := 58) (As := [.ref (X0 + 4), .int p1]) (rest := [.int p1, .ref (X0 + 4)]) d_State_eatServed_55 rfl mo_State_53 ms_Main_at (by decide) rfl rfl (Nat.le_of_ble_eq_true rfl) ?_
        refine t1_Main_at hld (X0 + 4) (shSt_4 hX0) (ltSt_4 hX0) (by decide) _ (fun r394 => ?_)
        refine g_iconst (pc1 := 59) (v := 1) d_State_eatServed_58 rfl (by decide) ?_
        refine g_iadd (pc1 := 60) d_State_eatServed_59 rfl ?_
        refine g_callS0 (pc1 := 63) (As := [.ref (X0 + 4), .int p1, .int (r394 + 1)]) (rest := []) d_State_eatServed_60 rfl mo_State_57 ms_Main_put (by decide) rfl rfl (Nat.le_of_ble_eq_true rfl) ?_
        refine t1_Main_put hld (X0 + 4) (shSt_4 hX0) (ltSt_4 hX0) (by decide) _ _ (fun  M395 L396 k397 => ?_)
        refine g_return rfl d_State_eatServed_63 rfl ?_
        exact hQ _ _ (Kp.trans (Kp.trans k388 (Kp.mono k393 (one_S (S1_St_5 hX0)))) (Kp.mono k397 (one_S (S1_St_4 hX0))))
      · refine g_aload_n (pc1 := 8) d_State_eatServed_7 rfl 0 rfl ?_
        refine g_getr (pc1 := 11) d_State_eatServed_8 rfl ⟨_, fo_State_31⟩ (shSt_0 hX0) (ltSt_0 hX0) (rfSt_9 ld hX0) ?_
        refine g_iload_n (pc1 := 12) d_State_eatServed_11 rfl 1 rfl ?_
        refine g_iconst (pc1 := 13) (v := 3) d_State_eatServed_12 rfl (by decide) ?_
        refine g_imul (pc1 := 14) d_State_eatServed_13 rfl ?_
        refine g_iload_n (pc1 := 15) d_State_eatServed_14 rfl 2 rfl ?_
        refine g_iadd (pc1 := 16) d_State_eatServed_15 rfl ?_
        refine g_aload_n (pc1 := 17) d_State_eatServed_16 rfl 0 rfl ?_
        refine g_getr (pc1 := 20) d_State_eatServed_17 rfl ⟨_, fo_State_15⟩ (shSt_0 hX0) (ltSt_0 hX0) (rfSt_4 ld hX0) ?_
        refine g_iload_n (pc1 := 21) d_State_eatServed_20 rfl 2 rfl ?_
        refine g_callS0 (pc1 := 24) (As := [.ref (X0 + 1), .int v385]) (rest := [.int ((p1 * 3) + v385), .ref (X0 + 6)]) d_State_eatServed_21 rfl mo_State_53 ms_Main_at (by decide) rfl rfl (Nat.le_of_ble_eq_true rfl) ?_
        refine t1_Main_at hld (X0 + 1) (shSt_1 hX0) (ltSt_1 hX0) (by decide) _ (fun r398 => ?_)
        refine g_callS0 (pc1 := 27) (As := [.ref (X0 + 6), .int ((p1 * 3) + v385), .int r398]) (rest := []) d_State_eatServed_24 rfl mo_State_57 ms_Main_put (by decide) rfl rfl (Nat.le_of_ble_eq_true rfl) ?_
        refine t1_Main_put hld (X0 + 6) (shSt_6 hX0) (ltSt_6 hX0) (by decide) _ _ (fun  M399 L400 k401 => ?_)
        obtain ⟨x402, ex402⟩ : ∃ y : Int32, y = v385 + 1 := ⟨_, rfl⟩
        refine g_iinc (pc1 := 30) (v := x402) (lv' := [(0, .ref X0), (1, .int p1), (2, .int x402)]) d_State_eatServed_27 rfl 2 rfl (by rw [ex402]; rfl) (by decide) [1, 2, 0] rfl ?_
        refine g_goto (tgt := 2) d_State_eatServed_30 (by decide) ?_
        exact ih382 x402 M399 L400 (Kp.trans k388 (Kp.mono k401 (one_S (S1_St_6 hX0)))) (nn_up (y := (3 : Int32)) h390 ex402 n389) (md_up h390 ex402 hm383)
  exact LP384 _ 0 M L Kp.rf (by decide) (Nat.lt_succ_self _)
set_option maxHeartbeats 4000000 in
set_option maxRecDepth 20000 in
theorem t1_State_hasEaten {l : Launch} {ld : Nat} (hld : isLa ld) {M : gM} {L : gL} {Q : Option Value → gM → gL → gR → Prop} (X0 : Nat) (hX0 : isSt X0) (p1 : Int32) (hQ : ∀ (r : Int32) , (r = 0 ∨ r = 1) → Q (some (.int r)) M L (rf ld)) : Tm l y_State_hasEaten (0, 0, 447) 447 [.ref X0, .int p1] M L (rf ld) Q := by
  refine Tm.of (by decide) (Nat.le_of_ble_eq_true rfl) ?_
  show Wp l y_State_hasEaten (0, 0, 447) 447 0 0 0 [(0, .ref X0), (1, .int p1)] [] M L (rf ld) Q
  refine g_aload_n (pc1 := 1) d_State_hasEaten_0 rfl 0 rfl ?_
  refine g_getr (pc1 := 4) d_State_hasEaten_1 rfl ⟨_, fo_State_25⟩ (shSt_0 hX0) (ltSt_0 hX0) (rfSt_7 ld hX0) ?_
  refine g_iload_n (pc1 := 5) d_State_hasEaten_4 rfl 1 rfl ?_
  refine g_callS0 (pc1 := 8) (As := [.ref (X0 + 4), .int p1]) (rest := []) d_State_hasEaten_5 rfl mo_State_53 ms_Main_at (by decide) rfl rfl (Nat.le_of_ble_eq_true rfl) ?_
  refine t1_Main_at hld (X0 + 4) (shSt_4 hX0) (ltSt_4 hX0) (by decide) _ (fun r403 => ?_)
  refine g_if_le (pc1 := 11) (tgt := 15) d_State_hasEaten_8 (by decide) rfl (fun h404 => ?_) (fun h404 => ?_)
  · refine g_iconst (pc1 := 16) (v := 0) d_State_hasEaten_15 rfl (by decide) ?_
    refine g_ireturn (Or.inr ⟨rfl, rfl⟩) d_State_hasEaten_16 rfl ?_
    exact hQ _ (Or.inl rfl)
  · refine g_iconst (pc1 := 12) (v := 1) d_State_hasEaten_11 rfl (by decide) ?_
    refine g_goto (tgt := 16) d_State_hasEaten_12 (by decide) ?_
    refine g_ireturn (Or.inr ⟨rfl, rfl⟩) d_State_hasEaten_16 rfl ?_
    exact hQ _ (Or.inr rfl)
set_option maxHeartbeats 4000000 in
set_option maxRecDepth 20000 in
theorem t1_Tokens_behindBlanks {l : Launch} {ld : Nat} (hld : isLa ld) {M : gM} {L : gL} {Q : Option Value → gM → gL → gR → Prop} (p2 : Int32) (hQ : ∀ (r : Int32) , Q (some (.int r)) M L (rf ld)) : Tm l y_Tokens_behindBlanks (0, 0, 447) 447 [.ref 1, .int p2] M L (rf ld) Q := by
  refine Tm.of (by decide) (Nat.le_of_ble_eq_true rfl) ?_
  show Wp l y_Tokens_behindBlanks (0, 0, 447) 447 0 0 0 [(0, .ref 1), (1, .int p2)] [] M L (rf ld) Q
  refine g_iload_n (pc1 := 1) d_Tokens_behindBlanks_0 rfl 1 rfl ?_
  refine g_istore_n (pc1 := 2) (lv' := [(0, .ref 1), (1, .int p2), (2, .int p2)]) d_Tokens_behindBlanks_1 rfl rfl (by decide) [1, 2, 0] rfl ?_
  have LP408 : ∀ (f405 : Nat) (v409 : Int32), ((M 1 1).toInt - v409.toInt).toNat < f405 → Wp l y_Tokens_behindBlanks (0, 0, 447) 447 0 0 2 [(0, .ref 1), (1, .int p2), (2, .int v409)] [] M L (rf ld) Q := by
    intro f405
    induction f405 with
    | zero => intro v409 hm407; exact absurd hm407 (Nat.not_lt_zero _)
    | succ f405 ih406 =>
      intro v409 hm407
      refine g_iload_n (pc1 := 3) d_Tokens_behindBlanks_2 rfl 2 rfl ?_
      refine g_aload_n (pc1 := 4) d_Tokens_behindBlanks_3 rfl 0 rfl ?_
      refine g_geti (pc1 := 7) d_Tokens_behindBlanks_4 rfl ⟨_, fo_Tokens_55⟩ sh_1 (by decide) ?_
      refine g_icmp_ge (pc1 := 10) (tgt := 27) d_Tokens_behindBlanks_7 (by decide) rfl (fun h410 => ?_) (fun h410 => ?_)
      · refine g_iload_n (pc1 := 28) d_Tokens_behindBlanks_27 rfl 2 rfl ?_
        refine g_ireturn (Or.inl rfl) d_Tokens_behindBlanks_28 rfl ?_
        exact hQ _
      · refine g_aload_n (pc1 := 11) d_Tokens_behindBlanks_10 rfl 0 rfl ?_
        refine g_iload_n (pc1 := 12) d_Tokens_behindBlanks_11 rfl 2 rfl ?_
        refine g_callV0 (pc1 := 15) (As := [.int v409]) (rest := []) d_Tokens_behindBlanks_12 rfl mo_Tokens_60 mi_Tape_byteAt mv_Tape_byteAt rfl sh_1 (by decide) (by decide) rfl rfl (Nat.le_of_ble_eq_true rfl) ?_
        refine t1_Tape_byteAt hld _ (fun r411 => ?_)
        refine g_callS0 (pc1 := 18) (As := [.int r411]) (rest := []) d_Tokens_behindBlanks_15 rfl mo_Tokens_64 ms_Tokens_isBlank (by decide) rfl rfl (Nat.le_of_ble_eq_true rfl) ?_
        refine t1_Tokens_isBlank hld _ (fun r412 hr412 => ?_)
        refine g_if_eq (pc1 := 21) (tgt := 27) d_Tokens_behindBlanks_18 (by decide) rfl (fun h413 => ?_) (fun h413 => ?_)
        · refine g_iload_n (pc1 := 28) d_Tokens_behindBlanks_27 rfl 2 rfl ?_
          refine g_ireturn (Or.inl rfl) d_Tokens_behindBlanks_28 rfl ?_
          exact hQ _
        · obtain ⟨x414, ex414⟩ : ∃ y : Int32, y = v409 + 1 := ⟨_, rfl⟩
          refine g_iinc (pc1 := 24) (v := x414) (lv' := [(0, .ref 1), (1, .int p2), (2, .int x414)]) d_Tokens_behindBlanks_21 rfl 2 rfl (by rw [ex414]; rfl) (by decide) [1, 2, 0] rfl ?_
          refine g_goto (tgt := 2) d_Tokens_behindBlanks_24 (by decide) ?_
          exact ih406 x414 (md_up h410 ex414 hm407)
  exact LP408 _ p2 (Nat.lt_succ_self _)
set_option maxHeartbeats 4000000 in
set_option maxRecDepth 20000 in
theorem t1_Tokens_cutDigits {l : Launch} {ld : Nat} (hld : isLa ld) {M : gM} {L : gL} {Q : Option Value → gM → gL → gR → Prop} (p2 : Int32) (p3 : Int32) (hQ : ∀ (r : Int32) (M' : gM) (L' : gL), Kp S2 M L M' L' → Q (some (.int r)) M' L' (rf ld)) : Tm l y_Tokens_cutDigits (0, 0, 447) 447 [.ref 4, .ref 1, .int p2, .int p3] M L (rf ld) Q := by
  refine Tm.of (by decide) (Nat.le_of_ble_eq_true rfl) ?_
  show Wp l y_Tokens_cutDigits (0, 0, 447) 447 0 0 0 [(0, .ref 4), (1, .ref 1), (2, .int p2), (3, .int p3)] [] M L (rf ld) Q
  refine g_lconst (pc1 := 1) (v := 0) d_Tokens_cutDigits_0 rfl (by decide) ?_
  refine g_lstore (pc1 := 3) (lv' := [(0, .ref 4), (1, .ref 1), (2, .int p2), (3, .int p3), (4, .long 0)]) d_Tokens_cutDigits_1 rfl (by decide) [1, 2, 3, 4, 0] rfl ?_
  refine g_iload_n (pc1 := 4) d_Tokens_cutDigits_3 rfl 2 rfl ?_
  refine g_istore (pc1 := 6) (lv' := [(0, .ref 4), (1, .ref 1), (2, .int p2), (3, .int p3), (4, .long 0), (6, .int p2)]) d_Tokens_cutDigits_4 rfl (by decide) [1, 2, 3, 4, 5, 0] rfl ?_
  have LP418 : ∀ (f415 : Nat) (v419 : Int64) (v420 : Int32), ((M 1 1).toInt - v420.toInt).toNat < f415 → Wp l y_Tokens_cutDigits (0, 0, 447) 447 0 0 6 [(0, .ref 4), (1, .ref 1), (2, .int p2), (3, .int p3), (4, .long v419), (6, .int v420)] [] M L (rf ld) Q := by
    intro f415
    induction f415 with
    | zero => intro v419 v420 hm417; exact absurd hm417 (Nat.not_lt_zero _)
    | succ f415 ih416 =>
      intro v419 v420 hm417
      refine g_iload (pc1 := 8) d_Tokens_cutDigits_6 rfl 5 rfl ?_
      refine g_aload_n (pc1 := 9) d_Tokens_cutDigits_8 rfl 1 rfl ?_
      refine g_geti (pc1 := 12) d_Tokens_cutDigits_9 rfl ⟨_, fo_Tokens_55⟩ sh_1 (by decide) ?_
      refine g_icmp_ge (pc1 := 15) (tgt := 62) d_Tokens_cutDigits_12 (by decide) rfl (fun h421 => ?_) (fun h421 => ?_)
      · refine g_aload_n (pc1 := 63) d_Tokens_cutDigits_62 rfl 0 rfl ?_
        refine g_iload_n (pc1 := 64) d_Tokens_cutDigits_63 rfl 3 rfl ?_
        refine g_iload (pc1 := 66) d_Tokens_cutDigits_64 rfl 5 rfl ?_
        refine g_iload_n (pc1 := 67) d_Tokens_cutDigits_66 rfl 2 rfl ?_
        refine g_isub (pc1 := 68) d_Tokens_cutDigits_67 rfl ?_
        refine g_iconst (pc1 := 69) (v := 4) d_Tokens_cutDigits_68 rfl (by decide) ?_
        refine g_icmp_le (pc1 := 72) (tgt := 76) d_Tokens_cutDigits_69 (by decide) rfl (fun h422 => ?_) (fun h422 => ?_)
        · refine g_iconst (pc1 := 77) (v := 3) d_Tokens_cutDigits_76 rfl (by decide) ?_
          refine g_lload (pc1 := 79) d_Tokens_cutDigits_77 rfl 4 rfl ?_
          refine g_callV0 (pc1 := 82) (As := [.int p3, .int 3, .long v419]) (rest := []) d_Tokens_cutDigits_79 rfl mo_Tokens_74 mi_Tokens_set mv_Tokens_set rfl sh_4 (by decide) (by decide) rfl rfl (Nat.le_of_ble_eq_true rfl) ?_
          refine t1_Tokens_set hld _ _ _ (fun  M423 L424 k425 => ?_)
          refine g_iload (pc1 := 84) d_Tokens_cutDigits_82 rfl 5 rfl ?_
          refine g_ireturn (Or.inl rfl) d_Tokens_cutDigits_84 rfl ?_
          exact hQ _ _ _ (Kp.trans Kp.rf k425)
        · refine g_iconst (pc1 := 73) (v := 1) d_Tokens_cutDigits_72 rfl (by decide) ?_
          refine g_goto (tgt := 77) d_Tokens_cutDigits_73 (by decide) ?_
          refine g_lload (pc1 := 79) d_Tokens_cutDigits_77 rfl 4 rfl ?_
          refine g_callV0 (pc1 := 82) (As := [.int p3, .int 1, .long v419]) (rest := []) d_Tokens_cutDigits_79 rfl mo_Tokens_74 mi_Tokens_set mv_Tokens_set rfl sh_4 (by decide) (by decide) rfl rfl (Nat.le_of_ble_eq_true rfl) ?_
          refine t1_Tokens_set hld _ _ _ (fun  M426 L427 k428 => ?_)
          refine g_iload (pc1 := 84) d_Tokens_cutDigits_82 rfl 5 rfl ?_
          refine g_ireturn (Or.inl rfl) d_Tokens_cutDigits_84 rfl ?_
          exact hQ _ _ _ (Kp.trans Kp.rf k428)
      · refine g_aload_n (pc1 := 16) d_Tokens_cutDigits_15 rfl 1 rfl ?_
        refine g_iload (pc1 := 18) d_Tokens_cutDigits_16 rfl 5 rfl ?_
        refine g_callV0 (pc1 := 21) (As := [.int v420]) (rest := []) d_Tokens_cutDigits_18 rfl mo_Tokens_60 mi_Tape_byteAt mv_Tape_byteAt rfl sh_1 (by decide) (by decide) rfl rfl (Nat.le_of_ble_eq_true rfl) ?_
        refine t1_Tape_byteAt hld _ (fun r429 => ?_)
        refine g_bipush (pc1 := 23) (v := 48) d_Tokens_cutDigits_21 rfl (by decide) ?_
        refine g_icmp_lt (pc1 := 26) (tgt := 62) d_Tokens_cutDigits_23 (by decide) rfl (fun h430 => ?_) (fun h430 => ?_)
        · refine g_aload_n (pc1 := 63) d_Tokens_cutDigits_62 rfl 0 rfl ?_
          refine g_iload_n (pc1 := 64) d_Tokens_cutDigits_63 rfl 3 rfl ?_
          refine g_iload (pc1 := 66) d_Tokens_cutDigits_64 rfl 5 rfl ?_
          refine g_iload_n (pc1 := 67) d_Tokens_cutDigits_66 rfl 2 rfl ?_
          refine g_isub (pc1 := 68) d_Tokens_cutDigits_67 rfl ?_
          refine g_iconst (pc1 := 69) (v := 4) d_Tokens_cutDigits_68 rfl (by decide) ?_
          refine g_icmp_le (pc1 := 72) (tgt := 76) d_Tokens_cutDigits_69 (by decide) rfl (fun h431 => ?_) (fun h431 => ?_)
          · refine g_iconst (pc1 := 77) (v := 3) d_Tokens_cutDigits_76 rfl (by decide) ?_
            refine g_lload (pc1 := 79) d_Tokens_cutDigits_77 rfl 4 rfl ?_
            refine g_callV0 (pc1 := 82) (As := [.int p3, .int 3, .long v419]) (rest := []) d_Tokens_cutDigits_79 rfl mo_Tokens_74 mi_Tokens_set mv_Tokens_set rfl sh_4 (by decide) (by decide) rfl rfl (Nat.le_of_ble_eq_true rfl) ?_
            refine t1_Tokens_set hld _ _ _ (fun  M432 L433 k434 => ?_)
            refine g_iload (pc1 := 84) d_Tokens_cutDigits_82 rfl 5 rfl ?_
            refine g_ireturn (Or.inl rfl) d_Tokens_cutDigits_84 rfl ?_
            exact hQ _ _ _ (Kp.trans Kp.rf k434)
          · refine g_iconst (pc1 := 73) (v := 1) d_Tokens_cutDigits_72 rfl (by decide) ?_
            refine g_goto (tgt := 77) d_Tokens_cutDigits_73 (by decide) ?_
            refine g_lload (pc1 := 79) d_Tokens_cutDigits_77 rfl 4 rfl ?_
            refine g_callV0 (pc1 := 82) (As := [.int p3, .int 1, .long v419]) (rest := []) d_Tokens_cutDigits_79 rfl mo_Tokens_74 mi_Tokens_set mv_Tokens_set rfl sh_4 (by decide) (by decide) rfl rfl (Nat.le_of_ble_eq_true rfl) ?_
            refine t1_Tokens_set hld _ _ _ (fun  M435 L436 k437 => ?_)
            refine g_iload (pc1 := 84) d_Tokens_cutDigits_82 rfl 5 rfl ?_
            refine g_ireturn (Or.inl rfl) d_Tokens_cutDigits_84 rfl ?_
            exact hQ _ _ _ (Kp.trans Kp.rf k437)
        · refine g_aload_n (pc1 := 27) d_Tokens_cutDigits_26 rfl 1 rfl ?_
          refine g_iload (pc1 := 29) d_Tokens_cutDigits_27 rfl 5 rfl ?_
          refine g_callV0 (pc1 := 32) (As := [.int v420]) (rest := []) d_Tokens_cutDigits_29 rfl mo_Tokens_60 mi_Tape_byteAt mv_Tape_byteAt rfl sh_1 (by decide) (by decide) rfl rfl (Nat.le_of_ble_eq_true rfl) ?_
          refine t1_Tape_byteAt hld _ (fun r438 => ?_)
          refine g_bipush (pc1 := 34) (v := 57) d_Tokens_cutDigits_32 rfl (by decide) ?_
          refine g_icmp_gt (pc1 := 37) (tgt := 62) d_Tokens_cutDigits_34 (by decide) rfl (fun h439 => ?_) (fun h439 => ?_)
          · refine g_aload_n (pc1 := 63) d_Tokens_cutDigits_62 rfl 0 rfl ?_
            refine g_iload_n (pc1 := 64) d_Tokens_cutDigits_63 rfl 3 rfl ?_
            refine g_iload (pc1 := 66) d_Tokens_cutDigits_64 rfl 5 rfl ?_
            refine g_iload_n (pc1 := 67) d_Tokens_cutDigits_66 rfl 2 rfl ?_
            refine g_isub (pc1 := 68) d_Tokens_cutDigits_67 rfl ?_
            refine g_iconst (pc1 := 69) (v := 4) d_Tokens_cutDigits_68 rfl (by decide) ?_
            refine g_icmp_le (pc1 := 72) (tgt := 76) d_Tokens_cutDigits_69 (by decide) rfl (fun h440 => ?_) (fun h440 => ?_)
            · refine g_iconst (pc1 := 77) (v := 3) d_Tokens_cutDigits_76 rfl (by decide) ?_
              refine g_lload (pc1 := 79) d_Tokens_cutDigits_77 rfl 4 rfl ?_
              refine g_callV0 (pc1 := 82) (As := [.int p3, .int 3, .long v419]) (rest := []) d_Tokens_cutDigits_79 rfl mo_Tokens_74 mi_Tokens_set mv_Tokens_set rfl sh_4 (by decide) (by decide) rfl rfl (Nat.le_of_ble_eq_true rfl) ?_
              refine t1_Tokens_set hld _ _ _ (fun  M441 L442 k443 => ?_)
              refine g_iload (pc1 := 84) d_Tokens_cutDigits_82 rfl 5 rfl ?_
              refine g_ireturn (Or.inl rfl) d_Tokens_cutDigits_84 rfl ?_
              exact hQ _ _ _ (Kp.trans Kp.rf k443)
            · refine g_iconst (pc1 := 73) (v := 1) d_Tokens_cutDigits_72 rfl (by decide) ?_
              refine g_goto (tgt := 77) d_Tokens_cutDigits_73 (by decide) ?_
              refine g_lload (pc1 := 79) d_Tokens_cutDigits_77 rfl 4 rfl ?_
              refine g_callV0 (pc1 := 82) (As := [.int p3, .int 1, .long v419]) (rest := []) d_Tokens_cutDigits_79 rfl mo_Tokens_74 mi_Tokens_set mv_Tokens_set rfl sh_4 (by decide) (by decide) rfl rfl (Nat.le_of_ble_eq_true rfl) ?_
              refine t1_Tokens_set hld _ _ _ (fun  M444 L445 k446 => ?_)
              refine g_iload (pc1 := 84) d_Tokens_cutDigits_82 rfl 5 rfl ?_
              refine g_ireturn (Or.inl rfl) d_Tokens_cutDigits_84 rfl ?_
              exact hQ _ _ _ (Kp.trans Kp.rf k446)
          · refine g_lload (pc1 := 39) d_Tokens_cutDigits_37 rfl 4 rfl ?_
            refine g_ldc2 (pc1 := 42) (v := 10) d_Tokens_cutDigits_39 rfl co_Tokens_85 ?_
            refine g_lmul (pc1 := 43) d_Tokens_cutDigits_42 rfl ?_
            refine g_aload_n (pc1 := 44) d_Tokens_cutDigits_43 rfl 1 rfl ?_
            refine g_iload (pc1 := 46) d_Tokens_cutDigits_44 rfl 5 rfl ?_
            refine g_callV0 (pc1 := 49) (As := [.int v420]) (rest := [.long (v419 * 10)]) d_Tokens_cutDigits_46 rfl mo_Tokens_60 mi_Tape_byteAt mv_Tape_byteAt rfl sh_1 (by decide) (by decide) rfl rfl (Nat.le_of_ble_eq_true rfl) ?_
            refine t1_Tape_byteAt hld _ (fun r447 => ?_)
            refine g_bipush (pc1 := 51) (v := 48) d_Tokens_cutDigits_49 rfl (by decide) ?_
            refine g_isub (pc1 := 52) d_Tokens_cutDigits_51 rfl ?_
            refine g_i2l (pc1 := 53) d_Tokens_cutDigits_52 rfl ?_
            refine g_ladd (pc1 := 54) d_Tokens_cutDigits_53 rfl ?_
            refine Wp.topl (fun x448 ex448 => ?_)
            refine g_lstore (pc1 := 56) (lv' := [(0, .ref 4), (1, .ref 1), (2, .int p2), (3, .int p3), (4, .long x448), (6, .int v420)]) d_Tokens_cutDigits_54 rfl (by decide) [1, 2, 3, 4, 0, 5] rfl ?_
            obtain ⟨x449, ex449⟩ : ∃ y : Int32, y = v420 + 1 := ⟨_, rfl⟩
            refine g_iinc (pc1 := 59) (v := x449) (lv' := [(0, .ref 4), (1, .ref 1), (2, .int p2), (3, .int p3), (4, .long x448), (6, .int x449)]) d_Tokens_cutDigits_56 rfl 5 rfl (by rw [ex449]; rfl) (by decide) [1, 2, 3, 4, 5, 0] rfl ?_
            refine g_goto (tgt := 6) d_Tokens_cutDigits_59 (by decide) ?_
            exact ih416 x448 x449 (md_up h421 ex449 hm417)
  exact LP418 _ 0 p2 (Nat.lt_succ_self _)
set_option maxHeartbeats 4000000 in
set_option maxRecDepth 20000 in
theorem t1_Tokens_cutLetters {l : Launch} {ld : Nat} (hld : isLa ld) {M : gM} {L : gL} {Q : Option Value → gM → gL → gR → Prop} (p2 : Int32) (p3 : Int32) (hQ : ∀ (r : Int32) (M' : gM) (L' : gL), Kp S2 M L M' L' → Q (some (.int r)) M' L' (rf ld)) : Tm l y_Tokens_cutLetters (0, 0, 447) 447 [.ref 4, .ref 1, .int p2, .int p3] M L (rf ld) Q := by
  refine Tm.of (by decide) (Nat.le_of_ble_eq_true rfl) ?_
  show Wp l y_Tokens_cutLetters (0, 0, 447) 447 0 0 0 [(0, .ref 4), (1, .ref 1), (2, .int p2), (3, .int p3)] [] M L (rf ld) Q
  refine g_lconst (pc1 := 1) (v := 0) d_Tokens_cutLetters_0 rfl (by decide) ?_
  refine g_lstore (pc1 := 3) (lv' := [(0, .ref 4), (1, .ref 1), (2, .int p2), (3, .int p3), (4, .long 0)]) d_Tokens_cutLetters_1 rfl (by decide) [1, 2, 3, 4, 0] rfl ?_
  refine g_iload_n (pc1 := 4) d_Tokens_cutLetters_3 rfl 2 rfl ?_
  refine g_istore (pc1 := 6) (lv' := [(0, .ref 4), (1, .ref 1), (2, .int p2), (3, .int p3), (4, .long 0), (6, .int p2)]) d_Tokens_cutLetters_4 rfl (by decide) [1, 2, 3, 4, 5, 0] rfl ?_
  have LP453 : ∀ (f450 : Nat) (v454 : Int64) (v455 : Int32), ((M 1 1).toInt - v455.toInt).toNat < f450 → Wp l y_Tokens_cutLetters (0, 0, 447) 447 0 0 6 [(0, .ref 4), (1, .ref 1), (2, .int p2), (3, .int p3), (4, .long v454), (6, .int v455)] [] M L (rf ld) Q := by
    intro f450
    induction f450 with
    | zero => intro v454 v455 hm452; exact absurd hm452 (Nat.not_lt_zero _)
    | succ f450 ih451 =>
      intro v454 v455 hm452
      refine g_iload (pc1 := 8) d_Tokens_cutLetters_6 rfl 5 rfl ?_
      refine g_aload_n (pc1 := 9) d_Tokens_cutLetters_8 rfl 1 rfl ?_
      refine g_geti (pc1 := 12) d_Tokens_cutLetters_9 rfl ⟨_, fo_Tokens_55⟩ sh_1 (by decide) ?_
      refine g_icmp_ge (pc1 := 15) (tgt := 56) d_Tokens_cutLetters_12 (by decide) rfl (fun h456 => ?_) (fun h456 => ?_)
      · refine g_aload_n (pc1 := 57) d_Tokens_cutLetters_56 rfl 0 rfl ?_
        refine g_iload_n (pc1 := 58) d_Tokens_cutLetters_57 rfl 3 rfl ?_
        refine g_iload (pc1 := 60) d_Tokens_cutLetters_58 rfl 5 rfl ?_
        refine g_iload_n (pc1 := 61) d_Tokens_cutLetters_60 rfl 2 rfl ?_
        refine g_isub (pc1 := 62) d_Tokens_cutLetters_61 rfl ?_
        refine g_bipush (pc1 := 64) (v := 8) d_Tokens_cutLetters_62 rfl (by decide) ?_
        refine g_icmp_le (pc1 := 67) (tgt := 71) d_Tokens_cutLetters_64 (by decide) rfl (fun h457 => ?_) (fun h457 => ?_)
        · refine g_aload_n (pc1 := 72) d_Tokens_cutLetters_71 rfl 0 rfl ?_
          refine g_lload (pc1 := 74) d_Tokens_cutLetters_72 rfl 4 rfl ?_
          refine g_callV0 (pc1 := 77) (As := [.long v454]) (rest := [.int p3, .ref 4]) d_Tokens_cutLetters_74 rfl mo_Tokens_81 mi_Tokens_kindOf mv_Tokens_kindOf rfl sh_4 (by decide) (by decide) rfl rfl (Nat.le_of_ble_eq_true rfl) ?_
          refine t1_Tokens_kindOf hld _ (fun r458 => ?_)
          refine g_lload (pc1 := 79) d_Tokens_cutLetters_77 rfl 4 rfl ?_
          refine g_callV0 (pc1 := 82) (As := [.int p3, .int r458, .long v454]) (rest := []) d_Tokens_cutLetters_79 rfl mo_Tokens_74 mi_Tokens_set mv_Tokens_set rfl sh_4 (by decide) (by decide) rfl rfl (Nat.le_of_ble_eq_true rfl) ?_
          refine t1_Tokens_set hld _ _ _ (fun  M459 L460 k461 => ?_)
          refine g_iload (pc1 := 84) d_Tokens_cutLetters_82 rfl 5 rfl ?_
          refine g_ireturn (Or.inl rfl) d_Tokens_cutLetters_84 rfl ?_
          exact hQ _ _ _ (Kp.trans Kp.rf k461)
        · refine g_iconst (pc1 := 68) (v := 1) d_Tokens_cutLetters_67 rfl (by decide) ?_
          refine g_goto (tgt := 77) d_Tokens_cutLetters_68 (by decide) ?_
          refine g_lload (pc1 := 79) d_Tokens_cutLetters_77 rfl 4 rfl ?_
          refine g_callV0 (pc1 := 82) (As := [.int p3, .int 1, .long v454]) (rest := []) d_Tokens_cutLetters_79 rfl mo_Tokens_74 mi_Tokens_set mv_Tokens_set rfl sh_4 (by decide) (by decide) rfl rfl (Nat.le_of_ble_eq_true rfl) ?_
          refine t1_Tokens_set hld _ _ _ (fun  M462 L463 k464 => ?_)
          refine g_iload (pc1 := 84) d_Tokens_cutLetters_82 rfl 5 rfl ?_
          refine g_ireturn (Or.inl rfl) d_Tokens_cutLetters_84 rfl ?_
          exact hQ _ _ _ (Kp.trans Kp.rf k464)
      · refine g_aload_n (pc1 := 16) d_Tokens_cutLetters_15 rfl 1 rfl ?_
        refine g_iload (pc1 := 18) d_Tokens_cutLetters_16 rfl 5 rfl ?_
        refine g_callV0 (pc1 := 21) (As := [.int v455]) (rest := []) d_Tokens_cutLetters_18 rfl mo_Tokens_60 mi_Tape_byteAt mv_Tape_byteAt rfl sh_1 (by decide) (by decide) rfl rfl (Nat.le_of_ble_eq_true rfl) ?_
        refine t1_Tape_byteAt hld _ (fun r465 => ?_)
        refine g_bipush (pc1 := 23) (v := 97) d_Tokens_cutLetters_21 rfl (by decide) ?_
        refine g_icmp_lt (pc1 := 26) (tgt := 56) d_Tokens_cutLetters_23 (by decide) rfl (fun h466 => ?_) (fun h466 => ?_)
        · refine g_aload_n (pc1 := 57) d_Tokens_cutLetters_56 rfl 0 rfl ?_
          refine g_iload_n (pc1 := 58) d_Tokens_cutLetters_57 rfl 3 rfl ?_
          refine g_iload (pc1 := 60) d_Tokens_cutLetters_58 rfl 5 rfl ?_
          refine g_iload_n (pc1 := 61) d_Tokens_cutLetters_60 rfl 2 rfl ?_
          refine g_isub (pc1 := 62) d_Tokens_cutLetters_61 rfl ?_
          refine g_bipush (pc1 := 64) (v := 8) d_Tokens_cutLetters_62 rfl (by decide) ?_
          refine g_icmp_le (pc1 := 67) (tgt := 71) d_Tokens_cutLetters_64 (by decide) rfl (fun h467 => ?_) (fun h467 => ?_)
          · refine g_aload_n (pc1 := 72) d_Tokens_cutLetters_71 rfl 0 rfl ?_
            refine g_lload (pc1 := 74) d_Tokens_cutLetters_72 rfl 4 rfl ?_
            refine g_callV0 (pc1 := 77) (As := [.long v454]) (rest := [.int p3, .ref 4]) d_Tokens_cutLetters_74 rfl mo_Tokens_81 mi_Tokens_kindOf mv_Tokens_kindOf rfl sh_4 (by decide) (by decide) rfl rfl (Nat.le_of_ble_eq_true rfl) ?_
            refine t1_Tokens_kindOf hld _ (fun r468 => ?_)
            refine g_lload (pc1 := 79) d_Tokens_cutLetters_77 rfl 4 rfl ?_
            refine g_callV0 (pc1 := 82) (As := [.int p3, .int r468, .long v454]) (rest := []) d_Tokens_cutLetters_79 rfl mo_Tokens_74 mi_Tokens_set mv_Tokens_set rfl sh_4 (by decide) (by decide) rfl rfl (Nat.le_of_ble_eq_true rfl) ?_
            refine t1_Tokens_set hld _ _ _ (fun  M469 L470 k471 => ?_)
            refine g_iload (pc1 := 84) d_Tokens_cutLetters_82 rfl 5 rfl ?_
            refine g_ireturn (Or.inl rfl) d_Tokens_cutLetters_84 rfl ?_
            exact hQ _ _ _ (Kp.trans Kp.rf k471)
          · refine g_iconst (pc1 := 68) (v := 1) d_Tokens_cutLetters_67 rfl (by decide) ?_
            refine g_goto (tgt := 77) d_Tokens_cutLetters_68 (by decide) ?_
            refine g_lload (pc1 := 79) d_Tokens_cutLetters_77 rfl 4 rfl ?_
            refine g_callV0 (pc1 := 82) (As := [.int p3, .int 1, .long v454]) (rest := []) d_Tokens_cutLetters_79 rfl mo_Tokens_74 mi_Tokens_set mv_Tokens_set rfl sh_4 (by decide) (by decide) rfl rfl (Nat.le_of_ble_eq_true rfl) ?_
            refine t1_Tokens_set hld _ _ _ (fun  M472 L473 k474 => ?_)
            refine g_iload (pc1 := 84) d_Tokens_cutLetters_82 rfl 5 rfl ?_
            refine g_ireturn (Or.inl rfl) d_Tokens_cutLetters_84 rfl ?_
            exact hQ _ _ _ (Kp.trans Kp.rf k474)
        · refine g_aload_n (pc1 := 27) d_Tokens_cutLetters_26 rfl 1 rfl ?_
          refine g_iload (pc1 := 29) d_Tokens_cutLetters_27 rfl 5 rfl ?_
          refine g_callV0 (pc1 := 32) (As := [.int v455]) (rest := []) d_Tokens_cutLetters_29 rfl mo_Tokens_60 mi_Tape_byteAt mv_Tape_byteAt rfl sh_1 (by decide) (by decide) rfl rfl (Nat.le_of_ble_eq_true rfl) ?_
          refine t1_Tape_byteAt hld _ (fun r475 => ?_)
          refine g_bipush (pc1 := 34) (v := 122) d_Tokens_cutLetters_32 rfl (by decide) ?_
          refine g_icmp_gt (pc1 := 37) (tgt := 56) d_Tokens_cutLetters_34 (by decide) rfl (fun h476 => ?_) (fun h476 => ?_)
          · refine g_aload_n (pc1 := 57) d_Tokens_cutLetters_56 rfl 0 rfl ?_
            refine g_iload_n (pc1 := 58) d_Tokens_cutLetters_57 rfl 3 rfl ?_
            refine g_iload (pc1 := 60) d_Tokens_cutLetters_58 rfl 5 rfl ?_
            refine g_iload_n (pc1 := 61) d_Tokens_cutLetters_60 rfl 2 rfl ?_
            refine g_isub (pc1 := 62) d_Tokens_cutLetters_61 rfl ?_
            refine g_bipush (pc1 := 64) (v := 8) d_Tokens_cutLetters_62 rfl (by decide) ?_
            refine g_icmp_le (pc1 := 67) (tgt := 71) d_Tokens_cutLetters_64 (by decide) rfl (fun h477 => ?_) (fun h477 => ?_)
            · refine g_aload_n (pc1 := 72) d_Tokens_cutLetters_71 rfl 0 rfl ?_
              refine g_lload (pc1 := 74) d_Tokens_cutLetters_72 rfl 4 rfl ?_
              refine g_callV0 (pc1 := 77) (As := [.long v454]) (rest := [.int p3, .ref 4]) d_Tokens_cutLetters_74 rfl mo_Tokens_81 mi_Tokens_kindOf mv_Tokens_kindOf rfl sh_4 (by decide) (by decide) rfl rfl (Nat.le_of_ble_eq_true rfl) ?_
              refine t1_Tokens_kindOf hld _ (fun r478 => ?_)
              refine g_lload (pc1 := 79) d_Tokens_cutLetters_77 rfl 4 rfl ?_
              refine g_callV0 (pc1 := 82) (As := [.int p3, .int r478, .long v454]) (rest := []) d_Tokens_cutLetters_79 rfl mo_Tokens_74 mi_Tokens_set mv_Tokens_set rfl sh_4 (by decide) (by decide) rfl rfl (Nat.le_of_ble_eq_true rfl) ?_
              refine t1_Tokens_set hld _ _ _ (fun  M479 L480 k481 => ?_)
              refine g_iload (pc1 := 84) d_Tokens_cutLetters_82 rfl 5 rfl ?_
              refine g_ireturn (Or.inl rfl) d_Tokens_cutLetters_84 rfl ?_
              exact hQ _ _ _ (Kp.trans Kp.rf k481)
            · refine g_iconst (pc1 := 68) (v := 1) d_Tokens_cutLetters_67 rfl (by decide) ?_
              refine g_goto (tgt := 77) d_Tokens_cutLetters_68 (by decide) ?_
              refine g_lload (pc1 := 79) d_Tokens_cutLetters_77 rfl 4 rfl ?_
              refine g_callV0 (pc1 := 82) (As := [.int p3, .int 1, .long v454]) (rest := []) d_Tokens_cutLetters_79 rfl mo_Tokens_74 mi_Tokens_set mv_Tokens_set rfl sh_4 (by decide) (by decide) rfl rfl (Nat.le_of_ble_eq_true rfl) ?_
              refine t1_Tokens_set hld _ _ _ (fun  M482 L483 k484 => ?_)
              refine g_iload (pc1 := 84) d_Tokens_cutLetters_82 rfl 5 rfl ?_
              refine g_ireturn (Or.inl rfl) d_Tokens_cutLetters_84 rfl ?_
              exact hQ _ _ _ (Kp.trans Kp.rf k484)
          · refine g_lload (pc1 := 39) d_Tokens_cutLetters_37 rfl 4 rfl ?_
            refine g_aload_n (pc1 := 40) d_Tokens_cutLetters_39 rfl 1 rfl ?_
            refine g_iload (pc1 := 42) d_Tokens_cutLetters_40 rfl 5 rfl ?_
            refine g_callV0 (pc1 := 45) (As := [.int v455]) (rest := [.long v454]) d_Tokens_cutLetters_42 rfl mo_Tokens_60 mi_Tape_byteAt mv_Tape_byteAt rfl sh_1 (by decide) (by decide) rfl rfl (Nat.le_of_ble_eq_true rfl) ?_
            refine t1_Tape_byteAt hld _ (fun r485 => ?_)
            refine g_callS0 (pc1 := 48) (As := [.long v454, .int r485]) (rest := []) d_Tokens_cutLetters_45 rfl mo_Tokens_37 ms_Tokens_withLetter (by decide) rfl rfl (Nat.le_of_ble_eq_true rfl) ?_
            refine t1_Tokens_withLetter hld _ _ (fun r486 => ?_)
            refine g_lstore (pc1 := 50) (lv' := [(0, .ref 4), (1, .ref 1), (2, .int p2), (3, .int p3), (4, .long r486), (6, .int v455)]) d_Tokens_cutLetters_48 rfl (by decide) [1, 2, 3, 4, 0, 5] rfl ?_
            obtain ⟨x487, ex487⟩ : ∃ y : Int32, y = v455 + 1 := ⟨_, rfl⟩
            refine g_iinc (pc1 := 53) (v := x487) (lv' := [(0, .ref 4), (1, .ref 1), (2, .int p2), (3, .int p3), (4, .long r486), (6, .int x487)]) d_Tokens_cutLetters_50 rfl 5 rfl (by rw [ex487]; rfl) (by decide) [1, 2, 3, 4, 5, 0] rfl ?_
            refine g_goto (tgt := 6) d_Tokens_cutLetters_53 (by decide) ?_
            exact ih451 r486 x487 (md_up h456 ex487 hm452)
  exact LP453 _ 0 p2 (Nat.lt_succ_self _)
set_option maxHeartbeats 4000000 in
set_option maxRecDepth 20000 in
theorem t1_Told_add {l : Launch} {ld : Nat} (hld : isLa ld) {M : gM} {L : gL} {Q : Option Value → gM → gL → gR → Prop} (p1 : Int32) (p2 : Int32) (p3 : Int32) (hQ : ∀ (r : Int32) (M' : gM) (L' : gL), Kp S1 M L M' L' → Q (some (.int r)) M' L' (rf ld)) : Tm l y_Told_add (0, 0, 447) 447 [.ref 383, .int p1, .int p2, .int p3] M L (rf ld) Q := by
  refine Tm.of (by decide) (Nat.le_of_ble_eq_true rfl) ?_
  show Wp l y_Told_add (0, 0, 447) 447 0 0 0 [(0, .ref 383), (1, .int p1), (2, .int p2), (3, .int p3)] [] M L (rf ld) Q
  refine g_aload_n (pc1 := 1) d_Told_add_0 rfl 0 rfl ?_
  refine g_geti (pc1 := 4) d_Told_add_1 rfl ⟨_, fo_Told_33⟩ sh_383 (by decide) ?_
  refine g_bipush (pc1 := 6) (v := 20) d_Told_add_4 rfl (by decide) ?_
  refine g_icmp_lt (pc1 := 9) (tgt := 11) d_Told_add_6 (by decide) rfl (fun h488 => ?_) (fun h488 => ?_)
  · refine g_aload_n (pc1 := 12) d_Told_add_11 rfl 0 rfl ?_
    refine g_getr (pc1 := 15) d_Told_add_12 rfl ⟨_, fo_Told_11⟩ sh_383 (by decide) (rf_383_0 ld) ?_
    refine g_aload_n (pc1 := 16) d_Told_add_15 rfl 0 rfl ?_
    refine g_geti (pc1 := 19) d_Told_add_16 rfl ⟨_, fo_Told_33⟩ sh_383 (by decide) ?_
    refine g_iload_n (pc1 := 20) d_Told_add_19 rfl 1 rfl ?_
    refine g_callS0 (pc1 := 23) (As := [.ref 384, .int (M 383 3), .int p1]) (rest := []) d_Told_add_20 rfl mo_Told_37 ms_Main_put (by decide) rfl rfl (Nat.le_of_ble_eq_true rfl) ?_
    refine t1_Main_put hld 384 sh_384 (by decide) (by decide) _ _ (fun  M489 L490 k491 => ?_)
    refine g_aload_n (pc1 := 24) d_Told_add_23 rfl 0 rfl ?_
    refine g_getr (pc1 := 27) d_Told_add_24 rfl ⟨_, fo_Told_15⟩ sh_383 (by decide) (rf_383_1 ld) ?_
    refine g_aload_n (pc1 := 28) d_Told_add_27 rfl 0 rfl ?_
    refine g_geti (pc1 := 31) d_Told_add_28 rfl ⟨_, fo_Told_33⟩ sh_383 (by decide) ?_
    refine g_iload_n (pc1 := 32) d_Told_add_31 rfl 2 rfl ?_
    refine g_callS0 (pc1 := 35) (As := [.ref 385, .int (M489 383 3), .int p2]) (rest := []) d_Told_add_32 rfl mo_Told_37 ms_Main_put (by decide) rfl rfl (Nat.le_of_ble_eq_true rfl) ?_
    refine t1_Main_put hld 385 sh_385 (by decide) (by decide) _ _ (fun  M492 L493 k494 => ?_)
    refine g_aload_n (pc1 := 36) d_Told_add_35 rfl 0 rfl ?_
    refine g_getr (pc1 := 39) d_Told_add_36 rfl ⟨_, fo_Told_18⟩ sh_383 (by decide) (rf_383_2 ld) ?_
    refine g_aload_n (pc1 := 40) d_Told_add_39 rfl 0 rfl ?_
    refine g_geti (pc1 := 43) d_Told_add_40 rfl ⟨_, fo_Told_33⟩ sh_383 (by decide) ?_
    refine g_iload_n (pc1 := 44) d_Told_add_43 rfl 3 rfl ?_
    refine g_callS0 (pc1 := 47) (As := [.ref 386, .int (M492 383 3), .int p3]) (rest := []) d_Told_add_44 rfl mo_Told_37 ms_Main_put (by decide) rfl rfl (Nat.le_of_ble_eq_true rfl) ?_
    refine t1_Main_put hld 386 sh_386 (by decide) (by decide) _ _ (fun  M495 L496 k497 => ?_)
    refine g_aload_n (pc1 := 48) d_Told_add_47 rfl 0 rfl ?_
    refine g_dup (pc1 := 49) d_Told_add_48 rfl rfl ?_
    refine g_geti (pc1 := 52) d_Told_add_49 rfl ⟨_, fo_Told_33⟩ sh_383 (by decide) ?_
    refine g_iconst (pc1 := 53) (v := 1) d_Told_add_52 rfl (by decide) ?_
    refine g_iadd (pc1 := 54) d_Told_add_53 rfl ?_
    refine g_puti (pc1 := 57) d_Told_add_54 rfl fo_Told_33 (po_9_3 _) sh_383 (by decide) ?_
    refine Wp.topM (fun M498 eM498 => ?_)
    refine g_aload_n (pc1 := 58) d_Told_add_57 rfl 0 rfl ?_
    refine g_geti (pc1 := 61) d_Told_add_58 rfl ⟨_, fo_Told_33⟩ sh_383 (by decide) ?_
    refine g_iconst (pc1 := 62) (v := 1) d_Told_add_61 rfl (by decide) ?_
    refine g_isub (pc1 := 63) d_Told_add_62 rfl ?_
    refine g_ireturn (Or.inl rfl) d_Told_add_63 rfl ?_
    exact hQ _ _ _ (Kp.wM (Kp.trans (Kp.trans (Kp.trans Kp.rf (Kp.mono k491 (one_S rfl))) (Kp.mono k494 (one_S rfl))) (Kp.mono k497 (one_S rfl))) rfl eM498)
  · refine g_iconst (pc1 := 10) (v := (-1)) d_Told_add_9 rfl (by decide) ?_
    refine g_ireturn (Or.inl rfl) d_Told_add_10 rfl ?_
    exact hQ _ _ _ Kp.rf
set_option maxHeartbeats 4000000 in
set_option maxRecDepth 20000 in
theorem t1_Told_onlyDish {l : Launch} {ld : Nat} (hld : isLa ld) {M : gM} {L : gL} {Q : Option Value → gM → gL → gR → Prop}  (hQ : ∀ (r : Int32) , Q (some (.int r)) M L (rf ld)) : Tm l y_Told_onlyDish (0, 0, 447) 447 [.ref 383] M L (rf ld) Q := by
  refine Tm.of (by decide) (Nat.le_of_ble_eq_true rfl) ?_
  show Wp l y_Told_onlyDish (0, 0, 447) 447 0 0 0 [(0, .ref 383)] [] M L (rf ld) Q
  refine g_iconst (pc1 := 1) (v := 1) d_Told_onlyDish_0 rfl (by decide) ?_
  refine g_istore_n (pc1 := 2) (lv' := [(0, .ref 383), (1, .int 1)]) d_Told_onlyDish_1 rfl rfl (by decide) [1, 0] rfl ?_
  have LP502 : ∀ (f499 : Nat) (v503 : Int32), ¬ v503 < 0 → ((M 383 7).toInt - v503.toInt).toNat < f499 → Wp l y_Told_onlyDish (0, 0, 447) 447 0 0 2 [(0, .ref 383), (1, .int v503)] [] M L (rf ld) Q := by
    intro f499
    induction f499 with
    | zero => intro v503 _ hm501; exact absurd hm501 (Nat.not_lt_zero _)
    | succ f499 ih500 =>
      intro v503 n504 hm501
      refine g_iload_n (pc1 := 3) d_Told_onlyDish_2 rfl 1 rfl ?_
      refine g_aload_n (pc1 := 4) d_Told_onlyDish_3 rfl 0 rfl ?_
      refine g_geti (pc1 := 7) d_Told_onlyDish_4 rfl ⟨_, fo_Told_41⟩ sh_383 (by decide) ?_
      refine g_icmp_ge (pc1 := 10) (tgt := 38) d_Told_onlyDish_7 (by decide) rfl (fun h505 => ?_) (fun h505 => ?_)
      · refine g_aload_n (pc1 := 39) d_Told_onlyDish_38 rfl 0 rfl ?_
        refine g_geti (pc1 := 42) d_Told_onlyDish_39 rfl ⟨_, fo_Told_41⟩ sh_383 (by decide) ?_
        refine g_if_le (pc1 := 45) (tgt := 56) d_Told_onlyDish_42 (by decide) rfl (fun h506 => ?_) (fun h506 => ?_)
        · refine g_bipush (pc1 := 58) (v := (-2)) d_Told_onlyDish_56 rfl (by decide) ?_
          refine g_ireturn (Or.inl rfl) d_Told_onlyDish_58 rfl ?_
          exact hQ _
        · refine g_aload_n (pc1 := 46) d_Told_onlyDish_45 rfl 0 rfl ?_
          refine g_getr (pc1 := 49) d_Told_onlyDish_46 rfl ⟨_, fo_Told_21⟩ sh_383 (by decide) (rf_383_4 ld) ?_
          refine g_iconst (pc1 := 50) (v := 0) d_Told_onlyDish_49 rfl (by decide) ?_
          refine g_callS0 (pc1 := 53) (As := [.ref 387, .int 0]) (rest := []) d_Told_onlyDish_50 rfl mo_Told_73 ms_Main_at (by decide) rfl rfl (Nat.le_of_ble_eq_true rfl) ?_
          refine t1_Main_at hld 387 sh_387 (by decide) (by decide) _ (fun r507 => ?_)
          refine g_goto (tgt := 58) d_Told_onlyDish_53 (by decide) ?_
          refine g_ireturn (Or.inl rfl) d_Told_onlyDish_58 rfl ?_
          exact hQ _
      · refine g_aload_n (pc1 := 11) d_Told_onlyDish_10 rfl 0 rfl ?_
        refine g_getr (pc1 := 14) d_Told_onlyDish_11 rfl ⟨_, fo_Told_21⟩ sh_383 (by decide) (rf_383_4 ld) ?_
        refine g_iload_n (pc1 := 15) d_Told_onlyDish_14 rfl 1 rfl ?_
        refine g_callS0 (pc1 := 18) (As := [.ref 387, .int v503]) (rest := []) d_Told_onlyDish_15 rfl mo_Told_73 ms_Main_at (by decide) rfl rfl (Nat.le_of_ble_eq_true rfl) ?_
        refine t1_Main_at hld 387 sh_387 (by decide) (by decide) _ (fun r508 => ?_)
        refine g_aload_n (pc1 := 19) d_Told_onlyDish_18 rfl 0 rfl ?_
        refine g_getr (pc1 := 22) d_Told_onlyDish_19 rfl ⟨_, fo_Told_21⟩ sh_383 (by decide) (rf_383_4 ld) ?_
        refine g_iconst (pc1 := 23) (v := 0) d_Told_onlyDish_22 rfl (by decide) ?_
        refine g_callS0 (pc1 := 26) (As := [.ref 387, .int 0]) (rest := [.int r508]) d_Told_onlyDish_23 rfl mo_Told_73 ms_Main_at (by decide) rfl rfl (Nat.le_of_ble_eq_true rfl) ?_
        refine t1_Main_at hld 387 sh_387 (by decide) (by decide) _ (fun r509 => ?_)
        refine g_icmp_eq (pc1 := 29) (tgt := 32) d_Told_onlyDish_26 (by decide) rfl (fun h510 => ?_) (fun h510 => ?_)
        · obtain ⟨x511, ex511⟩ : ∃ y : Int32, y = v503 + 1 := ⟨_, rfl⟩
          refine g_iinc (pc1 := 35) (v := x511) (lv' := [(0, .ref 383), (1, .int x511)]) d_Told_onlyDish_32 rfl 1 rfl (by rw [ex511]; rfl) (by decide) [1, 0] rfl ?_
          refine g_goto (tgt := 2) d_Told_onlyDish_35 (by decide) ?_
          exact ih500 x511 (nn_up (y := (M 383 7)) h505 ex511 n504) (md_up h505 ex511 hm501)
        · refine g_bipush (pc1 := 31) (v := (-2)) d_Told_onlyDish_29 rfl (by decide) ?_
          refine g_ireturn (Or.inl rfl) d_Told_onlyDish_31 rfl ?_
          exact hQ _
  exact LP502 _ 1 (by decide) (Nat.lt_succ_self _)
set_option maxHeartbeats 4000000 in
set_option maxRecDepth 20000 in
theorem t1_Main_amount {l : Launch} {ld : Nat} (hld : isLa ld) {M : gM} {L : gL} {Q : Option Value → gM → gL → gR → Prop} (p1 : Int32) (p2 : Int32) (hQ : ∀ (r : Int32) , Q (some (.int r)) M L (rf ld)) : Tm l y_Main_amount (0, 0, 447) 447 [.ref 0, .int p1, .int p2] M L (rf ld) Q := by
  refine Tm.of (by decide) (Nat.le_of_ble_eq_true rfl) ?_
  show Wp l y_Main_amount (0, 0, 447) 447 0 0 0 [(0, .ref 0), (1, .int p1), (2, .int p2)] [] M L (rf ld) Q
  refine g_iload_n (pc1 := 1) d_Main_amount_0 rfl 1 rfl ?_
  refine g_aload_n (pc1 := 2) d_Main_amount_1 rfl 0 rfl ?_
  refine g_getr (pc1 := 5) d_Main_amount_2 rfl ⟨_, fo_Main_26⟩ sh_0 (by decide) (rf_0_2 ld) ?_
  refine g_geti (pc1 := 8) d_Main_amount_5 rfl ⟨_, fo_Main_131⟩ (shLa_0 hld) (ltLa_0 hld) ?_
  refine g_callS0 (pc1 := 11) (As := [.int p1, .int (M ld 1)]) (rest := []) d_Main_amount_8 rfl mo_Main_112 ms_Main_isOne (by decide) rfl rfl (Nat.le_of_ble_eq_true rfl) ?_
  refine t1_Main_isOne hld _ _ (fun r512 hr512 => ?_)
  refine g_if_eq (pc1 := 14) (tgt := 28) d_Main_amount_11 (by decide) rfl (fun h513 => ?_) (fun h513 => ?_)
  · refine g_iconst (pc1 := 29) (v := (-1)) d_Main_amount_28 rfl (by decide) ?_
    refine g_ireturn (Or.inl rfl) d_Main_amount_29 rfl ?_
    exact hQ _
  · refine g_iload_n (pc1 := 15) d_Main_amount_14 rfl 2 rfl ?_
    refine g_aload_n (pc1 := 16) d_Main_amount_15 rfl 0 rfl ?_
    refine g_getr (pc1 := 19) d_Main_amount_16 rfl ⟨_, fo_Main_26⟩ sh_0 (by decide) (rf_0_2 ld) ?_
    refine g_geti (pc1 := 22) d_Main_amount_19 rfl ⟨_, fo_Main_109⟩ (shLa_0 hld) (ltLa_0 hld) ?_
    refine g_callS0 (pc1 := 25) (As := [.int p2, .int (M ld 0)]) (rest := []) d_Main_amount_22 rfl mo_Main_112 ms_Main_isOne (by decide) rfl rfl (Nat.le_of_ble_eq_true rfl) ?_
    refine t1_Main_isOne hld _ _ (fun r514 hr514 => ?_)
    refine g_if_ne (pc1 := 28) (tgt := 30) d_Main_amount_25 (by decide) rfl (fun h515 => ?_) (fun h515 => ?_)
    · refine g_aload_n (pc1 := 31) d_Main_amount_30 rfl 0 rfl ?_
      refine g_getr (pc1 := 34) d_Main_amount_31 rfl ⟨_, fo_Main_26⟩ sh_0 (by decide) (rf_0_2 ld) ?_
      refine g_iload_n (pc1 := 35) d_Main_amount_34 rfl 1 rfl ?_
      refine g_iload_n (pc1 := 36) d_Main_amount_35 rfl 2 rfl ?_
      refine g_callV0 (pc1 := 39) (As := [.int p1, .int p2]) (rest := []) d_Main_amount_36 rfl mo_Main_154 mi_Land_inDish mv_Land_inDish rfl (shLa_0 hld) (ltLa_0 hld) (by decide) rfl rfl (Nat.le_of_ble_eq_true rfl) ?_
      refine t1_Land_inDish hld ld hld _ _ (fun r516 => ?_)
      refine g_ireturn (Or.inl rfl) d_Main_amount_39 rfl ?_
      exact hQ _
    · refine g_iconst (pc1 := 29) (v := (-1)) d_Main_amount_28 rfl (by decide) ?_
      refine g_ireturn (Or.inl rfl) d_Main_amount_29 rfl ?_
      exact hQ _
set_option maxHeartbeats 4000000 in
set_option maxRecDepth 20000 in
theorem t1_Main_count {l : Launch} {ld : Nat} (hld : isLa ld) {M : gM} {L : gL} {Q : Option Value → gM → gL → gR → Prop} (p1 : Int32) (hQ : ∀ (r : Int32) , Q (some (.int r)) M L (rf ld)) : Tm l y_Main_count (0, 0, 447) 447 [.ref 0, .int p1] M L (rf ld) Q := by
  refine Tm.of (by decide) (Nat.le_of_ble_eq_true rfl) ?_
  show Wp l y_Main_count (0, 0, 447) 447 0 0 0 [(0, .ref 0), (1, .int p1)] [] M L (rf ld) Q
  refine g_iload_n (pc1 := 1) d_Main_count_0 rfl 1 rfl ?_
  by_cases h517 : p1 = 0
  · refine g_tabK (tgt := 80) (off := 79) d_Main_count_1 h517 (by decide) (by decide) (by decide) (by decide) ?_
    refine g_aload_n (pc1 := 81) d_Main_count_80 rfl 0 rfl ?_
    refine g_getr (pc1 := 84) d_Main_count_81 rfl ⟨_, fo_Main_26⟩ sh_0 (by decide) (rf_0_2 ld) ?_
    refine g_geti (pc1 := 87) d_Main_count_84 rfl ⟨_, fo_Main_109⟩ (shLa_0 hld) (ltLa_0 hld) ?_
    refine g_ireturn (Or.inl rfl) d_Main_count_87 rfl ?_
    exact hQ _
  by_cases h518 : p1 = 1
  · refine g_tabK (tgt := 88) (off := 87) d_Main_count_1 h518 (by decide) (by decide) (by decide) (by decide) ?_
    refine g_aload_n (pc1 := 89) d_Main_count_88 rfl 0 rfl ?_
    refine g_getr (pc1 := 92) d_Main_count_89 rfl ⟨_, fo_Main_26⟩ sh_0 (by decide) (rf_0_2 ld) ?_
    refine g_geti (pc1 := 95) d_Main_count_92 rfl ⟨_, fo_Main_131⟩ (shLa_0 hld) (ltLa_0 hld) ?_
    refine g_ireturn (Or.inl rfl) d_Main_count_95 rfl ?_
    exact hQ _
  by_cases h519 : p1 = 2
  · refine g_tabK (tgt := 96) (off := 95) d_Main_count_1 h519 (by decide) (by decide) (by decide) (by decide) ?_
    refine g_aload_n (pc1 := 97) d_Main_count_96 rfl 0 rfl ?_
    refine g_getr (pc1 := 100) d_Main_count_97 rfl ⟨_, fo_Main_26⟩ sh_0 (by decide) (rf_0_2 ld) ?_
    refine g_geti (pc1 := 103) d_Main_count_100 rfl ⟨_, fo_Main_157⟩ (shLa_0 hld) (ltLa_0 hld) ?_
    refine g_ireturn (Or.inl rfl) d_Main_count_103 rfl ?_
    exact hQ _
  by_cases h520 : p1 = 3
  · refine g_tabK (tgt := 104) (off := 103) d_Main_count_1 h520 (by decide) (by decide) (by decide) (by decide) ?_
    refine g_aload_n (pc1 := 105) d_Main_count_104 rfl 0 rfl ?_
    refine g_getr (pc1 := 108) d_Main_count_105 rfl ⟨_, fo_Main_26⟩ sh_0 (by decide) (rf_0_2 ld) ?_
    refine g_geti (pc1 := 111) d_Main_count_108 rfl ⟨_, fo_Main_177⟩ (shLa_0 hld) (ltLa_0 hld) ?_
    refine g_ireturn (Or.inl rfl) d_Main_count_111 rfl ?_
    exact hQ _
  by_cases h521 : p1 = 4
  · refine g_tabK (tgt := 112) (off := 111) d_Main_count_1 h521 (by decide) (by decide) (by decide) (by decide) ?_
    refine g_aload_n (pc1 := 113) d_Main_count_112 rfl 0 rfl ?_
    refine g_getr (pc1 := 116) d_Main_count_113 rfl ⟨_, fo_Main_36⟩ sh_0 (by decide) (rf_0_4 ld) ?_
    refine g_geti (pc1 := 119) d_Main_count_116 rfl ⟨_, fo_Main_144⟩ (shSt_0 isSt_64) (ltSt_0 isSt_64) ?_
    refine g_ireturn (Or.inl rfl) d_Main_count_119 rfl ?_
    exact hQ _
  by_cases h522 : p1 = 5
  · refine g_tabK (tgt := 120) (off := 119) d_Main_count_1 h522 (by decide) (by decide) (by decide) (by decide) ?_
    refine g_aload_n (pc1 := 121) d_Main_count_120 rfl 0 rfl ?_
    refine g_getr (pc1 := 124) d_Main_count_121 rfl ⟨_, fo_Main_36⟩ sh_0 (by decide) (rf_0_4 ld) ?_
    refine g_geti (pc1 := 127) d_Main_count_124 rfl ⟨_, fo_Main_297⟩ (shSt_0 isSt_64) (ltSt_0 isSt_64) ?_
    refine g_ireturn (Or.inl rfl) d_Main_count_127 rfl ?_
    exact hQ _
  by_cases h523 : p1 = 6
  · refine g_tabK (tgt := 128) (off := 127) d_Main_count_1 h523 (by decide) (by decide) (by decide) (by decide) ?_
    refine g_aload_n (pc1 := 129) d_Main_count_128 rfl 0 rfl ?_
    refine g_getr (pc1 := 132) d_Main_count_129 rfl ⟨_, fo_Main_36⟩ sh_0 (by decide) (rf_0_4 ld) ?_
    refine g_geti (pc1 := 135) d_Main_count_132 rfl ⟨_, fo_Main_208⟩ (shSt_0 isSt_64) (ltSt_0 isSt_64) ?_
    refine g_ireturn (Or.inl rfl) d_Main_count_135 rfl ?_
    exact hQ _
  by_cases h524 : p1 = 7
  · refine g_tabK (tgt := 136) (off := 135) d_Main_count_1 h524 (by decide) (by decide) (by decide) (by decide) ?_
    refine g_aload_n (pc1 := 137) d_Main_count_136 rfl 0 rfl ?_
    refine g_getr (pc1 := 140) d_Main_count_137 rfl ⟨_, fo_Main_36⟩ sh_0 (by decide) (rf_0_4 ld) ?_
    refine g_getr (pc1 := 143) d_Main_count_140 rfl ⟨_, fo_Main_300⟩ (shSt_0 isSt_64) (ltSt_0 isSt_64) (rfSt_4 ld isSt_64) ?_
    refine g_iload_n (pc1 := 144) d_Main_count_143 rfl 1 rfl ?_
    refine g_bipush (pc1 := 146) (v := 7) d_Main_count_144 rfl (by decide) ?_
    refine g_isub (pc1 := 147) d_Main_count_146 rfl ?_
    refine g_callS0 (pc1 := 150) (As := [.ref (64 + 1), .int (p1 - 7)]) (rest := []) d_Main_count_147 rfl mo_Main_120 ms_Main_at (by decide) rfl rfl (Nat.le_of_ble_eq_true rfl) ?_
    refine t1_Main_at hld (64 + 1) (shSt_1 isSt_64) (ltSt_1 isSt_64) (by decide) _ (fun r525 => ?_)
    refine g_ireturn (Or.inl rfl) d_Main_count_150 rfl ?_
    exact hQ _
  by_cases h526 : p1 = 8
  · refine g_tabK (tgt := 136) (off := 135) d_Main_count_1 h526 (by decide) (by decide) (by decide) (by decide) ?_
    refine g_aload_n (pc1 := 137) d_Main_count_136 rfl 0 rfl ?_
    refine g_getr (pc1 := 140) d_Main_count_137 rfl ⟨_, fo_Main_36⟩ sh_0 (by decide) (rf_0_4 ld) ?_
    refine g_getr (pc1 := 143) d_Main_count_140 rfl ⟨_, fo_Main_300⟩ (shSt_0 isSt_64) (ltSt_0 isSt_64) (rfSt_4 ld isSt_64) ?_
    refine g_iload_n (pc1 := 144) d_Main_count_143 rfl 1 rfl ?_
    refine g_bipush (pc1 := 146) (v := 7) d_Main_count_144 rfl (by decide) ?_
    refine g_isub (pc1 := 147) d_Main_count_146 rfl ?_
    refine g_callS0 (pc1 := 150) (As := [.ref (64 + 1), .int (p1 - 7)]) (rest := []) d_Main_count_147 rfl mo_Main_120 ms_Main_at (by decide) rfl rfl (Nat.le_of_ble_eq_true rfl) ?_
    refine t1_Main_at hld (64 + 1) (shSt_1 isSt_64) (ltSt_1 isSt_64) (by decide) _ (fun r527 => ?_)
    refine g_ireturn (Or.inl rfl) d_Main_count_150 rfl ?_
    exact hQ _
  by_cases h528 : p1 = 9
  · refine g_tabK (tgt := 136) (off := 135) d_Main_count_1 h528 (by decide) (by decide) (by decide) (by decide) ?_
    refine g_aload_n (pc1 := 137) d_Main_count_136 rfl 0 rfl ?_
    refine g_getr (pc1 := 140) d_Main_count_137 rfl ⟨_, fo_Main_36⟩ sh_0 (by decide) (rf_0_4 ld) ?_
    refine g_getr (pc1 := 143) d_Main_count_140 rfl ⟨_, fo_Main_300⟩ (shSt_0 isSt_64) (ltSt_0 isSt_64) (rfSt_4 ld isSt_64) ?_
    refine g_iload_n (pc1 := 144) d_Main_count_143 rfl 1 rfl ?_
    refine g_bipush (pc1 := 146) (v := 7) d_Main_count_144 rfl (by decide) ?_
    refine g_isub (pc1 := 147) d_Main_count_146 rfl ?_
    refine g_callS0 (pc1 := 150) (As := [.ref (64 + 1), .int (p1 - 7)]) (rest := []) d_Main_count_147 rfl mo_Main_120 ms_Main_at (by decide) rfl rfl (Nat.le_of_ble_eq_true rfl) ?_
    refine t1_Main_at hld (64 + 1) (shSt_1 isSt_64) (ltSt_1 isSt_64) (by decide) _ (fun r529 => ?_)
    refine g_ireturn (Or.inl rfl) d_Main_count_150 rfl ?_
    exact hQ _
  by_cases h530 : p1 = 10
  · refine g_tabK (tgt := 151) (off := 150) d_Main_count_1 h530 (by decide) (by decide) (by decide) (by decide) ?_
    refine g_aload_n (pc1 := 152) d_Main_count_151 rfl 0 rfl ?_
    refine g_getr (pc1 := 155) d_Main_count_152 rfl ⟨_, fo_Main_12⟩ sh_0 (by decide) (rf_0_0 ld) ?_
    refine g_geti (pc1 := 158) d_Main_count_155 rfl ⟨_, fo_Main_82⟩ sh_1 (by decide) ?_
    refine g_ireturn (Or.inl rfl) d_Main_count_158 rfl ?_
    exact hQ _
  by_cases h531 : p1 = 11
  · refine g_tabK (tgt := 159) (off := 158) d_Main_count_1 h531 (by decide) (by decide) (by decide) (by decide) ?_
    refine g_aload_n (pc1 := 160) d_Main_count_159 rfl 0 rfl ?_
    refine g_getr (pc1 := 163) d_Main_count_160 rfl ⟨_, fo_Main_46⟩ sh_0 (by decide) (rf_0_6 ld) ?_
    refine g_geti (pc1 := 166) d_Main_count_163 rfl ⟨_, fo_Main_303⟩ sh_78 (by decide) ?_
    refine g_ireturn (Or.inl rfl) d_Main_count_166 rfl ?_
    exact hQ _
  by_cases h532 : p1 = 12
  · refine g_tabK (tgt := 167) (off := 166) d_Main_count_1 h532 (by decide) (by decide) (by decide) (by decide) ?_
    refine g_aload_n (pc1 := 168) d_Main_count_167 rfl 0 rfl ?_
    refine g_getr (pc1 := 171) d_Main_count_168 rfl ⟨_, fo_Main_60⟩ sh_0 (by decide) (rf_0_8 ld) ?_
    refine g_geti (pc1 := 174) d_Main_count_171 rfl ⟨_, fo_Main_275⟩ sh_383 (by decide) ?_
    refine g_ireturn (Or.inl rfl) d_Main_count_174 rfl ?_
    exact hQ _
  by_cases h533 : p1 = 13
  · refine g_tabK (tgt := 175) (off := 174) d_Main_count_1 h533 (by decide) (by decide) (by decide) (by decide) ?_
    refine g_aload_n (pc1 := 176) d_Main_count_175 rfl 0 rfl ?_
    refine g_getr (pc1 := 179) d_Main_count_176 rfl ⟨_, fo_Main_53⟩ sh_0 (by decide) (rf_0_7 ld) ?_
    refine g_callV0 (pc1 := 182) (As := []) (rest := []) d_Main_count_179 rfl mo_Main_304 mi_Slots_full mv_Slots_full rfl sh_360 (by decide) (by decide) rfl rfl (Nat.le_of_ble_eq_true rfl) ?_
    refine t1_Slots_full hld  (fun r534 => ?_)
    refine g_ireturn (Or.inl rfl) d_Main_count_182 rfl ?_
    exact hQ _
  by_cases h535 : p1 = 14
  · refine g_tabK (tgt := 183) (off := 182) d_Main_count_1 h535 (by decide) (by decide) (by decide) (by decide) ?_
    refine g_aload_n (pc1 := 184) d_Main_count_183 rfl 0 rfl ?_
    refine g_getr (pc1 := 187) d_Main_count_184 rfl ⟨_, fo_Main_36⟩ sh_0 (by decide) (rf_0_4 ld) ?_
    refine g_geti (pc1 := 190) d_Main_count_187 rfl ⟨_, fo_Main_307⟩ (shSt_0 isSt_64) (ltSt_0 isSt_64) ?_
    refine g_ireturn (Or.inl rfl) d_Main_count_190 rfl ?_
    exact hQ _
  by_cases h536 : p1 = 15
  · refine g_tabK (tgt := 191) (off := 190) d_Main_count_1 h536 (by decide) (by decide) (by decide) (by decide) ?_
    refine g_aload_n (pc1 := 192) d_Main_count_191 rfl 0 rfl ?_
    refine g_getr (pc1 := 195) d_Main_count_192 rfl ⟨_, fo_Main_36⟩ sh_0 (by decide) (rf_0_4 ld) ?_
    refine g_callV0 (pc1 := 198) (As := []) (rest := []) d_Main_count_195 rfl mo_Main_310 mi_State_allMeals mv_State_allMeals rfl (shSt_0 isSt_64) (ltSt_0 isSt_64) (by decide) rfl rfl (Nat.le_of_ble_eq_true rfl) ?_
    refine t1_State_allMeals hld 64 isSt_64 (fun r537 => ?_)
    refine g_ireturn (Or.inl rfl) d_Main_count_198 rfl ?_
    exact hQ _
  refine g_tabOut (tgt := 199) d_Main_count_1 (by
    have nh517 := neT (a := 0) h517 (by decide)
    have nh518 := neT (a := 1) h518 (by decide)
    have nh519 := neT (a := 2) h519 (by decide)
    have nh520 := neT (a := 3) h520 (by decide)
    have nh521 := neT (a := 4) h521 (by decide)
    have nh522 := neT (a := 5) h522 (by decide)
    have nh523 := neT (a := 6) h523 (by decide)
    have nh524 := neT (a := 7) h524 (by decide)
    have nh526 := neT (a := 8) h526 (by decide)
    have nh528 := neT (a := 9) h528 (by decide)
    have nh530 := neT (a := 10) h530 (by decide)
    have nh531 := neT (a := 11) h531 (by decide)
    have nh532 := neT (a := 12) h532 (by decide)
    have nh533 := neT (a := 13) h533 (by decide)
    have nh535 := neT (a := 14) h535 (by decide)
    have nh536 := neT (a := 15) h536 (by decide)
    omega) (by decide) ?_
  refine g_iconst (pc1 := 200) (v := (-1)) d_Main_count_199 rfl (by decide) ?_
  refine g_ireturn (Or.inl rfl) d_Main_count_200 rfl ?_
  exact hQ _
set_option maxHeartbeats 4000000 in
set_option maxRecDepth 20000 in
theorem t1_Main_food {l : Launch} {ld : Nat} (hld : isLa ld) {M : gM} {L : gL} {Q : Option Value → gM → gL → gR → Prop} (p1 : Int32) (p2 : Int32) (hQ : ∀ (r : Int32) , Q (some (.int r)) M L (rf ld)) : Tm l y_Main_food (0, 0, 447) 447 [.ref 0, .int p1, .int p2] M L (rf ld) Q := by
  refine Tm.of (by decide) (Nat.le_of_ble_eq_true rfl) ?_
  show Wp l y_Main_food (0, 0, 447) 447 0 0 0 [(0, .ref 0), (1, .int p1), (2, .int p2)] [] M L (rf ld) Q
  refine g_iload_n (pc1 := 1) d_Main_food_0 rfl 1 rfl ?_
  refine g_aload_n (pc1 := 2) d_Main_food_1 rfl 0 rfl ?_
  refine g_getr (pc1 := 5) d_Main_food_2 rfl ⟨_, fo_Main_26⟩ sh_0 (by decide) (rf_0_2 ld) ?_
  refine g_geti (pc1 := 8) d_Main_food_5 rfl ⟨_, fo_Main_109⟩ (shLa_0 hld) (ltLa_0 hld) ?_
  refine g_callS0 (pc1 := 11) (As := [.int p1, .int (M ld 0)]) (rest := []) d_Main_food_8 rfl mo_Main_112 ms_Main_isOne (by decide) rfl rfl (Nat.le_of_ble_eq_true rfl) ?_
  refine t1_Main_isOne hld _ _ (fun r538 hr538 => ?_)
  refine g_if_ne (pc1 := 14) (tgt := 16) d_Main_food_11 (by decide) rfl (fun h539 => ?_) (fun h539 => ?_)
  · refine g_iload_n (pc1 := 17) d_Main_food_16 rfl 2 rfl ?_
    by_cases h540 : p2 = 0
    · refine g_tabK (tgt := 52) (off := 35) d_Main_food_17 h540 (by decide) (by decide) (by decide) (by decide) ?_
      refine g_aload_n (pc1 := 53) d_Main_food_52 rfl 0 rfl ?_
      refine g_getr (pc1 := 56) d_Main_food_53 rfl ⟨_, fo_Main_36⟩ sh_0 (by decide) (rf_0_4 ld) ?_
      refine g_getr (pc1 := 59) d_Main_food_56 rfl ⟨_, fo_Main_116⟩ (shSt_0 isSt_64) (ltSt_0 isSt_64) (rfSt_5 ld isSt_64) ?_
      refine g_iload_n (pc1 := 60) d_Main_food_59 rfl 1 rfl ?_
      refine g_callS0 (pc1 := 63) (As := [.ref (64 + 2), .int p1]) (rest := []) d_Main_food_60 rfl mo_Main_120 ms_Main_at (by decide) rfl rfl (Nat.le_of_ble_eq_true rfl) ?_
      refine t1_Main_at hld (64 + 2) (shSt_2 isSt_64) (ltSt_2 isSt_64) (by decide) _ (fun r541 => ?_)
      refine g_ireturn (Or.inl rfl) d_Main_food_63 rfl ?_
      exact hQ _
    by_cases h542 : p2 = 1
    · refine g_tabK (tgt := 64) (off := 47) d_Main_food_17 h542 (by decide) (by decide) (by decide) (by decide) ?_
      refine g_aload_n (pc1 := 65) d_Main_food_64 rfl 0 rfl ?_
      refine g_getr (pc1 := 68) d_Main_food_65 rfl ⟨_, fo_Main_26⟩ sh_0 (by decide) (rf_0_2 ld) ?_
      refine g_getr (pc1 := 71) d_Main_food_68 rfl ⟨_, fo_Main_124⟩ (shLa_0 hld) (ltLa_0 hld) (rfLa_6 ld hld) ?_
      refine g_iload_n (pc1 := 72) d_Main_food_71 rfl 1 rfl ?_
      refine g_callS0 (pc1 := 75) (As := [.ref (ld + 2), .int p1]) (rest := []) d_Main_food_72 rfl mo_Main_120 ms_Main_at (by decide) rfl rfl (Nat.le_of_ble_eq_true rfl) ?_
      refine t1_Main_at hld (ld + 2) (shLa_2 hld) (ltLa_2 hld) (by decide) _ (fun r543 => ?_)
      refine g_ireturn (Or.inl rfl) d_Main_food_75 rfl ?_
      exact hQ _
    by_cases h544 : p2 = 2
    · refine g_tabK (tgt := 76) (off := 59) d_Main_food_17 h544 (by decide) (by decide) (by decide) (by decide) ?_
      refine g_aload_n (pc1 := 77) d_Main_food_76 rfl 0 rfl ?_
      refine g_getr (pc1 := 80) d_Main_food_77 rfl ⟨_, fo_Main_26⟩ sh_0 (by decide) (rf_0_2 ld) ?_
      refine g_iload_n (pc1 := 81) d_Main_food_80 rfl 1 rfl ?_
      refine g_iload_n (pc1 := 82) d_Main_food_81 rfl 2 rfl ?_
      refine g_iconst (pc1 := 83) (v := 2) d_Main_food_82 rfl (by decide) ?_
      refine g_isub (pc1 := 84) d_Main_food_83 rfl ?_
      refine g_callV0 (pc1 := 87) (As := [.int p1, .int (p2 - 2)]) (rest := []) d_Main_food_84 rfl mo_Main_127 mi_Land_broughtBy mv_Land_broughtBy rfl (shLa_0 hld) (ltLa_0 hld) (by decide) rfl rfl (Nat.le_of_ble_eq_true rfl) ?_
      refine t1_Land_broughtBy hld ld hld _ _ (fun r545 => ?_)
      refine g_ireturn (Or.inl rfl) d_Main_food_87 rfl ?_
      exact hQ _
    by_cases h546 : p2 = 3
    · refine g_tabK (tgt := 76) (off := 59) d_Main_food_17 h546 (by decide) (by decide) (by decide) (by decide) ?_
      refine g_aload_n (pc1 := 77) d_Main_food_76 rfl 0 rfl ?_
      refine g_getr (pc1 := 80) d_Main_food_77 rfl ⟨_, fo_Main_26⟩ sh_0 (by decide) (rf_0_2 ld) ?_
      refine g_iload_n (pc1 := 81) d_Main_food_80 rfl 1 rfl ?_
      refine g_iload_n (pc1 := 82) d_Main_food_81 rfl 2 rfl ?_
      refine g_iconst (pc1 := 83) (v := 2) d_Main_food_82 rfl (by decide) ?_
      refine g_isub (pc1 := 84) d_Main_food_83 rfl ?_
      refine g_callV0 (pc1 := 87) (As := [.int p1, .int (p2 - 2)]) (rest := []) d_Main_food_84 rfl mo_Main_127 mi_Land_broughtBy mv_Land_broughtBy rfl (shLa_0 hld) (ltLa_0 hld) (by decide) rfl rfl (Nat.le_of_ble_eq_true rfl) ?_
      refine t1_Land_broughtBy hld ld hld _ _ (fun r547 => ?_)
      refine g_ireturn (Or.inl rfl) d_Main_food_87 rfl ?_
      exact hQ _
    by_cases h548 : p2 = 4
    · refine g_tabK (tgt := 76) (off := 59) d_Main_food_17 h548 (by decide) (by decide) (by decide) (by decide) ?_
      refine g_aload_n (pc1 := 77) d_Main_food_76 rfl 0 rfl ?_
      refine g_getr (pc1 := 80) d_Main_food_77 rfl ⟨_, fo_Main_26⟩ sh_0 (by decide) (rf_0_2 ld) ?_
      refine g_iload_n (pc1 := 81) d_Main_food_80 rfl 1 rfl ?_
      refine g_iload_n (pc1 := 82) d_Main_food_81 rfl 2 rfl ?_
      refine g_iconst (pc1 := 83) (v := 2) d_Main_food_82 rfl (by decide) ?_
      refine g_isub (pc1 := 84) d_Main_food_83 rfl ?_
      refine g_callV0 (pc1 := 87) (As := [.int p1, .int (p2 - 2)]) (rest := []) d_Main_food_84 rfl mo_Main_127 mi_Land_broughtBy mv_Land_broughtBy rfl (shLa_0 hld) (ltLa_0 hld) (by decide) rfl rfl (Nat.le_of_ble_eq_true rfl) ?_
      refine t1_Land_broughtBy hld ld hld _ _ (fun r549 => ?_)
      refine g_ireturn (Or.inl rfl) d_Main_food_87 rfl ?_
      exact hQ _
    refine g_tabOut (tgt := 88) d_Main_food_17 (by
      have nh540 := neT (a := 0) h540 (by decide)
      have nh542 := neT (a := 1) h542 (by decide)
      have nh544 := neT (a := 2) h544 (by decide)
      have nh546 := neT (a := 3) h546 (by decide)
      have nh548 := neT (a := 4) h548 (by decide)
      omega) (by decide) ?_
    refine g_iconst (pc1 := 89) (v := (-1)) d_Main_food_88 rfl (by decide) ?_
    refine g_ireturn (Or.inl rfl) d_Main_food_89 rfl ?_
    exact hQ _
  · refine g_iconst (pc1 := 15) (v := (-1)) d_Main_food_14 rfl (by decide) ?_
    refine g_ireturn (Or.inl rfl) d_Main_food_15 rfl ?_
    exact hQ _
set_option maxHeartbeats 4000000 in
set_option maxRecDepth 20000 in
theorem t1_Main_tell {l : Launch} {ld : Nat} (hld : isLa ld) {M : gM} {L : gL} {Q : Option Value → gM → gL → gR → Prop} (p1 : Int32) (p2 : Int32) (p3 : Int32) (hQ : ∀ (r : Int32) (M' : gM) (L' : gL), Kp S1 M L M' L' → Q (some (.int r)) M' L' (rf ld)) : Tm l y_Main_tell (0, 0, 447) 447 [.ref 0, .int p1, .int p2, .int p3] M L (rf ld) Q := by
  refine Tm.of (by decide) (Nat.le_of_ble_eq_true rfl) ?_
  show Wp l y_Main_tell (0, 0, 447) 447 0 0 0 [(0, .ref 0), (1, .int p1), (2, .int p2), (3, .int p3)] [] M L (rf ld) Q
  refine g_iload_n (pc1 := 1) d_Main_tell_0 rfl 1 rfl ?_
  refine g_iconst (pc1 := 2) (v := 3) d_Main_tell_1 rfl (by decide) ?_
  refine g_callS0 (pc1 := 5) (As := [.int p1, .int 3]) (rest := []) d_Main_tell_2 rfl mo_Main_112 ms_Main_isOne (by decide) rfl rfl (Nat.le_of_ble_eq_true rfl) ?_
  refine t1_Main_isOne hld _ _ (fun r550 hr550 => ?_)
  refine g_if_eq (pc1 := 8) (tgt := 26) d_Main_tell_5 (by decide) rfl (fun h551 => ?_) (fun h551 => ?_)
  · refine g_iconst (pc1 := 27) (v := (-1)) d_Main_tell_26 rfl (by decide) ?_
    refine g_ireturn (Or.inl rfl) d_Main_tell_27 rfl ?_
    exact hQ _ _ _ Kp.rf
  · refine g_iload_n (pc1 := 9) d_Main_tell_8 rfl 2 rfl ?_
    refine g_bipush (pc1 := 11) (v := 10) d_Main_tell_9 rfl (by decide) ?_
    refine g_callS0 (pc1 := 14) (As := [.int p2, .int 10]) (rest := []) d_Main_tell_11 rfl mo_Main_112 ms_Main_isOne (by decide) rfl rfl (Nat.le_of_ble_eq_true rfl) ?_
    refine t1_Main_isOne hld _ _ (fun r552 hr552 => ?_)
    refine g_if_eq (pc1 := 17) (tgt := 26) d_Main_tell_14 (by decide) rfl (fun h553 => ?_) (fun h553 => ?_)
    · refine g_iconst (pc1 := 27) (v := (-1)) d_Main_tell_26 rfl (by decide) ?_
      refine g_ireturn (Or.inl rfl) d_Main_tell_27 rfl ?_
      exact hQ _ _ _ Kp.rf
    · refine g_iload_n (pc1 := 18) d_Main_tell_17 rfl 3 rfl ?_
      refine g_bipush (pc1 := 20) (v := 100) d_Main_tell_18 rfl (by decide) ?_
      refine g_callS0 (pc1 := 23) (As := [.int p3, .int 100]) (rest := []) d_Main_tell_20 rfl mo_Main_112 ms_Main_isOne (by decide) rfl rfl (Nat.le_of_ble_eq_true rfl) ?_
      refine t1_Main_isOne hld _ _ (fun r554 hr554 => ?_)
      refine g_if_ne (pc1 := 26) (tgt := 28) d_Main_tell_23 (by decide) rfl (fun h555 => ?_) (fun h555 => ?_)
      · refine g_aload_n (pc1 := 29) d_Main_tell_28 rfl 0 rfl ?_
        refine g_getr (pc1 := 32) d_Main_tell_29 rfl ⟨_, fo_Main_60⟩ sh_0 (by decide) (rf_0_8 ld) ?_
        refine g_iload_n (pc1 := 33) d_Main_tell_32 rfl 1 rfl ?_
        refine g_iload_n (pc1 := 34) d_Main_tell_33 rfl 2 rfl ?_
        refine g_iload_n (pc1 := 35) d_Main_tell_34 rfl 3 rfl ?_
        refine g_callV0 (pc1 := 38) (As := [.int p1, .int p2, .int p3]) (rest := []) d_Main_tell_35 rfl mo_Main_271 mi_Told_add mv_Told_add rfl sh_383 (by decide) (by decide) rfl rfl (Nat.le_of_ble_eq_true rfl) ?_
        refine t1_Told_add hld _ _ _ (fun r556 M557 L558 k559 => ?_)
        refine g_ireturn (Or.inl rfl) d_Main_tell_38 rfl ?_
        exact hQ _ _ _ (Kp.trans Kp.rf k559)
      · refine g_iconst (pc1 := 27) (v := (-1)) d_Main_tell_26 rfl (by decide) ?_
        refine g_ireturn (Or.inl rfl) d_Main_tell_27 rfl ?_
        exact hQ _ _ _ Kp.rf
