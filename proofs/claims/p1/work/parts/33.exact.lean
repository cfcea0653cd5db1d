/-! exact pictures: fills, values as nI -/
def fl (M : gM) (a o n : Nat) (v : Nat → Int32) : gM := fun c j => if c = a ∧ o ≤ j ∧ j < o + n then v (j - o) else M c j
theorem fl_at {M : gM} {a o n c j : Nat} {v : Nat → Int32} : fl M a o n v c j = if c = a ∧ o ≤ j ∧ j < o + n then v (j - o) else M c j := rfl
theorem fl_0 {M : gM} {a o : Nat} {v : Nat → Int32} : fl M a o 0 v = M := by
  funext c j
  rw [fl_at, if_neg (fun q => by omega)]
theorem fl_s {M : gM} {a o n i : Nat} {x : Int32} {v : Nat → Int32} (hi : i = o + n) (hx : x = v n) : uM (fl M a o n v) a i x = fl M a o (n + 1) v := by
  subst hi; subst hx
  funext c j
  rw [uM_at, fl_at, fl_at]
  by_cases h : c = a ∧ j = o + n
  · rw [if_pos h, if_pos ⟨h.1, by omega, by omega⟩, show j - o = n by omega]
  · rw [if_neg h]
    by_cases g : c = a ∧ o ≤ j ∧ j < o + n
    · rw [if_pos g, if_pos ⟨g.1, g.2.1, by omega⟩]
    · rw [if_neg g, if_neg (fun q => g ⟨q.1, q.2.1, by
        rcases Nat.lt_or_ge j (o + n) with w | w
        · exact w
        · exact absurd ⟨q.1, by omega⟩ h⟩)]
theorem flE_ne {M M' : gM} {a o n c j : Nat} {v : Nat → Int32} (e : M' = fl M a o n v) (h : ¬ (c = a ∧ o ≤ j ∧ j < o + n)) : M' c j = M c j := by rw [e, fl_at, if_neg h]
theorem flE_eq {M M' : gM} {a o n j : Nat} {v : Nat → Int32} (e : M' = fl M a o n v) (h : o ≤ j ∧ j < o + n) : M' a j = v (j - o) := by rw [e, fl_at, if_pos ⟨rfl, h⟩]
theorem nI_mul (a b : Nat) : nI a * nI b = nI (a * b) := (Int32.ofNat_mul a b).symm
theorem nI_sub {a b : Nat} (h : b ≤ a) : nI a - nI b = nI (a - b) := by
  have e : nI a = nI (a - b) + nI b := by rw [nI_add, Nat.sub_add_cancel h]
  rw [e, Int32.add_sub_cancel]
theorem rdn_eq {M' M : gM} {a i j : Nat} {x : Int32} (e : M' = uM M a i x) (h : j = i) : M' a j = x := by rw [h]; exact rd_eq e
theorem in_nat {p : Int32} {a b : Nat} (ha : a < 2 ^ 31) (hb : b < 2 ^ 31) (h : (nI a).toInt ≤ p.toInt ∧ p.toInt ≤ (nI b).toInt) : ∃ q, q ≤ b ∧ a ≤ q ∧ p = nI q := by
  rw [nI_toInt ha, nI_toInt hb] at h
  obtain ⟨q, hq, rfl⟩ := nI_of (x := p) (by rw [Int32.lt_iff_toInt_lt, Int32.toInt_zero]; omega)
  rw [nI_toInt hq] at h
  exact ⟨q, by omega, by omega, rfl⟩
section RULES8
variable {l : Launch} {Y : gY} {E : Nat × Nat × Nat} {n k z pc pc1 : Nat} {lv lv' : List (Nat × Value)} {st : List Value} {M M' : gM} {L : gL} {R : gR} {Q : Option Value → gM → gL → gR → Prop}
theorem Wp.eqM (h : M = M') (kk : Wp l Y E n k z pc lv st M' L R Q) : Wp l Y E n k z pc lv st M L R Q := by rw [h]; exact kk
theorem Wp.eqlv (h : lv = lv') (kk : Wp l Y E n k z pc lv' st M L R Q) : Wp l Y E n k z pc lv st M L R Q := by rw [h]; exact kk
end RULES8
set_option maxHeartbeats 4000000 in
set_option maxRecDepth 20000 in
theorem x_Mod_keepsRow {l : Launch} {ld : Nat} {M : gM} {L : gL} {Q : Option Value → gM → gL → gR → Prop}  (hQ : Q none (fl M 436 0 38 (M 437)) L (rf ld)) : Tm l y_Mod_keepsRow (0, 0, 447) 447 [.ref 401] M L (rf ld) Q := by
  refine Tm.of (by decide) (Nat.le_of_ble_eq_true rfl) ?_
  show Wp l y_Mod_keepsRow (0, 0, 447) 447 0 0 0 [(0, .ref 401)] [] M L (rf ld) Q
  refine g_iconst (pc1 := 1) (v := nI 0) d_Mod_keepsRow_0 rfl (by decide) ?_
  refine g_istore_n (pc1 := 2) (lv' := [(0, .ref 401), (1, .int (nI 0))]) d_Mod_keepsRow_1 rfl rfl (by decide) [1, 0] rfl ?_
  have LP5807 : ∀ (f5804 k5805 : Nat), k5805 ≤ 38 → 38 - k5805 < f5804 → Wp l y_Mod_keepsRow (0, 0, 447) 447 0 0 2 [(0, .ref 401), (1, .int (nI k5805))] [] (fl M 436 (0) k5805 (M 437)) L (rf ld) Q := by
    intro f5804
    induction f5804 with
    | zero => intro k5805 _ hm; exact absurd hm (Nat.not_lt_zero _)
    | succ f5804 ih5806 =>
      intro k5805 hkk5805 hmk5805
      refine Wp.topM (fun M5808 eM5808 => ?_)
      refine g_iload_n (pc1 := 3) d_Mod_keepsRow_2 rfl 1 rfl ?_
      refine g_bipush (pc1 := 5) (v := nI 38) d_Mod_keepsRow_3 rfl (by decide) ?_
      refine g_icmp_ge (pc1 := 8) (tgt := 26) d_Mod_keepsRow_5 (by decide) rfl (fun h5809 => ?_) (fun h5809 => ?_)
      · have nh5809 : (38 : Nat) ≤ (k5805 : Nat) := (nI_leI (a := (38 : Nat)) (b := (k5805 : Nat)) (by omega) (by omega)).mp h5809
        have ekk5805 : k5805 = 38 := by omega
        rw [ekk5805] at eM5808
        refine g_return rfl d_Mod_keepsRow_26 rfl ?_
        rw [eM5808]
        exact hQ
      · have nh5809 : ¬ (38 : Nat) ≤ (k5805 : Nat) := fun q => h5809 ((nI_leI (a := (38 : Nat)) (b := (k5805 : Nat)) (by omega) (by omega)).mpr q)
        refine g_aload_n (pc1 := 9) d_Mod_keepsRow_8 rfl 0 rfl ?_
        refine g_getr (pc1 := 12) d_Mod_keepsRow_9 rfl ⟨_, fo_Mod_122⟩ sh_401 (by decide) (rf_401_52 ld) ?_
        refine g_iload_n (pc1 := 13) d_Mod_keepsRow_12 rfl 1 rfl ?_
        refine g_aload_n (pc1 := 14) d_Mod_keepsRow_13 rfl 0 rfl ?_
        refine g_getr (pc1 := 17) d_Mod_keepsRow_14 rfl ⟨_, fo_Mod_125⟩ sh_401 (by decide) (rf_401_53 ld) ?_
        refine g_iload_n (pc1 := 18) d_Mod_keepsRow_17 rfl 1 rfl ?_
        refine g_iald (pc1 := 19) d_Mod_keepsRow_18 rfl sh_437 (by decide) (vp_in_nI (n := k5805) (by omega) (by decide)) ?_
        rw [nI_clamp (n := k5805) (by omega)]
        refine Wp.vali (y := M 437 k5805) (flE_ne eM5808 (fun q => absurd q.1 (by decide))) ?_
        refine g_iast (pc1 := 20) d_Mod_keepsRow_19 rfl sh_436 (by decide) (vp_in_nI (n := k5805) (by omega) (by decide)) ?_
        rw [nI_clamp (n := k5805) (by omega)]
        refine Wp.topM (fun M5810 eM5810 => ?_)
        refine g_iinc (pc1 := 23) (v := nI (k5805 + 1)) (lv' := [(0, .ref 401), (1, .int (nI (k5805 + 1)))]) d_Mod_keepsRow_20 rfl 1 rfl (nI_1 _) (by decide) [1, 0] rfl ?_
        refine g_goto (tgt := 2) d_Mod_keepsRow_23 (by decide) ?_
        refine Wp.eqM (show M5810 = fl M 436 (0) (k5805 + 1) (M 437) from by rw [eM5810, eM5808]; exact fl_s (by omega) rfl) ?_
        exact ih5806 (k5805 + 1) (by omega) (by omega)
  refine Wp.eqM (fl_0 (a := 436) (o := 0) (v := (M 437))).symm ?_
  exact LP5807 _ 0 (by omega) (Nat.lt_succ_self _)
set_option maxHeartbeats 4000000 in
set_option maxRecDepth 20000 in
theorem x_Mod_copies {l : Launch} {ld : Nat} {M : gM} {L : gL} {Q : Option Value → gM → gL → gR → Prop} {lv : Nat} (hlv : M 401 18 = nI lv) (hl1 : lv ≤ 1) (hQ : Q none (uM (fl M 437 0 38 (M 436)) 401 54 (M 423 lv)) L (rf ld)) : Tm l y_Mod_copies (0, 0, 447) 447 [.ref 401] M L (rf ld) Q := by
  refine Tm.of (by decide) (Nat.le_of_ble_eq_true rfl) ?_
  show Wp l y_Mod_copies (0, 0, 447) 447 0 0 0 [(0, .ref 401)] [] M L (rf ld) Q
  refine g_iconst (pc1 := 1) (v := nI 0) d_Mod_copies_0 rfl (by decide) ?_
  refine g_istore_n (pc1 := 2) (lv' := [(0, .ref 401), (1, .int (nI 0))]) d_Mod_copies_1 rfl rfl (by decide) [1, 0] rfl ?_
  have LP5814 : ∀ (f5811 k5812 : Nat), k5812 ≤ 38 → 38 - k5812 < f5811 → Wp l y_Mod_copies (0, 0, 447) 447 0 0 2 [(0, .ref 401), (1, .int (nI k5812))] [] (fl M 437 (0) k5812 (M 436)) L (rf ld) Q := by
    intro f5811
    induction f5811 with
    | zero => intro k5812 _ hm; exact absurd hm (Nat.not_lt_zero _)
    | succ f5811 ih5813 =>
      intro k5812 hkk5812 hmk5812
      refine Wp.topM (fun M5815 eM5815 => ?_)
      refine g_iload_n (pc1 := 3) d_Mod_copies_2 rfl 1 rfl ?_
      refine g_bipush (pc1 := 5) (v := nI 38) d_Mod_copies_3 rfl (by decide) ?_
      refine g_icmp_ge (pc1 := 8) (tgt := 26) d_Mod_copies_5 (by decide) rfl (fun h5816 => ?_) (fun h5816 => ?_)
      · have nh5816 : (38 : Nat) ≤ (k5812 : Nat) := (nI_leI (a := (38 : Nat)) (b := (k5812 : Nat)) (by omega) (by omega)).mp h5816
        have ekk5812 : k5812 = 38 := by omega
        rw [ekk5812] at eM5815
        refine g_aload_n (pc1 := 27) d_Mod_copies_26 rfl 0 rfl ?_
        refine g_aload_n (pc1 := 28) d_Mod_copies_27 rfl 0 rfl ?_
        refine g_getr (pc1 := 31) d_Mod_copies_28 rfl ⟨_, fo_Mod_82⟩ sh_401 (by decide) (rf_401_35 ld) ?_
        refine g_aload_n (pc1 := 32) d_Mod_copies_31 rfl 0 rfl ?_
        refine g_geti (pc1 := 35) d_Mod_copies_32 rfl ⟨_, fo_Mod_236⟩ sh_401 (by decide) ?_
        refine Wp.vali (y := nI lv) ((flE_ne eM5815 (fun q => absurd q.1 (by decide))).trans hlv) ?_
        refine g_iald (pc1 := 36) d_Mod_copies_35 rfl sh_423 (by decide) (vp_in_nI (n := lv) (by omega) (by decide)) ?_
        rw [nI_clamp (n := lv) (by omega)]
        refine Wp.vali (y := M 423 lv) (flE_ne eM5815 (fun q => absurd q.1 (by decide))) ?_
        refine g_puti (pc1 := 39) d_Mod_copies_36 rfl fo_Mod_320 (po_12_54 _) sh_401 (by decide) ?_
        refine Wp.topM (fun M5817 eM5817 => ?_)
        refine g_return rfl d_Mod_copies_39 rfl ?_
        rw [eM5817, eM5815]
        exact hQ
      · have nh5816 : ¬ (38 : Nat) ≤ (k5812 : Nat) := fun q => h5816 ((nI_leI (a := (38 : Nat)) (b := (k5812 : Nat)) (by omega) (by omega)).mpr q)
        refine g_aload_n (pc1 := 9) d_Mod_copies_8 rfl 0 rfl ?_
        refine g_getr (pc1 := 12) d_Mod_copies_9 rfl ⟨_, fo_Mod_125⟩ sh_401 (by decide) (rf_401_53 ld) ?_
        refine g_iload_n (pc1 := 13) d_Mod_copies_12 rfl 1 rfl ?_
        refine g_aload_n (pc1 := 14) d_Mod_copies_13 rfl 0 rfl ?_
        refine g_getr (pc1 := 17) d_Mod_copies_14 rfl ⟨_, fo_Mod_122⟩ sh_401 (by decide) (rf_401_52 ld) ?_
        refine g_iload_n (pc1 := 18) d_Mod_copies_17 rfl 1 rfl ?_
        refine g_iald (pc1 := 19) d_Mod_copies_18 rfl sh_436 (by decide) (vp_in_nI (n := k5812) (by omega) (by decide)) ?_
        rw [nI_clamp (n := k5812) (by omega)]
        refine Wp.vali (y := M 436 k5812) (flE_ne eM5815 (fun q => absurd q.1 (by decide))) ?_
        refine g_iast (pc1 := 20) d_Mod_copies_19 rfl sh_437 (by decide) (vp_in_nI (n := k5812) (by omega) (by decide)) ?_
        rw [nI_clamp (n := k5812) (by omega)]
        refine Wp.topM (fun M5818 eM5818 => ?_)
        refine g_iinc (pc1 := 23) (v := nI (k5812 + 1)) (lv' := [(0, .ref 401), (1, .int (nI (k5812 + 1)))]) d_Mod_copies_20 rfl 1 rfl (nI_1 _) (by decide) [1, 0] rfl ?_
        refine g_goto (tgt := 2) d_Mod_copies_23 (by decide) ?_
        refine Wp.eqM (show M5818 = fl M 437 (0) (k5812 + 1) (M 436) from by rw [eM5818, eM5815]; exact fl_s (by omega) rfl) ?_
        exact ih5813 (k5812 + 1) (by omega) (by omega)
  refine Wp.eqM (fl_0 (a := 437) (o := 0) (v := (M 436))).symm ?_
  exact LP5814 _ 0 (by omega) (Nat.lt_succ_self _)
set_option maxHeartbeats 4000000 in
set_option maxRecDepth 20000 in
theorem x_Mod_begins {l : Launch} {ld : Nat} {M : gM} {L : gL} {Q : Option Value → gM → gL → gR → Prop} {lv F : Nat} (hlv : M 401 18 = nI lv) (hl1 : lv ≤ 1) (hF : M 411 lv = nI F) (hF6 : F ≤ 6) (hQ : Q none (uM (fl (uM (fl (fl M 437 0 38 (fun _ => nI 0)) 437 0 F (fun f => M 412 (6 * lv + f))) 437 11 (-2)) 437 15 4 (fun _ => (-2))) 401 54 (M 423 lv)) L (rf ld)) : Tm l y_Mod_begins (0, 0, 447) 447 [.ref 401] M L (rf ld) Q := by
  refine Tm.of (by decide) (Nat.le_of_ble_eq_true rfl) ?_
  show Wp l y_Mod_begins (0, 0, 447) 447 0 0 0 [(0, .ref 401)] [] M L (rf ld) Q
  refine g_iconst (pc1 := 1) (v := nI 0) d_Mod_begins_0 rfl (by decide) ?_
  refine g_istore_n (pc1 := 2) (lv' := [(0, .ref 401), (1, .int (nI 0))]) d_Mod_begins_1 rfl rfl (by decide) [1, 0] rfl ?_
  have LP5822 : ∀ (f5819 k5820 : Nat), k5820 ≤ 38 → 38 - k5820 < f5819 → Wp l y_Mod_begins (0, 0, 447) 447 0 0 2 [(0, .ref 401), (1, .int (nI k5820))] [] (fl M 437 (0) k5820 (fun _ => nI 0)) L (rf ld) Q := by
    intro f5819
    induction f5819 with
    | zero => intro k5820 _ hm; exact absurd hm (Nat.not_lt_zero _)
    | succ f5819 ih5821 =>
      intro k5820 hkk5820 hmk5820
      refine Wp.topM (fun M5823 eM5823 => ?_)
      refine g_iload_n (pc1 := 3) d_Mod_begins_2 rfl 1 rfl ?_
      refine g_bipush (pc1 := 5) (v := nI 38) d_Mod_begins_3 rfl (by decide) ?_
      refine g_icmp_ge (pc1 := 8) (tgt := 21) d_Mod_begins_5 (by decide) rfl (fun h5824 => ?_) (fun h5824 => ?_)
      · have nh5824 : (38 : Nat) ≤ (k5820 : Nat) := (nI_leI (a := (38 : Nat)) (b := (k5820 : Nat)) (by omega) (by omega)).mp h5824
        have ekk5820 : k5820 = 38 := by omega
        rw [ekk5820] at eM5823
        refine g_iconst (pc1 := 22) (v := nI 0) d_Mod_begins_21 rfl (by decide) ?_
        refine g_istore_n (pc1 := 23) (lv' := [(0, .ref 401), (1, .int (nI 0))]) d_Mod_begins_22 rfl rfl (by decide) [1, 0] rfl ?_
        have LP5828 : ∀ (f5825 k5826 : Nat), k5826 ≤ F → F - k5826 < f5825 → Wp l y_Mod_begins (0, 0, 447) 447 0 0 23 [(0, .ref 401), (1, .int (nI k5826))] [] (fl M5823 437 (0) k5826 (fun f => M 412 (6 * lv + f))) L (rf ld) Q := by
          intro f5825
          induction f5825 with
          | zero => intro k5826 _ hm; exact absurd hm (Nat.not_lt_zero _)
          | succ f5825 ih5827 =>
            intro k5826 hkk5826 hmk5826
            refine Wp.topM (fun M5829 eM5829 => ?_)
            refine g_iload_n (pc1 := 24) d_Mod_begins_23 rfl 1 rfl ?_
            refine g_aload_n (pc1 := 25) d_Mod_begins_24 rfl 0 rfl ?_
            refine g_getr (pc1 := 28) d_Mod_begins_25 rfl ⟨_, fo_Mod_46⟩ sh_401 (by decide) (rf_401_23 ld) ?_
            refine g_aload_n (pc1 := 29) d_Mod_begins_28 rfl 0 rfl ?_
            refine g_geti (pc1 := 32) d_Mod_begins_29 rfl ⟨_, fo_Mod_236⟩ sh_401 (by decide) ?_
            refine Wp.vali (y := nI lv) (((flE_ne eM5829 (fun q => absurd q.1 (by decide))).trans (flE_ne eM5823 (fun q => absurd q.1 (by decide)))).trans hlv) ?_
            refine g_iald (pc1 := 33) d_Mod_begins_32 rfl sh_411 (by decide) (vp_in_nI (n := lv) (by omega) (by decide)) ?_
            rw [nI_clamp (n := lv) (by omega)]
            refine Wp.vali (y := nI F) (((flE_ne eM5829 (fun q => absurd q.1 (by decide))).trans (flE_ne eM5823 (fun q => absurd q.1 (by decide)))).trans hF) ?_
            refine g_icmp_ge (pc1 := 36) (tgt := 62) d_Mod_begins_33 (by decide) rfl (fun h5830 => ?_) (fun h5830 => ?_)
            · have nh5830 : (F : Nat) ≤ (k5826 : Nat) := (nI_leI (a := (F : Nat)) (b := (k5826 : Nat)) (by omega) (by omega)).mp h5830
              have ekk5826 : k5826 = F := by omega
              rw [ekk5826] at eM5829
              refine g_aload_n (pc1 := 63) d_Mod_begins_62 rfl 0 rfl ?_
              refine g_getr (pc1 := 66) d_Mod_begins_63 rfl ⟨_, fo_Mod_125⟩ sh_401 (by decide) (rf_401_53 ld) ?_
              refine g_bipush (pc1 := 68) (v := nI 11) d_Mod_begins_66 rfl (by decide) ?_
              refine g_bipush (pc1 := 70) (v := (-2)) d_Mod_begins_68 rfl (by decide) ?_
              refine g_iast (pc1 := 71) d_Mod_begins_70 rfl sh_437 (by decide) (vp_in_nI (n := 11) (by omega) (by decide)) ?_
              rw [nI_clamp (n := 11) (by omega)]
              refine Wp.topM (fun M5831 eM5831 => ?_)
              refine g_iconst (pc1 := 72) (v := nI 0) d_Mod_begins_71 rfl (by decide) ?_
              refine g_istore_n (pc1 := 73) (lv' := [(0, .ref 401), (1, .int (nI 0))]) d_Mod_begins_72 rfl rfl (by decide) [1, 0] rfl ?_
              have LP5835 : ∀ (f5832 k5833 : Nat), k5833 ≤ 4 → 4 - k5833 < f5832 → Wp l y_Mod_begins (0, 0, 447) 447 0 0 73 [(0, .ref 401), (1, .int (nI k5833))] [] (fl M5831 437 (15) k5833 (fun _ => (-2))) L (rf ld) Q := by
                intro f5832
                induction f5832 with
                | zero => intro k5833 _ hm; exact absurd hm (Nat.not_lt_zero _)
                | succ f5832 ih5834 =>
                  intro k5833 hkk5833 hmk5833
                  refine Wp.topM (fun M5836 eM5836 => ?_)
                  refine g_iload_n (pc1 := 74) d_Mod_begins_73 rfl 1 rfl ?_
                  refine g_iconst (pc1 := 75) (v := nI 4) d_Mod_begins_74 rfl (by decide) ?_
                  refine g_icmp_ge (pc1 := 78) (tgt := 95) d_Mod_begins_75 (by decide) rfl (fun h5837 => ?_) (fun h5837 => ?_)
                  · have nh5837 : (4 : Nat) ≤ (k5833 : Nat) := (nI_leI (a := (4 : Nat)) (b := (k5833 : Nat)) (by omega) (by omega)).mp h5837
                    have ekk5833 : k5833 = 4 := by omega
                    rw [ekk5833] at eM5836
                    refine g_aload_n (pc1 := 96) d_Mod_begins_95 rfl 0 rfl ?_
                    refine g_aload_n (pc1 := 97) d_Mod_begins_96 rfl 0 rfl ?_
                    refine g_getr (pc1 := 100) d_Mod_begins_97 rfl ⟨_, fo_Mod_82⟩ sh_401 (by decide) (rf_401_35 ld) ?_
                    refine g_aload_n (pc1 := 101) d_Mod_begins_100 rfl 0 rfl ?_
                    refine g_geti (pc1 := 104) d_Mod_begins_101 rfl ⟨_, fo_Mod_236⟩ sh_401 (by decide) ?_
                    refine Wp.vali (y := nI lv) (((((flE_ne eM5836 (fun q => absurd q.1 (by decide))).trans (rd_ne eM5831 (fun q => absurd q.1 (by decide)))).trans (flE_ne eM5829 (fun q => absurd q.1 (by decide)))).trans (flE_ne eM5823 (fun q => absurd q.1 (by decide)))).trans hlv) ?_
                    refine g_iald (pc1 := 105) d_Mod_begins_104 rfl sh_423 (by decide) (vp_in_nI (n := lv) (by omega) (by decide)) ?_
                    rw [nI_clamp (n := lv) (by omega)]
                    refine Wp.vali (y := M 423 lv) ((((flE_ne eM5836 (fun q => absurd q.1 (by decide))).trans (rd_ne eM5831 (fun q => absurd q.1 (by decide)))).trans (flE_ne eM5829 (fun q => absurd q.1 (by decide)))).trans (flE_ne eM5823 (fun q => absurd q.1 (by decide)))) ?_
                    refine g_puti (pc1 := 108) d_Mod_begins_105 rfl fo_Mod_320 (po_12_54 _) sh_401 (by decide) ?_
                    refine Wp.topM (fun M5838 eM5838 => ?_)
                    refine g_return rfl d_Mod_begins_108 rfl ?_
                    rw [eM5838, eM5836, eM5831, eM5829, eM5823]
                    exact hQ
                  · have nh5837 : ¬ (4 : Nat) ≤ (k5833 : Nat) := fun q => h5837 ((nI_leI (a := (4 : Nat)) (b := (k5833 : Nat)) (by omega) (by omega)).mpr q)
                    refine g_aload_n (pc1 := 79) d_Mod_begins_78 rfl 0 rfl ?_
                    refine g_getr (pc1 := 82) d_Mod_begins_79 rfl ⟨_, fo_Mod_125⟩ sh_401 (by decide) (rf_401_53 ld) ?_
                    refine g_bipush (pc1 := 84) (v := nI 15) d_Mod_begins_82 rfl (by decide) ?_
                    refine g_iload_n (pc1 := 85) d_Mod_begins_84 rfl 1 rfl ?_
                    refine g_iadd (pc1 := 86) d_Mod_begins_85 rfl ?_
                    refine Wp.vali (y := nI (15 + k5833)) (nI_add _ _) ?_
                    refine g_bipush (pc1 := 88) (v := (-2)) d_Mod_begins_86 rfl (by decide) ?_
                    refine g_iast (pc1 := 89) d_Mod_begins_88 rfl sh_437 (by decide) (vp_in_nI (n := 15 + k5833) (by omega) (by decide)) ?_
                    rw [nI_clamp (n := 15 + k5833) (by omega)]
                    refine Wp.topM (fun M5839 eM5839 => ?_)
                    refine g_iinc (pc1 := 92) (v := nI (k5833 + 1)) (lv' := [(0, .ref 401), (1, .int (nI (k5833 + 1)))]) d_Mod_begins_89 rfl 1 rfl (nI_1 _) (by decide) [1, 0] rfl ?_
                    refine g_goto (tgt := 73) d_Mod_begins_92 (by decide) ?_
                    refine Wp.eqM (show M5839 = fl M5831 437 (15) (k5833 + 1) (fun _ => (-2)) from by rw [eM5839, eM5836]; exact fl_s (by omega) rfl) ?_
                    exact ih5834 (k5833 + 1) (by omega) (by omega)
              refine Wp.eqM (fl_0 (a := 437) (o := 15) (v := (fun _ => (-2)))).symm ?_
              exact LP5835 _ 0 (by omega) (Nat.lt_succ_self _)
            · have nh5830 : ¬ (F : Nat) ≤ (k5826 : Nat) := fun q => h5830 ((nI_leI (a := (F : Nat)) (b := (k5826 : Nat)) (by omega) (by omega)).mpr q)
              refine g_aload_n (pc1 := 37) d_Mod_begins_36 rfl 0 rfl ?_
              refine g_getr (pc1 := 40) d_Mod_begins_37 rfl ⟨_, fo_Mod_125⟩ sh_401 (by decide) (rf_401_53 ld) ?_
              refine g_iload_n (pc1 := 41) d_Mod_begins_40 rfl 1 rfl ?_
              refine g_aload_n (pc1 := 42) d_Mod_begins_41 rfl 0 rfl ?_
              refine g_getr (pc1 := 45) d_Mod_begins_42 rfl ⟨_, fo_Mod_49⟩ sh_401 (by decide) (rf_401_24 ld) ?_
              refine g_bipush (pc1 := 47) (v := nI 6) d_Mod_begins_45 rfl (by decide) ?_
              refine g_aload_n (pc1 := 48) d_Mod_begins_47 rfl 0 rfl ?_
              refine g_geti (pc1 := 51) d_Mod_begins_48 rfl ⟨_, fo_Mod_236⟩ sh_401 (by decide) ?_
              refine Wp.vali (y := nI lv) (((flE_ne eM5829 (fun q => absurd q.1 (by decide))).trans (flE_ne eM5823 (fun q => absurd q.1 (by decide)))).trans hlv) ?_
              refine g_imul (pc1 := 52) d_Mod_begins_51 rfl ?_
              refine Wp.vali (y := nI (6 * lv)) (nI_mul _ _) ?_
              refine g_iload_n (pc1 := 53) d_Mod_begins_52 rfl 1 rfl ?_
              refine g_iadd (pc1 := 54) d_Mod_begins_53 rfl ?_
              refine Wp.vali (y := nI ((6 * lv) + k5826)) (nI_add _ _) ?_
              refine g_iald (pc1 := 55) d_Mod_begins_54 rfl sh_412 (by decide) (vp_in_nI (n := (6 * lv) + k5826) (by omega) (by decide)) ?_
              rw [nI_clamp (n := (6 * lv) + k5826) (by omega)]
              refine Wp.vali (y := M 412 ((6 * lv) + k5826)) ((flE_ne eM5829 (fun q => absurd q.1 (by decide))).trans (flE_ne eM5823 (fun q => absurd q.1 (by decide)))) ?_
              refine g_iast (pc1 := 56) d_Mod_begins_55 rfl sh_437 (by decide) (vp_in_nI (n := k5826) (by omega) (by decide)) ?_
              rw [nI_clamp (n := k5826) (by omega)]
              refine Wp.topM (fun M5840 eM5840 => ?_)
              refine g_iinc (pc1 := 59) (v := nI (k5826 + 1)) (lv' := [(0, .ref 401), (1, .int (nI (k5826 + 1)))]) d_Mod_begins_56 rfl 1 rfl (nI_1 _) (by decide) [1, 0] rfl ?_
              refine g_goto (tgt := 23) d_Mod_begins_59 (by decide) ?_
              refine Wp.eqM (show M5840 = fl M5823 437 (0) (k5826 + 1) (fun f => M 412 (6 * lv + f)) from by rw [eM5840, eM5829]; exact fl_s (by omega) rfl) ?_
              exact ih5827 (k5826 + 1) (by omega) (by omega)
        refine Wp.eqM (fl_0 (a := 437) (o := 0) (v := (fun f => M 412 (6 * lv + f)))).symm ?_
        exact LP5828 _ 0 (by omega) (Nat.lt_succ_self _)
      · have nh5824 : ¬ (38 : Nat) ≤ (k5820 : Nat) := fun q => h5824 ((nI_leI (a := (38 : Nat)) (b := (k5820 : Nat)) (by omega) (by omega)).mpr q)
        refine g_aload_n (pc1 := 9) d_Mod_begins_8 rfl 0 rfl ?_
        refine g_getr (pc1 := 12) d_Mod_begins_9 rfl ⟨_, fo_Mod_125⟩ sh_401 (by decide) (rf_401_53 ld) ?_
        refine g_iload_n (pc1 := 13) d_Mod_begins_12 rfl 1 rfl ?_
        refine g_iconst (pc1 := 14) (v := nI 0) d_Mod_begins_13 rfl (by decide) ?_
        refine g_iast (pc1 := 15) d_Mod_begins_14 rfl sh_437 (by decide) (vp_in_nI (n := k5820) (by omega) (by decide)) ?_
        rw [nI_clamp (n := k5820) (by omega)]
        refine Wp.topM (fun M5841 eM5841 => ?_)
        refine g_iinc (pc1 := 18) (v := nI (k5820 + 1)) (lv' := [(0, .ref 401), (1, .int (nI (k5820 + 1)))]) d_Mod_begins_15 rfl 1 rfl (nI_1 _) (by decide) [1, 0] rfl ?_
        refine g_goto (tgt := 2) d_Mod_begins_18 (by decide) ?_
        refine Wp.eqM (show M5841 = fl M 437 (0) (k5820 + 1) (fun _ => nI 0) from by rw [eM5841, eM5823]; exact fl_s (by omega) rfl) ?_
        exact ih5821 (k5820 + 1) (by omega) (by omega)
  refine Wp.eqM (fl_0 (a := 437) (o := 0) (v := (fun _ => nI 0))).symm ?_
  exact LP5822 _ 0 (by omega) (Nat.lt_succ_self _)
set_option maxHeartbeats 4000000 in
set_option maxRecDepth 20000 in
theorem x_Mod_appends {l : Launch} {ld : Nat} {M : gM} {L : gL} {Q : Option Value → gM → gL → gR → Prop} {p0 : Int64} {p1 : Int32} (hQ0 : p1 = 0 → Q (some (.long p0)) M L (rf ld)) (hQ1 : ¬ p1 = 0 → Q (some (.long (27 * p0 + (p1 - nI 97 + nI 1).toInt64))) M L (rf ld)) : Tm l y_Mod_appends (0, 0, 447) 447 [.long p0, .int p1] M L (rf ld) Q := by
  refine Tm.of (by decide) (Nat.le_of_ble_eq_true rfl) ?_
  show Wp l y_Mod_appends (0, 0, 447) 447 0 0 0 [(0, .long p0), (2, .int p1)] [] M L (rf ld) Q
  refine g_iload_n (pc1 := 1) d_Mod_appends_0 rfl 1 rfl ?_
  refine g_if_ne (pc1 := 4) (tgt := 8) d_Mod_appends_1 (by decide) rfl (fun h5842 => ?_) (fun h5842 => ?_)
  · refine g_ldc2 (pc1 := 11) (v := 27) d_Mod_appends_8 rfl co_Mod_178 ?_
    refine g_lload_n (pc1 := 12) d_Mod_appends_11 rfl 0 rfl ?_
    refine g_lmul (pc1 := 13) d_Mod_appends_12 rfl ?_
    refine g_iload_n (pc1 := 14) d_Mod_appends_13 rfl 1 rfl ?_
    refine g_bipush (pc1 := 16) (v := nI 97) d_Mod_appends_14 rfl (by decide) ?_
    refine g_isub (pc1 := 17) d_Mod_appends_16 rfl ?_
    refine g_iconst (pc1 := 18) (v := nI 1) d_Mod_appends_17 rfl (by decide) ?_
    refine g_iadd (pc1 := 19) d_Mod_appends_18 rfl ?_
    refine g_i2l (pc1 := 20) d_Mod_appends_19 rfl ?_
    refine g_ladd (pc1 := 21) d_Mod_appends_20 rfl ?_
    refine g_lreturn rfl d_Mod_appends_21 rfl ?_
    exact hQ1 ‹_›
  · refine g_lload_n (pc1 := 5) d_Mod_appends_4 rfl 0 rfl ?_
    refine g_goto (tgt := 21) d_Mod_appends_5 (by decide) ?_
    refine g_lreturn rfl d_Mod_appends_21 rfl ?_
    exact hQ0 ‹_›
set_option maxHeartbeats 4000000 in
set_option maxRecDepth 20000 in
theorem x_Mod_plain_0 {l : Launch} {ld : Nat} {M : gM} {L : gL} {Q : Option Value → gM → gL → gR → Prop}  (hQ : Q none (uM (uM (uM (uM (uM (uM (uM (uM (uM (uM (uM (uM (uM (M) 411 0 (nI 0)) 415 0 (nI 0)) 418 0 (nI 0)) 420 0 (nI 0)) 423 0 (nI 0)) 424 0 (nI 0)) 425 0 (nI 0)) 424 1 (nI 0)) 425 1 (nI 0)) 424 2 (nI 0)) 425 2 (nI 0)) 424 3 (nI 0)) 425 3 (nI 0)) L (rf ld)) : Tm l y_Mod_plain (0, 0, 447) 447 [.ref 401, .int (nI 0)] M L (rf ld) Q := by
  refine Tm.of (by decide) (Nat.le_of_ble_eq_true rfl) ?_
  show Wp l y_Mod_plain (0, 0, 447) 447 0 0 0 [(0, .ref 401), (1, .int (nI 0))] [] M L (rf ld) Q
  refine g_aload_n (pc1 := 1) d_Mod_plain_0 rfl 0 rfl ?_
  refine g_getr (pc1 := 4) d_Mod_plain_1 rfl ⟨_, fo_Mod_46⟩ sh_401 (by decide) (rf_401_23 ld) ?_
  refine g_iload_n (pc1 := 5) d_Mod_plain_4 rfl 1 rfl ?_
  refine g_iconst (pc1 := 6) (v := nI 0) d_Mod_plain_5 rfl (by decide) ?_
  refine g_iast (pc1 := 7) d_Mod_plain_6 rfl sh_411 (by decide) (vp_in_nI (n := 0) (by omega) (by decide)) ?_
  rw [nI_clamp (n := 0) (by omega)]
  refine Wp.topM (fun M5843 eM5843 => ?_)
  refine g_aload_n (pc1 := 8) d_Mod_plain_7 rfl 0 rfl ?_
  refine g_getr (pc1 := 11) d_Mod_plain_8 rfl ⟨_, fo_Mod_58⟩ sh_401 (by decide) (rf_401_27 ld) ?_
  refine g_iload_n (pc1 := 12) d_Mod_plain_11 rfl 1 rfl ?_
  refine g_iconst (pc1 := 13) (v := nI 0) d_Mod_plain_12 rfl (by decide) ?_
  refine g_iast (pc1 := 14) d_Mod_plain_13 rfl sh_415 (by decide) (vp_in_nI (n := 0) (by omega) (by decide)) ?_
  rw [nI_clamp (n := 0) (by omega)]
  refine Wp.topM (fun M5844 eM5844 => ?_)
  refine g_aload_n (pc1 := 15) d_Mod_plain_14 rfl 0 rfl ?_
  refine g_getr (pc1 := 18) d_Mod_plain_15 rfl ⟨_, fo_Mod_67⟩ sh_401 (by decide) (rf_401_30 ld) ?_
  refine g_iload_n (pc1 := 19) d_Mod_plain_18 rfl 1 rfl ?_
  refine g_iconst (pc1 := 20) (v := nI 0) d_Mod_plain_19 rfl (by decide) ?_
  refine g_iast (pc1 := 21) d_Mod_plain_20 rfl sh_418 (by decide) (vp_in_nI (n := 0) (by omega) (by decide)) ?_
  rw [nI_clamp (n := 0) (by omega)]
  refine Wp.topM (fun M5845 eM5845 => ?_)
  refine g_aload_n (pc1 := 22) d_Mod_plain_21 rfl 0 rfl ?_
  refine g_getr (pc1 := 25) d_Mod_plain_22 rfl ⟨_, fo_Mod_73⟩ sh_401 (by decide) (rf_401_32 ld) ?_
  refine g_iload_n (pc1 := 26) d_Mod_plain_25 rfl 1 rfl ?_
  refine g_iconst (pc1 := 27) (v := nI 0) d_Mod_plain_26 rfl (by decide) ?_
  refine g_iast (pc1 := 28) d_Mod_plain_27 rfl sh_420 (by decide) (vp_in_nI (n := 0) (by omega) (by decide)) ?_
  rw [nI_clamp (n := 0) (by omega)]
  refine Wp.topM (fun M5846 eM5846 => ?_)
  refine g_aload_n (pc1 := 29) d_Mod_plain_28 rfl 0 rfl ?_
  refine g_getr (pc1 := 32) d_Mod_plain_29 rfl ⟨_, fo_Mod_82⟩ sh_401 (by decide) (rf_401_35 ld) ?_
  refine g_iload_n (pc1 := 33) d_Mod_plain_32 rfl 1 rfl ?_
  refine g_iconst (pc1 := 34) (v := nI 0) d_Mod_plain_33 rfl (by decide) ?_
  refine g_iast (pc1 := 35) d_Mod_plain_34 rfl sh_423 (by decide) (vp_in_nI (n := 0) (by omega) (by decide)) ?_
  rw [nI_clamp (n := 0) (by omega)]
  refine Wp.topM (fun M5847 eM5847 => ?_)
  refine g_iconst (pc1 := 36) (v := nI 0) d_Mod_plain_35 rfl (by decide) ?_
  refine g_istore_n (pc1 := 37) (lv' := [(0, .ref 401), (1, .int (nI 0)), (2, .int (nI 0))]) d_Mod_plain_36 rfl rfl (by decide) [1, 2, 0] rfl ?_
  refine g_iload_n (pc1 := 38) d_Mod_plain_37 rfl 2 rfl ?_
  refine g_iconst (pc1 := 39) (v := nI 4) d_Mod_plain_38 rfl (by decide) ?_
  refine g_icmp_ge (pc1 := 42) (tgt := 70) d_Mod_plain_39 (by decide) rfl (fun h => absurd h (by decide)) (fun _ => ?_)
  refine g_aload_n (pc1 := 43) d_Mod_plain_42 rfl 0 rfl ?_
  refine g_getr (pc1 := 46) d_Mod_plain_43 rfl ⟨_, fo_Mod_85⟩ sh_401 (by decide) (rf_401_36 ld) ?_
  refine g_iconst (pc1 := 47) (v := nI 4) d_Mod_plain_46 rfl (by decide) ?_
  refine g_iload_n (pc1 := 48) d_Mod_plain_47 rfl 1 rfl ?_
  refine g_imul (pc1 := 49) d_Mod_plain_48 rfl ?_
  refine Wp.vali (y := nI 0) (by decide) ?_
  refine g_iload_n (pc1 := 50) d_Mod_plain_49 rfl 2 rfl ?_
  refine g_iadd (pc1 := 51) d_Mod_plain_50 rfl ?_
  refine Wp.vali (y := nI 0) (by decide) ?_
  refine g_iconst (pc1 := 52) (v := nI 0) d_Mod_plain_51 rfl (by decide) ?_
  refine g_iast (pc1 := 53) d_Mod_plain_52 rfl sh_424 (by decide) (vp_in_nI (n := 0) (by omega) (by decide)) ?_
  rw [nI_clamp (n := 0) (by omega)]
  refine Wp.topM (fun M5849 eM5849 => ?_)
  refine g_aload_n (pc1 := 54) d_Mod_plain_53 rfl 0 rfl ?_
  refine g_getr (pc1 := 57) d_Mod_plain_54 rfl ⟨_, fo_Mod_88⟩ sh_401 (by decide) (rf_401_37 ld) ?_
  refine g_iconst (pc1 := 58) (v := nI 4) d_Mod_plain_57 rfl (by decide) ?_
  refine g_iload_n (pc1 := 59) d_Mod_plain_58 rfl 1 rfl ?_
  refine g_imul (pc1 := 60) d_Mod_plain_59 rfl ?_
  refine Wp.vali (y := nI 0) (by decide) ?_
  refine g_iload_n (pc1 := 61) d_Mod_plain_60 rfl 2 rfl ?_
  refine g_iadd (pc1 := 62) d_Mod_plain_61 rfl ?_
  refine Wp.vali (y := nI 0) (by decide) ?_
  refine g_iconst (pc1 := 63) (v := nI 0) d_Mod_plain_62 rfl (by decide) ?_
  refine g_iast (pc1 := 64) d_Mod_plain_63 rfl sh_425 (by decide) (vp_in_nI (n := 0) (by omega) (by decide)) ?_
  rw [nI_clamp (n := 0) (by omega)]
  refine Wp.topM (fun M5850 eM5850 => ?_)
  refine g_iinc (pc1 := 67) (v := nI 1) (lv' := [(0, .ref 401), (1, .int (nI 0)), (2, .int (nI 1))]) d_Mod_plain_64 rfl 2 rfl (by decide) (by decide) [1, 2, 0] rfl ?_
  refine g_goto (tgt := 37) d_Mod_plain_67 (by decide) ?_
  refine g_iload_n (pc1 := 38) d_Mod_plain_37 rfl 2 rfl ?_
  refine g_iconst (pc1 := 39) (v := nI 4) d_Mod_plain_38 rfl (by decide) ?_
  refine g_icmp_ge (pc1 := 42) (tgt := 70) d_Mod_plain_39 (by decide) rfl (fun h => absurd h (by decide)) (fun _ => ?_)
  refine g_aload_n (pc1 := 43) d_Mod_plain_42 rfl 0 rfl ?_
  refine g_getr (pc1 := 46) d_Mod_plain_43 rfl ⟨_, fo_Mod_85⟩ sh_401 (by decide) (rf_401_36 ld) ?_
  refine g_iconst (pc1 := 47) (v := nI 4) d_Mod_plain_46 rfl (by decide) ?_
  refine g_iload_n (pc1 := 48) d_Mod_plain_47 rfl 1 rfl ?_
  refine g_imul (pc1 := 49) d_Mod_plain_48 rfl ?_
  refine Wp.vali (y := nI 0) (by decide) ?_
  refine g_iload_n (pc1 := 50) d_Mod_plain_49 rfl 2 rfl ?_
  refine g_iadd (pc1 := 51) d_Mod_plain_50 rfl ?_
  refine Wp.vali (y := nI 1) (by decide) ?_
  refine g_iconst (pc1 := 52) (v := nI 0) d_Mod_plain_51 rfl (by decide) ?_
  refine g_iast (pc1 := 53) d_Mod_plain_52 rfl sh_424 (by decide) (vp_in_nI (n := 1) (by omega) (by decide)) ?_
  rw [nI_clamp (n := 1) (by omega)]
  refine Wp.topM (fun M5852 eM5852 => ?_)
  refine g_aload_n (pc1 := 54) d_Mod_plain_53 rfl 0 rfl ?_
  refine g_getr (pc1 := 57) d_Mod_plain_54 rfl ⟨_, fo_Mod_88⟩ sh_401 (by decide) (rf_401_37 ld) ?_
  refine g_iconst (pc1 := 58) (v := nI 4) d_Mod_plain_57 rfl (by decide) ?_
  refine g_iload_n (pc1 := 59) d_Mod_plain_58 rfl 1 rfl ?_
  refine g_imul (pc1 := 60) d_Mod_plain_59 rfl ?_
  refine Wp.vali (y := nI 0) (by decide) ?_
  refine g_iload_n (pc1 := 61) d_Mod_plain_60 rfl 2 rfl ?_
  refine g_iadd (pc1 := 62) d_Mod_plain_61 rfl ?_
  refine Wp.vali (y := nI 1) (by decide) ?_
  refine g_iconst (pc1 := 63) (v := nI 0) d_Mod_plain_62 rfl (by decide) ?_
  refine g_iast (pc1 := 64) d_Mod_plain_63 rfl sh_425 (by decide) (vp_in_nI (n := 1) (by omega) (by decide)) ?_
  rw [nI_clamp (n := 1) (by omega)]
  refine Wp.topM (fun M5853 eM5853 => ?_)
  refine g_iinc (pc1 := 67) (v := nI 2) (lv' := [(0, .ref 401), (1, .int (nI 0)), (2, .int (nI 2))]) d_Mod_plain_64 rfl 2 rfl (by decide) (by decide) [1, 2, 0] rfl ?_
  refine g_goto (tgt := 37) d_Mod_plain_67 (by decide) ?_
  refine g_iload_n (pc1 := 38) d_Mod_plain_37 rfl 2 rfl ?_
  refine g_iconst (pc1 := 39) (v := nI 4) d_Mod_plain_38 rfl (by decide) ?_
  refine g_icmp_ge (pc1 := 42) (tgt := 70) d_Mod_plain_39 (by decide) rfl (fun h => absurd h (by decide)) (fun _ => ?_)
  refine g_aload_n (pc1 := 43) d_Mod_plain_42 rfl 0 rfl ?_
  refine g_getr (pc1 := 46) d_Mod_plain_43 rfl ⟨_, fo_Mod_85⟩ sh_401 (by decide) (rf_401_36 ld) ?_
  refine g_iconst (pc1 := 47) (v := nI 4) d_Mod_plain_46 rfl (by decide) ?_
  refine g_iload_n (pc1 := 48) d_Mod_plain_47 rfl 1 rfl ?_
  refine g_imul (pc1 := 49) d_Mod_plain_48 rfl ?_
  refine Wp.vali (y := nI 0) (by decide) ?_
  refine g_iload_n (pc1 := 50) d_Mod_plain_49 rfl 2 rfl ?_
  refine g_iadd (pc1 := 51) d_Mod_plain_50 rfl ?_
  refine Wp.vali (y := nI 2) (by decide) ?_
  refine g_iconst (pc1 := 52) (v := nI 0) d_Mod_plain_51 rfl (by decide) ?_
  refine g_iast (pc1 := 53) d_Mod_plain_52 rfl sh_424 (by decide) (vp_in_nI (n := 2) (by omega) (by decide)) ?_
  rw [nI_clamp (n := 2) (by omega)]
  refine Wp.topM (fun M5855 eM5855 => ?_)
  refine g_aload_n (pc1 := 54) d_Mod_plain_53 rfl 0 rfl ?_
  refine g_getr (pc1 := 57) d_Mod_plain_54 rfl ⟨_, fo_Mod_88⟩ sh_401 (by decide) (rf_401_37 ld) ?_
  refine g_iconst (pc1 := 58) (v := nI 4) d_Mod_plain_57 rfl (by decide) ?_
  refine g_iload_n (pc1 := 59) d_Mod_plain_58 rfl 1 rfl ?_
  refine g_imul (pc1 := 60) d_Mod_plain_59 rfl ?_
  refine Wp.vali (y := nI 0) (by decide) ?_
  refine g_iload_n (pc1 := 61) d_Mod_plain_60 rfl 2 rfl ?_
  refine g_iadd (pc1 := 62) d_Mod_plain_61 rfl ?_
  refine Wp.vali (y := nI 2) (by decide) ?_
  refine g_iconst (pc1 := 63) (v := nI 0) d_Mod_plain_62 rfl (by decide) ?_
  refine g_iast (pc1 := 64) d_Mod_plain_63 rfl sh_425 (by decide) (vp_in_nI (n := 2) (by omega) (by decide)) ?_
  rw [nI_clamp (n := 2) (by omega)]
  refine Wp.topM (fun M5856 eM5856 => ?_)
  refine g_iinc (pc1 := 67) (v := nI 3) (lv' := [(0, .ref 401), (1, .int (nI 0)), (2, .int (nI 3))]) d_Mod_plain_64 rfl 2 rfl (by decide) (by decide) [1, 2, 0] rfl ?_
  refine g_goto (tgt := 37) d_Mod_plain_67 (by decide) ?_
  refine g_iload_n (pc1 := 38) d_Mod_plain_37 rfl 2 rfl ?_
  refine g_iconst (pc1 := 39) (v := nI 4) d_Mod_plain_38 rfl (by decide) ?_
  refine g_icmp_ge (pc1 := 42) (tgt := 70) d_Mod_plain_39 (by decide) rfl (fun h => absurd h (by decide)) (fun _ => ?_)
  refine g_aload_n (pc1 := 43) d_Mod_plain_42 rfl 0 rfl ?_
  refine g_getr (pc1 := 46) d_Mod_plain_43 rfl ⟨_, fo_Mod_85⟩ sh_401 (by decide) (rf_401_36 ld) ?_
  refine g_iconst (pc1 := 47) (v := nI 4) d_Mod_plain_46 rfl (by decide) ?_
  refine g_iload_n (pc1 := 48) d_Mod_plain_47 rfl 1 rfl ?_
  refine g_imul (pc1 := 49) d_Mod_plain_48 rfl ?_
  refine Wp.vali (y := nI 0) (by decide) ?_
  refine g_iload_n (pc1 := 50) d_Mod_plain_49 rfl 2 rfl ?_
  refine g_iadd (pc1 := 51) d_Mod_plain_50 rfl ?_
  refine Wp.vali (y := nI 3) (by decide) ?_
  refine g_iconst (pc1 := 52) (v := nI 0) d_Mod_plain_51 rfl (by decide) ?_
  refine g_iast (pc1 := 53) d_Mod_plain_52 rfl sh_424 (by decide) (vp_in_nI (n := 3) (by omega) (by decide)) ?_
  rw [nI_clamp (n := 3) (by omega)]
  refine Wp.topM (fun M5858 eM5858 => ?_)
  refine g_aload_n (pc1 := 54) d_Mod_plain_53 rfl 0 rfl ?_
  refine g_getr (pc1 := 57) d_Mod_plain_54 rfl ⟨_, fo_Mod_88⟩ sh_401 (by decide) (rf_401_37 ld) ?_
  refine g_iconst (pc1 := 58) (v := nI 4) d_Mod_plain_57 rfl (by decide) ?_
  refine g_iload_n (pc1 := 59) d_Mod_plain_58 rfl 1 rfl ?_
  refine g_imul (pc1 := 60) d_Mod_plain_59 rfl ?_
  refine Wp.vali (y := nI 0) (by decide) ?_
  refine g_iload_n (pc1 := 61) d_Mod_plain_60 rfl 2 rfl ?_
  refine g_iadd (pc1 := 62) d_Mod_plain_61 rfl ?_
  refine Wp.vali (y := nI 3) (by decide) ?_
  refine g_iconst (pc1 := 63) (v := nI 0) d_Mod_plain_62 rfl (by decide) ?_
  refine g_iast (pc1 := 64) d_Mod_plain_63 rfl sh_425 (by decide) (vp_in_nI (n := 3) (by omega) (by decide)) ?_
  rw [nI_clamp (n := 3) (by omega)]
  refine Wp.topM (fun M5859 eM5859 => ?_)
  refine g_iinc (pc1 := 67) (v := nI 4) (lv' := [(0, .ref 401), (1, .int (nI 0)), (2, .int (nI 4))]) d_Mod_plain_64 rfl 2 rfl (by decide) (by decide) [1, 2, 0] rfl ?_
  refine g_goto (tgt := 37) d_Mod_plain_67 (by decide) ?_
  refine g_iload_n (pc1 := 38) d_Mod_plain_37 rfl 2 rfl ?_
  refine g_iconst (pc1 := 39) (v := nI 4) d_Mod_plain_38 rfl (by decide) ?_
  refine g_icmp_ge (pc1 := 42) (tgt := 70) d_Mod_plain_39 (by decide) rfl (fun _ => ?_) (fun h => absurd h (by decide))
  refine g_return rfl d_Mod_plain_70 rfl ?_
  rw [eM5859, eM5858, eM5856, eM5855, eM5853, eM5852, eM5850, eM5849, eM5847, eM5846, eM5845, eM5844, eM5843]
  exact hQ
set_option maxHeartbeats 4000000 in
set_option maxRecDepth 20000 in
theorem x_Mod_plain_1 {l : Launch} {ld : Nat} {M : gM} {L : gL} {Q : Option Value → gM → gL → gR → Prop}  (hQ : Q none (uM (uM (uM (uM (uM (uM (uM (uM (uM (uM (uM (uM (uM (M) 411 1 (nI 0)) 415 1 (nI 0)) 418 1 (nI 0)) 420 1 (nI 0)) 423 1 (nI 0)) 424 4 (nI 0)) 425 4 (nI 0)) 424 5 (nI 0)) 425 5 (nI 0)) 424 6 (nI 0)) 425 6 (nI 0)) 424 7 (nI 0)) 425 7 (nI 0)) L (rf ld)) : Tm l y_Mod_plain (0, 0, 447) 447 [.ref 401, .int (nI 1)] M L (rf ld) Q := by
  refine Tm.of (by decide) (Nat.le_of_ble_eq_true rfl) ?_
  show Wp l y_Mod_plain (0, 0, 447) 447 0 0 0 [(0, .ref 401), (1, .int (nI 1))] [] M L (rf ld) Q
  refine g_aload_n (pc1 := 1) d_Mod_plain_0 rfl 0 rfl ?_
  refine g_getr (pc1 := 4) d_Mod_plain_1 rfl ⟨_, fo_Mod_46⟩ sh_401 (by decide) (rf_401_23 ld) ?_
  refine g_iload_n (pc1 := 5) d_Mod_plain_4 rfl 1 rfl ?_
  refine g_iconst (pc1 := 6) (v := nI 0) d_Mod_plain_5 rfl (by decide) ?_
  refine g_iast (pc1 := 7) d_Mod_plain_6 rfl sh_411 (by decide) (vp_in_nI (n := 1) (by omega) (by decide)) ?_
  rw [nI_clamp (n := 1) (by omega)]
  refine Wp.topM (fun M5861 eM5861 => ?_)
  refine g_aload_n (pc1 := 8) d_Mod_plain_7 rfl 0 rfl ?_
  refine g_getr (pc1 := 11) d_Mod_plain_8 rfl ⟨_, fo_Mod_58⟩ sh_401 (by decide) (rf_401_27 ld) ?_
  refine g_iload_n (pc1 := 12) d_Mod_plain_11 rfl 1 rfl ?_
  refine g_iconst (pc1 := 13) (v := nI 0) d_Mod_plain_12 rfl (by decide) ?_
  refine g_iast (pc1 := 14) d_Mod_plain_13 rfl sh_415 (by decide) (vp_in_nI (n := 1) (by omega) (by decide)) ?_
  rw [nI_clamp (n := 1) (by omega)]
  refine Wp.topM (fun M5862 eM5862 => ?_)
  refine g_aload_n (pc1 := 15) d_Mod_plain_14 rfl 0 rfl ?_
  refine g_getr (pc1 := 18) d_Mod_plain_15 rfl ⟨_, fo_Mod_67⟩ sh_401 (by decide) (rf_401_30 ld) ?_
  refine g_iload_n (pc1 := 19) d_Mod_plain_18 rfl 1 rfl ?_
  refine g_iconst (pc1 := 20) (v := nI 0) d_Mod_plain_19 rfl (by decide) ?_
  refine g_iast (pc1 := 21) d_Mod_plain_20 rfl sh_418 (by decide) (vp_in_nI (n := 1) (by omega) (by decide)) ?_
  rw [nI_clamp (n := 1) (by omega)]
  refine Wp.topM (fun M5863 eM5863 => ?_)
  refine g_aload_n (pc1 := 22) d_Mod_plain_21 rfl 0 rfl ?_
  refine g_getr (pc1 := 25) d_Mod_plain_22 rfl ⟨_, fo_Mod_73⟩ sh_401 (by decide) (rf_401_32 ld) ?_
  refine g_iload_n (pc1 := 26) d_Mod_plain_25 rfl 1 rfl ?_
  refine g_iconst (pc1 := 27) (v := nI 0) d_Mod_plain_26 rfl (by decide) ?_
  refine g_iast (pc1 := 28) d_Mod_plain_27 rfl sh_420 (by decide) (vp_in_nI (n := 1) (by omega) (by decide)) ?_
  rw [nI_clamp (n := 1) (by omega)]
  refine Wp.topM (fun M5864 eM5864 => ?_)
  refine g_aload_n (pc1 := 29) d_Mod_plain_28 rfl 0 rfl ?_
  refine g_getr (pc1 := 32) d_Mod_plain_29 rfl ⟨_, fo_Mod_82⟩ sh_401 (by decide) (rf_401_35 ld) ?_
  refine g_iload_n (pc1 := 33) d_Mod_plain_32 rfl 1 rfl ?_
  refine g_iconst (pc1 := 34) (v := nI 0) d_Mod_plain_33 rfl (by decide) ?_
  refine g_iast (pc1 := 35) d_Mod_plain_34 rfl sh_423 (by decide) (vp_in_nI (n := 1) (by omega) (by decide)) ?_
  rw [nI_clamp (n := 1) (by omega)]
  refine Wp.topM (fun M5865 eM5865 => ?_)
  refine g_iconst (pc1 := 36) (v := nI 0) d_Mod_plain_35 rfl (by decide) ?_
  refine g_istore_n (pc1 := 37) (lv' := [(0, .ref 401), (1, .int (nI 1)), (2, .int (nI 0))]) d_Mod_plain_36 rfl rfl (by decide) [1, 2, 0] rfl ?_
  refine g_iload_n (pc1 := 38) d_Mod_plain_37 rfl 2 rfl ?_
  refine g_iconst (pc1 := 39) (v := nI 4) d_Mod_plain_38 rfl (by decide) ?_
  refine g_icmp_ge (pc1 := 42) (tgt := 70) d_Mod_plain_39 (by decide) rfl (fun h => absurd h (by decide)) (fun _ => ?_)
  refine g_aload_n (pc1 := 43) d_Mod_plain_42 rfl 0 rfl ?_
  refine g_getr (pc1 := 46) d_Mod_plain_43 rfl ⟨_, fo_Mod_85⟩ sh_401 (by decide) (rf_401_36 ld) ?_
  refine g_iconst (pc1 := 47) (v := nI 4) d_Mod_plain_46 rfl (by decide) ?_
  refine g_iload_n (pc1 := 48) d_Mod_plain_47 rfl 1 rfl ?_
  refine g_imul (pc1 := 49) d_Mod_plain_48 rfl ?_
  refine Wp.vali (y := nI 4) (by decide) ?_
  refine g_iload_n (pc1 := 50) d_Mod_plain_49 rfl 2 rfl ?_
  refine g_iadd (pc1 := 51) d_Mod_plain_50 rfl ?_
  refine Wp.vali (y := nI 4) (by decide) ?_
  refine g_iconst (pc1 := 52) (v := nI 0) d_Mod_plain_51 rfl (by decide) ?_
  refine g_iast (pc1 := 53) d_Mod_plain_52 rfl sh_424 (by decide) (vp_in_nI (n := 4) (by omega) (by decide)) ?_
  rw [nI_clamp (n := 4) (by omega)]
  refine Wp.topM (fun M5867 eM5867 => ?_)
  refine g_aload_n (pc1 := 54) d_Mod_plain_53 rfl 0 rfl ?_
  refine g_getr (pc1 := 57) d_Mod_plain_54 rfl ⟨_, fo_Mod_88⟩ sh_401 (by decide) (rf_401_37 ld) ?_
  refine g_iconst (pc1 := 58) (v := nI 4) d_Mod_plain_57 rfl (by decide) ?_
  refine g_iload_n (pc1 := 59) d_Mod_plain_58 rfl 1 rfl ?_
  refine g_imul (pc1 := 60) d_Mod_plain_59 rfl ?_
  refine Wp.vali (y := nI 4) (by decide) ?_
  refine g_iload_n (pc1 := 61) d_Mod_plain_60 rfl 2 rfl ?_
  refine g_iadd (pc1 := 62) d_Mod_plain_61 rfl ?_
  refine Wp.vali (y := nI 4) (by decide) ?_
  refine g_iconst (pc1 := 63) (v := nI 0) d_Mod_plain_62 rfl (by decide) ?_
  refine g_iast (pc1 := 64) d_Mod_plain_63 rfl sh_425 (by decide) (vp_in_nI (n := 4) (by omega) (by decide)) ?_
  rw [nI_clamp (n := 4) (by omega)]
  refine Wp.topM (fun M5868 eM5868 => ?_)
  refine g_iinc (pc1 := 67) (v := nI 1) (lv' := [(0, .ref 401), (1, .int (nI 1)), (2, .int (nI 1))]) d_Mod_plain_64 rfl 2 rfl (by decide) (by decide) [1, 2, 0] rfl ?_
  refine g_goto (tgt := 37) d_Mod_plain_67 (by decide) ?_
  refine g_iload_n (pc1 := 38) d_Mod_plain_37 rfl 2 rfl ?_
  refine g_iconst (pc1 := 39) (v := nI 4) d_Mod_plain_38 rfl (by decide) ?_
  refine g_icmp_ge (pc1 := 42) (tgt := 70) d_Mod_plain_39 (by decide) rfl (fun h => absurd h (by decide)) (fun _ => ?_)
  refine g_aload_n (pc1 := 43) d_Mod_plain_42 rfl 0 rfl ?_
  refine g_getr (pc1 := 46) d_Mod_plain_43 rfl ⟨_, fo_Mod_85⟩ sh_401 (by decide) (rf_401_36 ld) ?_
  refine g_iconst (pc1 := 47) (v := nI 4) d_Mod_plain_46 rfl (by decide) ?_
  refine g_iload_n (pc1 := 48) d_Mod_plain_47 rfl 1 rfl ?_
  refine g_imul (pc1 := 49) d_Mod_plain_48 rfl ?_
  refine Wp.vali (y := nI 4) (by decide) ?_
  refine g_iload_n (pc1 := 50) d_Mod_plain_49 rfl 2 rfl ?_
  refine g_iadd (pc1 := 51) d_Mod_plain_50 rfl ?_
  refine Wp.vali (y := nI 5) (by decide) ?_
  refine g_iconst (pc1 := 52) (v := nI 0) d_Mod_plain_51 rfl (by decide) ?_
  refine g_iast (pc1 := 53) d_Mod_plain_52 rfl sh_424 (by decide) (vp_in_nI (n := 5) (by omega) (by decide)) ?_
  rw [nI_clamp (n := 5) (by omega)]
  refine Wp.topM (fun M5870 eM5870 => ?_)
  refine g_aload_n (pc1 := 54) d_Mod_plain_53 rfl 0 rfl ?_
  refine g_getr (pc1 := 57) d_Mod_plain_54 rfl ⟨_, fo_Mod_88⟩ sh_401 (by decide) (rf_401_37 ld) ?_
  refine g_iconst (pc1 := 58) (v := nI 4) d_Mod_plain_57 rfl (by decide) ?_
  refine g_iload_n (pc1 := 59) d_Mod_plain_58 rfl 1 rfl ?_
  refine g_imul (pc1 := 60) d_Mod_plain_59 rfl ?_
  refine Wp.vali (y := nI 4) (by decide) ?_
  refine g_iload_n (pc1 := 61) d_Mod_plain_60 rfl 2 rfl ?_
  refine g_iadd (pc1 := 62) d_Mod_plain_61 rfl ?_
  refine Wp.vali (y := nI 5) (by decide) ?_
  refine g_iconst (pc1 := 63) (v := nI 0) d_Mod_plain_62 rfl (by decide) ?_
  refine g_iast (pc1 := 64) d_Mod_plain_63 rfl sh_425 (by decide) (vp_in_nI (n := 5) (by omega) (by decide)) ?_
  rw [nI_clamp (n := 5) (by omega)]
  refine Wp.topM (fun M5871 eM5871 => ?_)
  refine g_iinc (pc1 := 67) (v := nI 2) (lv' := [(0, .ref 401), (1, .int (nI 1)), (2, .int (nI 2))]) d_Mod_plain_64 rfl 2 rfl (by decide) (by decide) [1, 2, 0] rfl ?_
  refine g_goto (tgt := 37) d_Mod_plain_67 (by decide) ?_
  refine g_iload_n (pc1 := 38) d_Mod_plain_37 rfl 2 rfl ?_
  refine g_iconst (pc1 := 39) (v := nI 4) d_Mod_plain_38 rfl (by decide) ?_
  refine g_icmp_ge (pc1 := 42) (tgt := 70) d_Mod_plain_39 (by decide) rfl (fun h => absurd h (by decide)) (fun _ => ?_)
  refine g_aload_n (pc1 := 43) d_Mod_plain_42 rfl 0 rfl ?_
  refine g_getr (pc1 := 46) d_Mod_plain_43 rfl ⟨_, fo_Mod_85⟩ sh_401 (by decide) (rf_401_36 ld) ?_
  refine g_iconst (pc1 := 47) (v := nI 4) d_Mod_plain_46 rfl (by decide) ?_
  refine g_iload_n (pc1 := 48) d_Mod_plain_47 rfl 1 rfl ?_
  refine g_imul (pc1 := 49) d_Mod_plain_48 rfl ?_
  refine Wp.vali (y := nI 4) (by decide) ?_
  refine g_iload_n (pc1 := 50) d_Mod_plain_49 rfl 2 rfl ?_
  refine g_iadd (pc1 := 51) d_Mod_plain_50 rfl ?_
  refine Wp.vali (y := nI 6) (by decide) ?_
  refine g_iconst (pc1 := 52) (v := nI 0) d_Mod_plain_51 rfl (by decide) ?_
  refine g_iast (pc1 := 53) d_Mod_plain_52 rfl sh_424 (by decide) (vp_in_nI (n := 6) (by omega) (by decide)) ?_
  rw [nI_clamp (n := 6) (by omega)]
  refine Wp.topM (fun M5873 eM5873 => ?_)
  refine g_aload_n (pc1 := 54) d_Mod_plain_53 rfl 0 rfl ?_
  refine g_getr (pc1 := 57) d_Mod_plain_54 rfl ⟨_, fo_Mod_88⟩ sh_401 (by decide) (rf_401_37 ld) ?_
  refine g_iconst (pc1 := 58) (v := nI 4) d_Mod_plain_57 rfl (by decide) ?_
  refine g_iload_n (pc1 := 59) d_Mod_plain_58 rfl 1 rfl ?_
  refine g_imul (pc1 := 60) d_Mod_plain_59 rfl ?_
  refine Wp.vali (y := nI 4) (by decide) ?_
  refine g_iload_n (pc1 := 61) d_Mod_plain_60 rfl 2 rfl ?_
  refine g_iadd (pc1 := 62) d_Mod_plain_61 rfl ?_
  refine Wp.vali (y := nI 6) (by decide) ?_
  refine g_iconst (pc1 := 63) (v := nI 0) d_Mod_plain_62 rfl (by decide) ?_
  refine g_iast (pc1 := 64) d_Mod_plain_63 rfl sh_425 (by decide) (vp_in_nI (n := 6) (by omega) (by decide)) ?_
  rw [nI_clamp (n := 6) (by omega)]
  refine Wp.topM (fun M5874 eM5874 => ?_)
  refine g_iinc (pc1 := 67) (v := nI 3) (lv' := [(0, .ref 401), (1, .int (nI 1)), (2, .int (nI 3))]) d_Mod_plain_64 rfl 2 rfl (by decide) (by decide) [1, 2, 0] rfl ?_
  refine g_goto (tgt := 37) d_Mod_plain_67 (by decide) ?_
  refine g_iload_n (pc1 := 38) d_Mod_plain_37 rfl 2 rfl ?_
  refine g_iconst (pc1 := 39) (v := nI 4) d_Mod_plain_38 rfl (by decide) ?_
  refine g_icmp_ge (pc1 := 42) (tgt := 70) d_Mod_plain_39 (by decide) rfl (fun h => absurd h (by decide)) (fun _ => ?_)
  refine g_aload_n (pc1 := 43) d_Mod_plain_42 rfl 0 rfl ?_
  refine g_getr (pc1 := 46) d_Mod_plain_43 rfl ⟨_, fo_Mod_85⟩ sh_401 (by decide) (rf_401_36 ld) ?_
  refine g_iconst (pc1 := 47) (v := nI 4) d_Mod_plain_46 rfl (by decide) ?_
  refine g_iload_n (pc1 := 48) d_Mod_plain_47 rfl 1 rfl ?_
  refine g_imul (pc1 := 49) d_Mod_plain_48 rfl ?_
  refine Wp.vali (y := nI 4) (by decide) ?_
  refine g_iload_n (pc1 := 50) d_Mod_plain_49 rfl 2 rfl ?_
  refine g_iadd (pc1 := 51) d_Mod_plain_50 rfl ?_
  refine Wp.vali (y := nI 7) (by decide) ?_
  refine g_iconst (pc1 := 52) (v := nI 0) d_Mod_plain_51 rfl (by decide) ?_
  refine g_iast (pc1 := 53) d_Mod_plain_52 rfl sh_424 (by decide) (vp_in_nI (n := 7) (by omega) (by decide)) ?_
  rw [nI_clamp (n := 7) (by omega)]
  refine Wp.topM (fun M5876 eM5876 => ?_)
  refine g_aload_n (pc1 := 54) d_Mod_plain_53 rfl 0 rfl ?_
  refine g_getr (pc1 := 57) d_Mod_plain_54 rfl ⟨_, fo_Mod_88⟩ sh_401 (by decide) (rf_401_37 ld) ?_
  refine g_iconst (pc1 := 58) (v := nI 4) d_Mod_plain_57 rfl (by decide) ?_
  refine g_iload_n (pc1 := 59) d_Mod_plain_58 rfl 1 rfl ?_
  refine g_imul (pc1 := 60) d_Mod_plain_59 rfl ?_
  refine Wp.vali (y := nI 4) (by decide) ?_
  refine g_iload_n (pc1 := 61) d_Mod_plain_60 rfl 2 rfl ?_
  refine g_iadd (pc1 := 62) d_Mod_plain_61 rfl ?_
  refine Wp.vali (y := nI 7) (by decide) ?_
  refine g_iconst (pc1 := 63) (v := nI 0) d_Mod_plain_62 rfl (by decide) ?_
  refine g_iast (pc1 := 64) d_Mod_plain_63 rfl sh_425 (by decide) (vp_in_nI (n := 7) (by omega) (by decide)) ?_
  rw [nI_clamp (n := 7) (by omega)]
  refine Wp.topM (fun M5877 eM5877 => ?_)
  refine g_iinc (pc1 := 67) (v := nI 4) (lv' := [(0, .ref 401), (1, .int (nI 1)), (2, .int (nI 4))]) d_Mod_plain_64 rfl 2 rfl (by decide) (by decide) [1, 2, 0] rfl ?_
  refine g_goto (tgt := 37) d_Mod_plain_67 (by decide) ?_
  refine g_iload_n (pc1 := 38) d_Mod_plain_37 rfl 2 rfl ?_
  refine g_iconst (pc1 := 39) (v := nI 4) d_Mod_plain_38 rfl (by decide) ?_
  refine g_icmp_ge (pc1 := 42) (tgt := 70) d_Mod_plain_39 (by decide) rfl (fun _ => ?_) (fun h => absurd h (by decide))
  refine g_return rfl d_Mod_plain_70 rfl ?_
  rw [eM5877, eM5876, eM5874, eM5873, eM5871, eM5870, eM5868, eM5867, eM5865, eM5864, eM5863, eM5862, eM5861]
  exact hQ
set_option maxHeartbeats 4000000 in
set_option maxRecDepth 20000 in
theorem x_Mod_undo {l : Launch} {ld : Nat} {M : gM} {L : gL} {Q : Option Value → gM → gL → gR → Prop} {u : Nat} (hu : M 401 57 = nI u) (hu40 : u ≤ 40) (hQ0 : u = 0 → Q (some (.int 0)) M L (rf ld)) (hQ1 : 0 < u → Q (some (.int 1)) (fl (uM M 401 57 (nI (u - 1))) 436 0 38 (fun k => M 440 (38 * (u - 1) + k))) L (rf ld)) : Tm l y_Mod_undo (0, 0, 447) 447 [.ref 401] M L (rf ld) Q := by
  refine Tm.of (by decide) (Nat.le_of_ble_eq_true rfl) ?_
  show Wp l y_Mod_undo (0, 0, 447) 447 0 0 0 [(0, .ref 401)] [] M L (rf ld) Q
  refine g_aload_n (pc1 := 1) d_Mod_undo_0 rfl 0 rfl ?_
  refine g_geti (pc1 := 4) d_Mod_undo_1 rfl ⟨_, fo_Mod_254⟩ sh_401 (by decide) ?_
  refine Wp.vali (y := nI u) hu ?_
  refine g_if_ne (pc1 := 7) (tgt := 9) d_Mod_undo_4 (by decide) rfl (fun h5879 => ?_) (fun h5879 => ?_)
  · have nh5879 : ¬ (u : Nat) = (0 : Nat) := fun q => h5879 ((nI_eq (a := (u : Nat)) (b := (0 : Nat)) (by omega) (by omega)).mpr q)
    refine g_aload_n (pc1 := 10) d_Mod_undo_9 rfl 0 rfl ?_
    refine g_dup (pc1 := 11) d_Mod_undo_10 rfl rfl ?_
    refine g_geti (pc1 := 14) d_Mod_undo_11 rfl ⟨_, fo_Mod_254⟩ sh_401 (by decide) ?_
    refine Wp.vali (y := nI u) hu ?_
    refine g_iconst (pc1 := 15) (v := nI 1) d_Mod_undo_14 rfl (by decide) ?_
    refine g_isub (pc1 := 16) d_Mod_undo_15 rfl ?_
    refine Wp.vali (y := nI (u - 1)) (nI_sub (by omega)) ?_
    refine g_puti (pc1 := 19) d_Mod_undo_16 rfl fo_Mod_254 (po_12_57 _) sh_401 (by decide) ?_
    refine Wp.topM (fun M5880 eM5880 => ?_)
    refine g_iconst (pc1 := 20) (v := nI 0) d_Mod_undo_19 rfl (by decide) ?_
    refine g_istore_n (pc1 := 21) (lv' := [(0, .ref 401), (1, .int (nI 0))]) d_Mod_undo_20 rfl rfl (by decide) [1, 0] rfl ?_
    have LP5884 : ∀ (f5881 k5882 : Nat), k5882 ≤ 38 → 38 - k5882 < f5881 → Wp l y_Mod_undo (0, 0, 447) 447 0 0 21 [(0, .ref 401), (1, .int (nI k5882))] [] (fl M5880 436 (0) k5882 (fun k => M 440 (38 * (u - 1) + k))) L (rf ld) Q := by
      intro f5881
      induction f5881 with
      | zero => intro k5882 _ hm; exact absurd hm (Nat.not_lt_zero _)
      | succ f5881 ih5883 =>
        intro k5882 hkk5882 hmk5882
        refine Wp.topM (fun M5885 eM5885 => ?_)
        refine g_iload_n (pc1 := 22) d_Mod_undo_21 rfl 1 rfl ?_
        refine g_bipush (pc1 := 24) (v := nI 38) d_Mod_undo_22 rfl (by decide) ?_
        refine g_icmp_ge (pc1 := 27) (tgt := 53) d_Mod_undo_24 (by decide) rfl (fun h5886 => ?_) (fun h5886 => ?_)
        · have nh5886 : (38 : Nat) ≤ (k5882 : Nat) := (nI_leI (a := (38 : Nat)) (b := (k5882 : Nat)) (by omega) (by omega)).mp h5886
          have ekk5882 : k5882 = 38 := by omega
          rw [ekk5882] at eM5885
          refine g_iconst (pc1 := 54) (v := nI 1) d_Mod_undo_53 rfl (by decide) ?_
          refine g_ireturn (Or.inr ⟨rfl, rfl⟩) d_Mod_undo_54 rfl ?_
          rw [eM5885, eM5880]
          exact hQ1 (by omega)
        · have nh5886 : ¬ (38 : Nat) ≤ (k5882 : Nat) := fun q => h5886 ((nI_leI (a := (38 : Nat)) (b := (k5882 : Nat)) (by omega) (by omega)).mpr q)
          refine g_aload_n (pc1 := 28) d_Mod_undo_27 rfl 0 rfl ?_
          refine g_getr (pc1 := 31) d_Mod_undo_28 rfl ⟨_, fo_Mod_122⟩ sh_401 (by decide) (rf_401_52 ld) ?_
          refine g_iload_n (pc1 := 32) d_Mod_undo_31 rfl 1 rfl ?_
          refine g_aload_n (pc1 := 33) d_Mod_undo_32 rfl 0 rfl ?_
          refine g_getr (pc1 := 36) d_Mod_undo_33 rfl ⟨_, fo_Mod_134⟩ sh_401 (by decide) (rf_401_58 ld) ?_
          refine g_bipush (pc1 := 38) (v := nI 38) d_Mod_undo_36 rfl (by decide) ?_
          refine g_aload_n (pc1 := 39) d_Mod_undo_38 rfl 0 rfl ?_
          refine g_geti (pc1 := 42) d_Mod_undo_39 rfl ⟨_, fo_Mod_254⟩ sh_401 (by decide) ?_
          refine Wp.vali (y := nI (u - 1)) ((flE_ne eM5885 (fun q => absurd q.1 (by decide))).trans (rdn_eq eM5880 rfl)) ?_
          refine g_imul (pc1 := 43) d_Mod_undo_42 rfl ?_
          refine Wp.vali (y := nI (38 * (u - 1))) (nI_mul _ _) ?_
          refine g_iload_n (pc1 := 44) d_Mod_undo_43 rfl 1 rfl ?_
          refine g_iadd (pc1 := 45) d_Mod_undo_44 rfl ?_
          refine Wp.vali (y := nI ((38 * (u - 1)) + k5882)) (nI_add _ _) ?_
          refine g_iald (pc1 := 46) d_Mod_undo_45 rfl sh_440 (by decide) (vp_in_nI (n := (38 * (u - 1)) + k5882) (by omega) (by decide)) ?_
          rw [nI_clamp (n := (38 * (u - 1)) + k5882) (by omega)]
          refine Wp.vali (y := M 440 ((38 * (u - 1)) + k5882)) ((flE_ne eM5885 (fun q => absurd q.1 (by decide))).trans (rd_ne eM5880 (fun q => absurd q.1 (by decide)))) ?_
          refine g_iast (pc1 := 47) d_Mod_undo_46 rfl sh_436 (by decide) (vp_in_nI (n := k5882) (by omega) (by decide)) ?_
          rw [nI_clamp (n := k5882) (by omega)]
          refine Wp.topM (fun M5887 eM5887 => ?_)
          refine g_iinc (pc1 := 50) (v := nI (k5882 + 1)) (lv' := [(0, .ref 401), (1, .int (nI (k5882 + 1)))]) d_Mod_undo_47 rfl 1 rfl (nI_1 _) (by decide) [1, 0] rfl ?_
          refine g_goto (tgt := 21) d_Mod_undo_50 (by decide) ?_
          refine Wp.eqM (show M5887 = fl M5880 436 (0) (k5882 + 1) (fun k => M 440 (38 * (u - 1) + k)) from by rw [eM5887, eM5885]; exact fl_s (by omega) rfl) ?_
          exact ih5883 (k5882 + 1) (by omega) (by omega)
    refine Wp.eqM (fl_0 (a := 436) (o := 0) (v := (fun k => M 440 (38 * (u - 1) + k)))).symm ?_
    exact LP5884 _ 0 (by omega) (Nat.lt_succ_self _)
  · have nh5879 : (u : Nat) = (0 : Nat) := (nI_eq (a := (u : Nat)) (b := (0 : Nat)) (by omega) (by omega)).mp h5879
    refine g_iconst (pc1 := 8) (v := nI 0) d_Mod_undo_7 rfl (by decide) ?_
    refine g_ireturn (Or.inr ⟨rfl, rfl⟩) d_Mod_undo_8 rfl ?_
    exact hQ0 (by omega)
set_option maxHeartbeats 4000000 in
set_option maxRecDepth 20000 in
theorem x_Mod_hold {l : Launch} {ld : Nat} {M : gM} {L : gL} {Q : Option Value → gM → gL → gR → Prop} (hld : isLa ld) {p0 : Int32} (hQ0 : ¬ ((nI 0).toInt ≤ (p0 : Int32).toInt ∧ (p0 : Int32).toInt ≤ (nI 2).toInt) → Q (some (.int 0)) M L (rf ld)) (hQ1 : ∀ q, q ≤ 2 → p0 = nI q → Q (some (.int 1)) (fl (uM M 445 q (nI 1)) 446 (38 * q) 38 (M 436)) L (rf ld)) : Tm l y_Mod_hold (0, 0, 447) 447 [.ref 401, .int p0] M L (rf ld) Q := by
  refine Tm.of (by decide) (Nat.le_of_ble_eq_true rfl) ?_
  show Wp l y_Mod_hold (0, 0, 447) 447 0 0 0 [(0, .ref 401), (1, .int p0)] [] M L (rf ld) Q
  refine g_iload_n (pc1 := 1) d_Mod_hold_0 rfl 1 rfl ?_
  refine g_iconst (pc1 := 2) (v := nI 0) d_Mod_hold_1 rfl (by decide) ?_
  refine g_iconst (pc1 := 3) (v := nI 2) d_Mod_hold_2 rfl (by decide) ?_
  refine g_callS0 (pc1 := 6) (As := [.int p0, .int (nI 0), .int (nI 2)]) (rest := []) d_Mod_hold_3 rfl mo_Mod_316 ms_Mod_in (by decide) rfl rfl (Nat.le_of_ble_eq_true rfl) ?_
  refine t2_Mod_in hld (p0) (nI 0) (nI 2) (fun r5888 hbr5888 => ?_)
  dsimp only [psh]
  rcases hbr5888 with ⟨rfl, h5889⟩ | ⟨rfl, h5889⟩
  · skip
    refine g_if_ne (pc1 := 9) (tgt := 11) d_Mod_hold_6 (by decide) rfl (fun h => absurd h (by decide)) (fun _ => ?_)
    refine g_iconst (pc1 := 10) (v := nI 0) d_Mod_hold_9 rfl (by decide) ?_
    refine g_ireturn (Or.inr ⟨rfl, rfl⟩) d_Mod_hold_10 rfl ?_
    exact hQ0 h5889
  · obtain ⟨q5890, h5889b, h5889a, rfl⟩ := in_nat (by decide) (by decide) h5889
    refine g_if_ne (pc1 := 9) (tgt := 11) d_Mod_hold_6 (by decide) rfl (fun _ => ?_) (fun h => absurd h (by decide))
    refine g_aload_n (pc1 := 12) d_Mod_hold_11 rfl 0 rfl ?_
    refine g_getr (pc1 := 15) d_Mod_hold_12 rfl ⟨_, fo_Mod_149⟩ sh_401 (by decide) (rf_401_69 ld) ?_
    refine g_iload_n (pc1 := 16) d_Mod_hold_15 rfl 1 rfl ?_
    refine g_iconst (pc1 := 17) (v := nI 1) d_Mod_hold_16 rfl (by decide) ?_
    refine g_zast (pc1 := 18) d_Mod_hold_17 rfl sh_445 (by decide) (vp_in_nI (n := q5890) (by omega) (by decide)) ?_
    rw [nI_clamp (n := q5890) (by omega)]
    refine Wp.topM (fun M5893 eM5893 => ?_)
    refine g_iconst (pc1 := 19) (v := nI 0) d_Mod_hold_18 rfl (by decide) ?_
    refine g_istore_n (pc1 := 20) (lv' := [(0, .ref 401), (1, .int (nI q5890)), (2, .int (nI 0))]) d_Mod_hold_19 rfl rfl (by decide) [1, 2, 0] rfl ?_
    have LP5897 : ∀ (f5894 k5895 : Nat), k5895 ≤ 38 → 38 - k5895 < f5894 → Wp l y_Mod_hold (0, 0, 447) 447 0 0 20 [(0, .ref 401), (1, .int (nI q5890)), (2, .int (nI k5895))] [] (fl M5893 446 (38 * q5890) k5895 (M 436)) L (rf ld) Q := by
      intro f5894
      induction f5894 with
      | zero => intro k5895 _ hm; exact absurd hm (Nat.not_lt_zero _)
      | succ f5894 ih5896 =>
        intro k5895 hkk5895 hmk5895
        refine Wp.topM (fun M5898 eM5898 => ?_)
        refine g_iload_n (pc1 := 21) d_Mod_hold_20 rfl 2 rfl ?_
        refine g_bipush (pc1 := 23) (v := nI 38) d_Mod_hold_21 rfl (by decide) ?_
        refine g_icmp_ge (pc1 := 26) (tgt := 49) d_Mod_hold_23 (by decide) rfl (fun h5899 => ?_) (fun h5899 => ?_)
        · have nh5899 : (38 : Nat) ≤ (k5895 : Nat) := (nI_leI (a := (38 : Nat)) (b := (k5895 : Nat)) (by omega) (by omega)).mp h5899
          have ekk5895 : k5895 = 38 := by omega
          rw [ekk5895] at eM5898
          refine g_iconst (pc1 := 50) (v := nI 1) d_Mod_hold_49 rfl (by decide) ?_
          refine g_ireturn (Or.inr ⟨rfl, rfl⟩) d_Mod_hold_50 rfl ?_
          rw [eM5898, eM5893]
          exact hQ1 q5890 h5889b rfl
        · have nh5899 : ¬ (38 : Nat) ≤ (k5895 : Nat) := fun q => h5899 ((nI_leI (a := (38 : Nat)) (b := (k5895 : Nat)) (by omega) (by omega)).mpr q)
          refine g_aload_n (pc1 := 27) d_Mod_hold_26 rfl 0 rfl ?_
          refine g_getr (pc1 := 30) d_Mod_hold_27 rfl ⟨_, fo_Mod_152⟩ sh_401 (by decide) (rf_401_70 ld) ?_
          refine g_bipush (pc1 := 32) (v := nI 38) d_Mod_hold_30 rfl (by decide) ?_
          refine g_iload_n (pc1 := 33) d_Mod_hold_32 rfl 1 rfl ?_
          refine g_imul (pc1 := 34) d_Mod_hold_33 rfl ?_
          refine Wp.vali (y := nI (38 * q5890)) (nI_mul _ _) ?_
          refine g_iload_n (pc1 := 35) d_Mod_hold_34 rfl 2 rfl ?_
          refine g_iadd (pc1 := 36) d_Mod_hold_35 rfl ?_
          refine Wp.vali (y := nI ((38 * q5890) + k5895)) (nI_add _ _) ?_
          refine g_aload_n (pc1 := 37) d_Mod_hold_36 rfl 0 rfl ?_
          refine g_getr (pc1 := 40) d_Mod_hold_37 rfl ⟨_, fo_Mod_122⟩ sh_401 (by decide) (rf_401_52 ld) ?_
          refine g_iload_n (pc1 := 41) d_Mod_hold_40 rfl 2 rfl ?_
          refine g_iald (pc1 := 42) d_Mod_hold_41 rfl sh_436 (by decide) (vp_in_nI (n := k5895) (by omega) (by decide)) ?_
          rw [nI_clamp (n := k5895) (by omega)]
          refine Wp.vali (y := M 436 k5895) ((flE_ne eM5898 (fun q => absurd q.1 (by decide))).trans (rd_ne eM5893 (fun q => absurd q.1 (by decide)))) ?_
          refine g_iast (pc1 := 43) d_Mod_hold_42 rfl sh_446 (by decide) (vp_in_nI (n := (38 * q5890) + k5895) (by omega) (by decide)) ?_
          rw [nI_clamp (n := (38 * q5890) + k5895) (by omega)]
          refine Wp.topM (fun M5900 eM5900 => ?_)
          refine g_iinc (pc1 := 46) (v := nI (k5895 + 1)) (lv' := [(0, .ref 401), (1, .int (nI q5890)), (2, .int (nI (k5895 + 1)))]) d_Mod_hold_43 rfl 2 rfl (nI_1 _) (by decide) [1, 2, 0] rfl ?_
          refine g_goto (tgt := 20) d_Mod_hold_46 (by decide) ?_
          refine Wp.eqM (show M5900 = fl M5893 446 (38 * q5890) (k5895 + 1) (M 436) from by rw [eM5900, eM5898]; exact fl_s (by omega) rfl) ?_
          exact ih5896 (k5895 + 1) (by omega) (by omega)
    refine Wp.eqM (fl_0 (a := 446) (o := 38 * q5890) (v := (M 436))).symm ?_
    exact LP5897 _ 0 (by omega) (Nat.lt_succ_self _)
set_option maxHeartbeats 4000000 in
set_option maxRecDepth 20000 in
theorem x_Mod_restore {l : Launch} {ld : Nat} {M : gM} {L : gL} {Q : Option Value → gM → gL → gR → Prop} (hld : isLa ld) {p0 : Int32} (hQ0 : ¬ ((nI 0).toInt ≤ (p0 : Int32).toInt ∧ (p0 : Int32).toInt ≤ (nI 2).toInt) ∨ (∃ q, q ≤ 2 ∧ p0 = nI q ∧ M 445 q = 0) → Q (some (.int 0)) M L (rf ld)) (hQ1 : ∀ q, q ≤ 2 → p0 = nI q → ¬ M 445 q = 0 → Q (some (.int 1)) (uM (fl M 436 0 38 (fun k => M 446 (38 * q + k))) 401 57 (nI 0)) L (rf ld)) : Tm l y_Mod_restore (0, 0, 447) 447 [.ref 401, .int p0] M L (rf ld) Q := by
  refine Tm.of (by decide) (Nat.le_of_ble_eq_true rfl) ?_
  show Wp l y_Mod_restore (0, 0, 447) 447 0 0 0 [(0, .ref 401), (1, .int p0)] [] M L (rf ld) Q
  refine g_iload_n (pc1 := 1) d_Mod_restore_0 rfl 1 rfl ?_
  refine g_iconst (pc1 := 2) (v := nI 0) d_Mod_restore_1 rfl (by decide) ?_
  refine g_iconst (pc1 := 3) (v := nI 2) d_Mod_restore_2 rfl (by decide) ?_
  refine g_callS0 (pc1 := 6) (As := [.int p0, .int (nI 0), .int (nI 2)]) (rest := []) d_Mod_restore_3 rfl mo_Mod_316 ms_Mod_in (by decide) rfl rfl (Nat.le_of_ble_eq_true rfl) ?_
  refine t2_Mod_in hld (p0) (nI 0) (nI 2) (fun r5901 hbr5901 => ?_)
  dsimp only [psh]
  rcases hbr5901 with ⟨rfl, h5902⟩ | ⟨rfl, h5902⟩
  · skip
    refine g_if_eq (pc1 := 9) (tgt := 18) d_Mod_restore_6 (by decide) rfl (fun _ => ?_) (fun h => absurd h (by decide))
    refine g_iconst (pc1 := 19) (v := nI 0) d_Mod_restore_18 rfl (by decide) ?_
    refine g_ireturn (Or.inr ⟨rfl, rfl⟩) d_Mod_restore_19 rfl ?_
    exact hQ0 (Or.inl h5902)
  · obtain ⟨q5903, h5902b, h5902a, rfl⟩ := in_nat (by decide) (by decide) h5902
    refine g_if_eq (pc1 := 9) (tgt := 18) d_Mod_restore_6 (by decide) rfl (fun h => absurd h (by decide)) (fun _ => ?_)
    refine g_aload_n (pc1 := 10) d_Mod_restore_9 rfl 0 rfl ?_
    refine g_getr (pc1 := 13) d_Mod_restore_10 rfl ⟨_, fo_Mod_149⟩ sh_401 (by decide) (rf_401_69 ld) ?_
    refine g_iload_n (pc1 := 14) d_Mod_restore_13 rfl 1 rfl ?_
    refine g_zald (pc1 := 15) d_Mod_restore_14 rfl sh_445 (by decide) (vp_in_nI (n := q5903) (by omega) (by decide)) ?_
    rw [nI_clamp (n := q5903) (by omega)]
    refine g_if_ne (pc1 := 18) (tgt := 20) d_Mod_restore_15 (by decide) rfl (fun h5906 => ?_) (fun h5906 => ?_)
    · refine g_iconst (pc1 := 21) (v := nI 0) d_Mod_restore_20 rfl (by decide) ?_
      refine g_istore_n (pc1 := 22) (lv' := [(0, .ref 401), (1, .int (nI q5903)), (2, .int (nI 0))]) d_Mod_restore_21 rfl rfl (by decide) [1, 2, 0] rfl ?_
      have LP5910 : ∀ (f5907 k5908 : Nat), k5908 ≤ 38 → 38 - k5908 < f5907 → Wp l y_Mod_restore (0, 0, 447) 447 0 0 22 [(0, .ref 401), (1, .int (nI q5903)), (2, .int (nI k5908))] [] (fl M 436 (0) k5908 (fun k => M 446 (38 * q5903 + k))) L (rf ld) Q := by
        intro f5907
        induction f5907 with
        | zero => intro k5908 _ hm; exact absurd hm (Nat.not_lt_zero _)
        | succ f5907 ih5909 =>
          intro k5908 hkk5908 hmk5908
          refine Wp.topM (fun M5911 eM5911 => ?_)
          refine g_iload_n (pc1 := 23) d_Mod_restore_22 rfl 2 rfl ?_
          refine g_bipush (pc1 := 25) (v := nI 38) d_Mod_restore_23 rfl (by decide) ?_
          refine g_icmp_ge (pc1 := 28) (tgt := 51) d_Mod_restore_25 (by decide) rfl (fun h5912 => ?_) (fun h5912 => ?_)
          · have nh5912 : (38 : Nat) ≤ (k5908 : Nat) := (nI_leI (a := (38 : Nat)) (b := (k5908 : Nat)) (by omega) (by omega)).mp h5912
            have ekk5908 : k5908 = 38 := by omega
            rw [ekk5908] at eM5911
            refine g_aload_n (pc1 := 52) d_Mod_restore_51 rfl 0 rfl ?_
            refine g_iconst (pc1 := 53) (v := nI 0) d_Mod_restore_52 rfl (by decide) ?_
            refine g_puti (pc1 := 56) d_Mod_restore_53 rfl fo_Mod_254 (po_12_57 _) sh_401 (by decide) ?_
            refine Wp.topM (fun M5913 eM5913 => ?_)
            refine g_iconst (pc1 := 57) (v := nI 1) d_Mod_restore_56 rfl (by decide) ?_
            refine g_ireturn (Or.inr ⟨rfl, rfl⟩) d_Mod_restore_57 rfl ?_
            rw [eM5913, eM5911]
            exact hQ1 q5903 h5902b rfl ‹_›
          · have nh5912 : ¬ (38 : Nat) ≤ (k5908 : Nat) := fun q => h5912 ((nI_leI (a := (38 : Nat)) (b := (k5908 : Nat)) (by omega) (by omega)).mpr q)
            refine g_aload_n (pc1 := 29) d_Mod_restore_28 rfl 0 rfl ?_
            refine g_getr (pc1 := 32) d_Mod_restore_29 rfl ⟨_, fo_Mod_122⟩ sh_401 (by decide) (rf_401_52 ld) ?_
            refine g_iload_n (pc1 := 33) d_Mod_restore_32 rfl 2 rfl ?_
            refine g_aload_n (pc1 := 34) d_Mod_restore_33 rfl 0 rfl ?_
            refine g_getr (pc1 := 37) d_Mod_restore_34 rfl ⟨_, fo_Mod_152⟩ sh_401 (by decide) (rf_401_70 ld) ?_
            refine g_bipush (pc1 := 39) (v := nI 38) d_Mod_restore_37 rfl (by decide) ?_
            refine g_iload_n (pc1 := 40) d_Mod_restore_39 rfl 1 rfl ?_
            refine g_imul (pc1 := 41) d_Mod_restore_40 rfl ?_
            refine Wp.vali (y := nI (38 * q5903)) (nI_mul _ _) ?_
            refine g_iload_n (pc1 := 42) d_Mod_restore_41 rfl 2 rfl ?_
            refine g_iadd (pc1 := 43) d_Mod_restore_42 rfl ?_
            refine Wp.vali (y := nI ((38 * q5903) + k5908)) (nI_add _ _) ?_
            refine g_iald (pc1 := 44) d_Mod_restore_43 rfl sh_446 (by decide) (vp_in_nI (n := (38 * q5903) + k5908) (by omega) (by decide)) ?_
            rw [nI_clamp (n := (38 * q5903) + k5908) (by omega)]
            refine Wp.vali (y := M 446 ((38 * q5903) + k5908)) (flE_ne eM5911 (fun q => absurd q.1 (by decide))) ?_
            refine g_iast (pc1 := 45) d_Mod_restore_44 rfl sh_436 (by decide) (vp_in_nI (n := k5908) (by omega) (by decide)) ?_
            rw [nI_clamp (n := k5908) (by omega)]
            refine Wp.topM (fun M5914 eM5914 => ?_)
            refine g_iinc (pc1 := 48) (v := nI (k5908 + 1)) (lv' := [(0, .ref 401), (1, .int (nI q5903)), (2, .int (nI (k5908 + 1)))]) d_Mod_restore_45 rfl 2 rfl (nI_1 _) (by decide) [1, 2, 0] rfl ?_
            refine g_goto (tgt := 22) d_Mod_restore_48 (by decide) ?_
            refine Wp.eqM (show M5914 = fl M 436 (0) (k5908 + 1) (fun k => M 446 (38 * q5903 + k)) from by rw [eM5914, eM5911]; exact fl_s (by omega) rfl) ?_
            exact ih5909 (k5908 + 1) (by omega) (by omega)
      refine Wp.eqM (fl_0 (a := 436) (o := 0) (v := (fun k => M 446 (38 * q5903 + k)))).symm ?_
      exact LP5910 _ 0 (by omega) (Nat.lt_succ_self _)
    · refine g_iconst (pc1 := 19) (v := nI 0) d_Mod_restore_18 rfl (by decide) ?_
      refine g_ireturn (Or.inr ⟨rfl, rfl⟩) d_Mod_restore_19 rfl ?_
      exact hQ0 (Or.inr ⟨q5903, h5902b, rfl, ‹_›⟩)
set_option maxHeartbeats 4000000 in
set_option maxRecDepth 20000 in
theorem x_Mod_records {l : Launch} {ld : Nat} {M : gM} {L : gL} {Q : Option Value → gM → gL → gR → Prop} {u : Nat} (hu : M 401 57 = nI u) (hu40 : u ≤ 40) (hQ0 : ¬ u = 40 → Q none (fl (uM (fl (M) 440 (38 * u) 38 (M 436)) 401 57 (nI (u + 1))) 436 0 38 (M 437)) L (rf ld)) (hQ1 : u = 40 → Q none (fl (uM (fl (uM (fl M 440 0 1482 (fun k => M 440 (k + 38))) 401 57 (nI (u - 1))) 440 (38 * (u - 1)) 38 (M 436)) 401 57 (nI ((u - 1) + 1))) 436 0 38 (M 437)) L (rf ld)) : Tm l y_Mod_records (0, 0, 447) 447 [.ref 401] M L (rf ld) Q := by
  refine Tm.of (by decide) (Nat.le_of_ble_eq_true rfl) ?_
  show Wp l y_Mod_records (0, 0, 447) 447 0 0 0 [(0, .ref 401)] [] M L (rf ld) Q
  refine g_aload_n (pc1 := 1) d_Mod_records_0 rfl 0 rfl ?_
  refine g_geti (pc1 := 4) d_Mod_records_1 rfl ⟨_, fo_Mod_254⟩ sh_401 (by decide) ?_
  refine Wp.vali (y := nI u) hu ?_
  refine g_bipush (pc1 := 6) (v := nI 40) d_Mod_records_4 rfl (by decide) ?_
  refine g_icmp_ne (pc1 := 9) (tgt := 49) d_Mod_records_6 (by decide) rfl (fun h5915 => ?_) (fun h5915 => ?_)
  · have nh5915 : ¬ (u : Nat) = (40 : Nat) := fun q => h5915 ((nI_eq (a := (u : Nat)) (b := (40 : Nat)) (by omega) (by omega)).mpr q)
    refine g_iconst (pc1 := 50) (v := nI 0) d_Mod_records_49 rfl (by decide) ?_
    refine g_istore_n (pc1 := 51) (lv' := [(0, .ref 401), (1, .int (nI 0))]) d_Mod_records_50 rfl rfl (by decide) [1, 0] rfl ?_
    have LP5919 : ∀ (f5916 k5917 : Nat), k5917 ≤ 38 → 38 - k5917 < f5916 → Wp l y_Mod_records (0, 0, 447) 447 0 0 51 [(0, .ref 401), (1, .int (nI k5917))] [] (fl M 440 (38 * u) k5917 (M 436)) L (rf ld) Q := by
      intro f5916
      induction f5916 with
      | zero => intro k5917 _ hm; exact absurd hm (Nat.not_lt_zero _)
      | succ f5916 ih5918 =>
        intro k5917 hkk5917 hmk5917
        refine Wp.topM (fun M5920 eM5920 => ?_)
        refine g_iload_n (pc1 := 52) d_Mod_records_51 rfl 1 rfl ?_
        refine g_bipush (pc1 := 54) (v := nI 38) d_Mod_records_52 rfl (by decide) ?_
        refine g_icmp_ge (pc1 := 57) (tgt := 83) d_Mod_records_54 (by decide) rfl (fun h5921 => ?_) (fun h5921 => ?_)
        · have nh5921 : (38 : Nat) ≤ (k5917 : Nat) := (nI_leI (a := (38 : Nat)) (b := (k5917 : Nat)) (by omega) (by omega)).mp h5921
          have ekk5917 : k5917 = 38 := by omega
          rw [ekk5917] at eM5920
          refine g_aload_n (pc1 := 84) d_Mod_records_83 rfl 0 rfl ?_
          refine g_dup (pc1 := 85) d_Mod_records_84 rfl rfl ?_
          refine g_geti (pc1 := 88) d_Mod_records_85 rfl ⟨_, fo_Mod_254⟩ sh_401 (by decide) ?_
          refine Wp.vali (y := nI u) ((flE_ne eM5920 (fun q => absurd q.1 (by decide))).trans hu) ?_
          refine g_iconst (pc1 := 89) (v := nI 1) d_Mod_records_88 rfl (by decide) ?_
          refine g_iadd (pc1 := 90) d_Mod_records_89 rfl ?_
          refine Wp.vali (y := nI (u + 1)) (nI_add _ _) ?_
          refine g_puti (pc1 := 93) d_Mod_records_90 rfl fo_Mod_254 (po_12_57 _) sh_401 (by decide) ?_
          refine Wp.topM (fun M5922 eM5922 => ?_)
          refine g_aload_n (pc1 := 94) d_Mod_records_93 rfl 0 rfl ?_
          refine g_callV0 (pc1 := 97) (As := []) (rest := []) d_Mod_records_94 rfl mo_Mod_166 mi_Mod_keepsRow mv_Mod_keepsRow rfl sh_401 (by decide) (by decide) rfl rfl (Nat.le_of_ble_eq_true rfl) ?_
          refine x_Mod_keepsRow ?_
          dsimp only [psh]
          refine Wp.topM (fun M5923 eM5923 => ?_)
          refine g_return rfl d_Mod_records_97 rfl ?_
          rw [eM5923, eM5922, eM5920]
          exact hQ0 (by omega)
        · have nh5921 : ¬ (38 : Nat) ≤ (k5917 : Nat) := fun q => h5921 ((nI_leI (a := (38 : Nat)) (b := (k5917 : Nat)) (by omega) (by omega)).mpr q)
          refine g_aload_n (pc1 := 58) d_Mod_records_57 rfl 0 rfl ?_
          refine g_getr (pc1 := 61) d_Mod_records_58 rfl ⟨_, fo_Mod_134⟩ sh_401 (by decide) (rf_401_58 ld) ?_
          refine g_bipush (pc1 := 63) (v := nI 38) d_Mod_records_61 rfl (by decide) ?_
          refine g_aload_n (pc1 := 64) d_Mod_records_63 rfl 0 rfl ?_
          refine g_geti (pc1 := 67) d_Mod_records_64 rfl ⟨_, fo_Mod_254⟩ sh_401 (by decide) ?_
          refine Wp.vali (y := nI u) ((flE_ne eM5920 (fun q => absurd q.1 (by decide))).trans hu) ?_
          refine g_imul (pc1 := 68) d_Mod_records_67 rfl ?_
          refine Wp.vali (y := nI (38 * u)) (nI_mul _ _) ?_
          refine g_iload_n (pc1 := 69) d_Mod_records_68 rfl 1 rfl ?_
          refine g_iadd (pc1 := 70) d_Mod_records_69 rfl ?_
          refine Wp.vali (y := nI ((38 * u) + k5917)) (nI_add _ _) ?_
          refine g_aload_n (pc1 := 71) d_Mod_records_70 rfl 0 rfl ?_
          refine g_getr (pc1 := 74) d_Mod_records_71 rfl ⟨_, fo_Mod_122⟩ sh_401 (by decide) (rf_401_52 ld) ?_
          refine g_iload_n (pc1 := 75) d_Mod_records_74 rfl 1 rfl ?_
          refine g_iald (pc1 := 76) d_Mod_records_75 rfl sh_436 (by decide) (vp_in_nI (n := k5917) (by omega) (by decide)) ?_
          rw [nI_clamp (n := k5917) (by omega)]
          refine Wp.vali (y := M 436 k5917) (flE_ne eM5920 (fun q => absurd q.1 (by decide))) ?_
          refine g_iast (pc1 := 77) d_Mod_records_76 rfl sh_440 (by decide) (vp_in_nI (n := (38 * u) + k5917) (by omega) (by decide)) ?_
          rw [nI_clamp (n := (38 * u) + k5917) (by omega)]
          refine Wp.topM (fun M5924 eM5924 => ?_)
          refine g_iinc (pc1 := 80) (v := nI (k5917 + 1)) (lv' := [(0, .ref 401), (1, .int (nI (k5917 + 1)))]) d_Mod_records_77 rfl 1 rfl (nI_1 _) (by decide) [1, 0] rfl ?_
          refine g_goto (tgt := 51) d_Mod_records_80 (by decide) ?_
          refine Wp.eqM (show M5924 = fl M 440 (38 * u) (k5917 + 1) (M 436) from by rw [eM5924, eM5920]; exact fl_s (by omega) rfl) ?_
          exact ih5918 (k5917 + 1) (by omega) (by omega)
    refine Wp.eqM (fl_0 (a := 440) (o := 38 * u) (v := (M 436))).symm ?_
    exact LP5919 _ 0 (by omega) (Nat.lt_succ_self _)
  · have nh5915 : (u : Nat) = (40 : Nat) := (nI_eq (a := (u : Nat)) (b := (40 : Nat)) (by omega) (by omega)).mp h5915
    refine g_iconst (pc1 := 10) (v := nI 0) d_Mod_records_9 rfl (by decide) ?_
    refine g_istore_n (pc1 := 11) (lv' := [(0, .ref 401), (1, .int (nI 0))]) d_Mod_records_10 rfl rfl (by decide) [1, 0] rfl ?_
    have LP5928 : ∀ (f5925 k5926 : Nat), k5926 ≤ 1482 → 1482 - k5926 < f5925 → Wp l y_Mod_records (0, 0, 447) 447 0 0 11 [(0, .ref 401), (1, .int (nI k5926))] [] (fl M 440 (0) k5926 (fun k => M 440 (k + 38))) L (rf ld) Q := by
      intro f5925
      induction f5925 with
      | zero => intro k5926 _ hm; exact absurd hm (Nat.not_lt_zero _)
      | succ f5925 ih5927 =>
        intro k5926 hkk5926 hmk5926
        refine Wp.topM (fun M5929 eM5929 => ?_)
        refine g_iload_n (pc1 := 12) d_Mod_records_11 rfl 1 rfl ?_
        refine g_sipush (pc1 := 15) (v := nI 1482) d_Mod_records_12 rfl (by decide) ?_
        refine g_icmp_ge (pc1 := 18) (tgt := 39) d_Mod_records_15 (by decide) rfl (fun h5930 => ?_) (fun h5930 => ?_)
        · have nh5930 : (1482 : Nat) ≤ (k5926 : Nat) := (nI_leI (a := (1482 : Nat)) (b := (k5926 : Nat)) (by omega) (by omega)).mp h5930
          have ekk5926 : k5926 = 1482 := by omega
          rw [ekk5926] at eM5929
          refine g_aload_n (pc1 := 40) d_Mod_records_39 rfl 0 rfl ?_
          refine g_dup (pc1 := 41) d_Mod_records_40 rfl rfl ?_
          refine g_geti (pc1 := 44) d_Mod_records_41 rfl ⟨_, fo_Mod_254⟩ sh_401 (by decide) ?_
          refine Wp.vali (y := nI u) ((flE_ne eM5929 (fun q => absurd q.1 (by decide))).trans hu) ?_
          refine g_iconst (pc1 := 45) (v := nI 1) d_Mod_records_44 rfl (by decide) ?_
          refine g_isub (pc1 := 46) d_Mod_records_45 rfl ?_
          refine Wp.vali (y := nI (u - 1)) (nI_sub (by omega)) ?_
          refine g_puti (pc1 := 49) d_Mod_records_46 rfl fo_Mod_254 (po_12_57 _) sh_401 (by decide) ?_
          refine Wp.topM (fun M5931 eM5931 => ?_)
          refine g_iconst (pc1 := 50) (v := nI 0) d_Mod_records_49 rfl (by decide) ?_
          refine g_istore_n (pc1 := 51) (lv' := [(0, .ref 401), (1, .int (nI 0))]) d_Mod_records_50 rfl rfl (by decide) [1, 0] rfl ?_
          have LP5935 : ∀ (f5932 k5933 : Nat), k5933 ≤ 38 → 38 - k5933 < f5932 → Wp l y_Mod_records (0, 0, 447) 447 0 0 51 [(0, .ref 401), (1, .int (nI k5933))] [] (fl M5931 440 (38 * (u - 1)) k5933 (M 436)) L (rf ld) Q := by
            intro f5932
            induction f5932 with
            | zero => intro k5933 _ hm; exact absurd hm (Nat.not_lt_zero _)
            | succ f5932 ih5934 =>
              intro k5933 hkk5933 hmk5933
              refine Wp.topM (fun M5936 eM5936 => ?_)
              refine g_iload_n (pc1 := 52) d_Mod_records_51 rfl 1 rfl ?_
              refine g_bipush (pc1 := 54) (v := nI 38) d_Mod_records_52 rfl (by decide) ?_
              refine g_icmp_ge (pc1 := 57) (tgt := 83) d_Mod_records_54 (by decide) rfl (fun h5937 => ?_) (fun h5937 => ?_)
              · have nh5937 : (38 : Nat) ≤ (k5933 : Nat) := (nI_leI (a := (38 : Nat)) (b := (k5933 : Nat)) (by omega) (by omega)).mp h5937
                have ekk5933 : k5933 = 38 := by omega
                rw [ekk5933] at eM5936
                refine g_aload_n (pc1 := 84) d_Mod_records_83 rfl 0 rfl ?_
                refine g_dup (pc1 := 85) d_Mod_records_84 rfl rfl ?_
                refine g_geti (pc1 := 88) d_Mod_records_85 rfl ⟨_, fo_Mod_254⟩ sh_401 (by decide) ?_
                refine Wp.vali (y := nI (u - 1)) ((flE_ne eM5936 (fun q => absurd q.1 (by decide))).trans (rdn_eq eM5931 rfl)) ?_
                refine g_iconst (pc1 := 89) (v := nI 1) d_Mod_records_88 rfl (by decide) ?_
                refine g_iadd (pc1 := 90) d_Mod_records_89 rfl ?_
                refine Wp.vali (y := nI ((u - 1) + 1)) (nI_add _ _) ?_
                refine g_puti (pc1 := 93) d_Mod_records_90 rfl fo_Mod_254 (po_12_57 _) sh_401 (by decide) ?_
                refine Wp.topM (fun M5938 eM5938 => ?_)
                refine g_aload_n (pc1 := 94) d_Mod_records_93 rfl 0 rfl ?_
                refine g_callV0 (pc1 := 97) (As := []) (rest := []) d_Mod_records_94 rfl mo_Mod_166 mi_Mod_keepsRow mv_Mod_keepsRow rfl sh_401 (by decide) (by decide) rfl rfl (Nat.le_of_ble_eq_true rfl) ?_
                refine x_Mod_keepsRow ?_
                dsimp only [psh]
                refine Wp.topM (fun M5939 eM5939 => ?_)
                refine g_return rfl d_Mod_records_97 rfl ?_
                rw [eM5939, eM5938, eM5936, eM5931, eM5929]
                exact hQ1 (by omega)
              · have nh5937 : ¬ (38 : Nat) ≤ (k5933 : Nat) := fun q => h5937 ((nI_leI (a := (38 : Nat)) (b := (k5933 : Nat)) (by omega) (by omega)).mpr q)
                refine g_aload_n (pc1 := 58) d_Mod_records_57 rfl 0 rfl ?_
                refine g_getr (pc1 := 61) d_Mod_records_58 rfl ⟨_, fo_Mod_134⟩ sh_401 (by decide) (rf_401_58 ld) ?_
                refine g_bipush (pc1 := 63) (v := nI 38) d_Mod_records_61 rfl (by decide) ?_
                refine g_aload_n (pc1 := 64) d_Mod_records_63 rfl 0 rfl ?_
                refine g_geti (pc1 := 67) d_Mod_records_64 rfl ⟨_, fo_Mod_254⟩ sh_401 (by decide) ?_
                refine Wp.vali (y := nI (u - 1)) ((flE_ne eM5936 (fun q => absurd q.1 (by decide))).trans (rdn_eq eM5931 rfl)) ?_
                refine g_imul (pc1 := 68) d_Mod_records_67 rfl ?_
                refine Wp.vali (y := nI (38 * (u - 1))) (nI_mul _ _) ?_
                refine g_iload_n (pc1 := 69) d_Mod_records_68 rfl 1 rfl ?_
                refine g_iadd (pc1 := 70) d_Mod_records_69 rfl ?_
                refine Wp.vali (y := nI ((38 * (u - 1)) + k5933)) (nI_add _ _) ?_
                refine g_aload_n (pc1 := 71) d_Mod_records_70 rfl 0 rfl ?_
                refine g_getr (pc1 := 74) d_Mod_records_71 rfl ⟨_, fo_Mod_122⟩ sh_401 (by decide) (rf_401_52 ld) ?_
                refine g_iload_n (pc1 := 75) d_Mod_records_74 rfl 1 rfl ?_
                refine g_iald (pc1 := 76) d_Mod_records_75 rfl sh_436 (by decide) (vp_in_nI (n := k5933) (by omega) (by decide)) ?_
                rw [nI_clamp (n := k5933) (by omega)]
                refine Wp.vali (y := M 436 k5933) (((flE_ne eM5936 (fun q => absurd q.1 (by decide))).trans (rd_ne eM5931 (fun q => absurd q.1 (by decide)))).trans (flE_ne eM5929 (fun q => absurd q.1 (by decide)))) ?_
                refine g_iast (pc1 := 77) d_Mod_records_76 rfl sh_440 (by decide) (vp_in_nI (n := (38 * (u - 1)) + k5933) (by omega) (by decide)) ?_
                rw [nI_clamp (n := (38 * (u - 1)) + k5933) (by omega)]
                refine Wp.topM (fun M5940 eM5940 => ?_)
                refine g_iinc (pc1 := 80) (v := nI (k5933 + 1)) (lv' := [(0, .ref 401), (1, .int (nI (k5933 + 1)))]) d_Mod_records_77 rfl 1 rfl (nI_1 _) (by decide) [1, 0] rfl ?_
                refine g_goto (tgt := 51) d_Mod_records_80 (by decide) ?_
                refine Wp.eqM (show M5940 = fl M5931 440 (38 * (u - 1)) (k5933 + 1) (M 436) from by rw [eM5940, eM5936]; exact fl_s (by omega) rfl) ?_
                exact ih5934 (k5933 + 1) (by omega) (by omega)
          refine Wp.eqM (fl_0 (a := 440) (o := 38 * (u - 1)) (v := (M 436))).symm ?_
          exact LP5935 _ 0 (by omega) (Nat.lt_succ_self _)
        · have nh5930 : ¬ (1482 : Nat) ≤ (k5926 : Nat) := fun q => h5930 ((nI_leI (a := (1482 : Nat)) (b := (k5926 : Nat)) (by omega) (by omega)).mpr q)
          refine g_aload_n (pc1 := 19) d_Mod_records_18 rfl 0 rfl ?_
          refine g_getr (pc1 := 22) d_Mod_records_19 rfl ⟨_, fo_Mod_134⟩ sh_401 (by decide) (rf_401_58 ld) ?_
          refine g_iload_n (pc1 := 23) d_Mod_records_22 rfl 1 rfl ?_
          refine g_aload_n (pc1 := 24) d_Mod_records_23 rfl 0 rfl ?_
          refine g_getr (pc1 := 27) d_Mod_records_24 rfl ⟨_, fo_Mod_134⟩ sh_401 (by decide) (rf_401_58 ld) ?_
          refine g_iload_n (pc1 := 28) d_Mod_records_27 rfl 1 rfl ?_
          refine g_bipush (pc1 := 30) (v := nI 38) d_Mod_records_28 rfl (by decide) ?_
          refine g_iadd (pc1 := 31) d_Mod_records_30 rfl ?_
          refine Wp.vali (y := nI (k5926 + 38)) (nI_add _ _) ?_
          refine g_iald (pc1 := 32) d_Mod_records_31 rfl sh_440 (by decide) (vp_in_nI (n := k5926 + 38) (by omega) (by decide)) ?_
          rw [nI_clamp (n := k5926 + 38) (by omega)]
          refine Wp.vali (y := M 440 (k5926 + 38)) (flE_ne eM5929 (fun q => by omega)) ?_
          refine g_iast (pc1 := 33) d_Mod_records_32 rfl sh_440 (by decide) (vp_in_nI (n := k5926) (by omega) (by decide)) ?_
          rw [nI_clamp (n := k5926) (by omega)]
          refine Wp.topM (fun M5941 eM5941 => ?_)
          refine g_iinc (pc1 := 36) (v := nI (k5926 + 1)) (lv' := [(0, .ref 401), (1, .int (nI (k5926 + 1)))]) d_Mod_records_33 rfl 1 rfl (nI_1 _) (by decide) [1, 0] rfl ?_
          refine g_goto (tgt := 11) d_Mod_records_36 (by decide) ?_
          refine Wp.eqM (show M5941 = fl M 440 (0) (k5926 + 1) (fun k => M 440 (k + 38)) from by rw [eM5941, eM5929]; exact fl_s (by omega) rfl) ?_
          exact ih5927 (k5926 + 1) (by omega) (by omega)
    refine Wp.eqM (fl_0 (a := 440) (o := 0) (v := (fun k => M 440 (k + 38)))).symm ?_
    exact LP5928 _ 0 (by omega) (Nat.lt_succ_self _)
set_option maxHeartbeats 4000000 in
set_option maxRecDepth 20000 in
theorem x_Mod_forget {l : Launch} {ld : Nat} {M : gM} {L : gL} {Q : Option Value → gM → gL → gR → Prop} {n : Nat} (hn : M 401 64 = nI n) (hQ : Q (some (.int (nI n))) (uM M 401 64 (nI 0)) L (rf ld)) : Tm l y_Mod_forget (0, 0, 447) 447 [.ref 401] M L (rf ld) Q := by
  refine Tm.of (by decide) (Nat.le_of_ble_eq_true rfl) ?_
  show Wp l y_Mod_forget (0, 0, 447) 447 0 0 0 [(0, .ref 401)] [] M L (rf ld) Q
  refine g_aload_n (pc1 := 1) d_Mod_forget_0 rfl 0 rfl ?_
  refine g_geti (pc1 := 4) d_Mod_forget_1 rfl ⟨_, fo_Mod_257⟩ sh_401 (by decide) ?_
  refine Wp.vali (y := nI n) hn ?_
  refine g_istore_n (pc1 := 5) (lv' := [(0, .ref 401), (1, .int (nI n))]) d_Mod_forget_4 rfl rfl (by decide) [1, 0] rfl ?_
  refine g_aload_n (pc1 := 6) d_Mod_forget_5 rfl 0 rfl ?_
  refine g_iconst (pc1 := 7) (v := nI 0) d_Mod_forget_6 rfl (by decide) ?_
  refine g_puti (pc1 := 10) d_Mod_forget_7 rfl fo_Mod_257 (po_12_64 _) sh_401 (by decide) ?_
  refine Wp.topM (fun M5942 eM5942 => ?_)
  refine g_iload_n (pc1 := 11) d_Mod_forget_10 rfl 1 rfl ?_
  refine g_ireturn (Or.inl rfl) d_Mod_forget_11 rfl ?_
  rw [eM5942]
  exact hQ
set_option maxHeartbeats 4000000 in
set_option maxRecDepth 20000 in
theorem x_Mod_tell {l : Launch} {ld : Nat} {M : gM} {L : gL} {Q : Option Value → gM → gL → gR → Prop} (hld : isLa ld) {p0 p1 p2 : Int32} {n : Nat} (hn : M 401 64 = nI n) (hn20 : n ≤ 20) (hQ0 : ¬ (n < 20 ∧ ((nI 0).toInt ≤ (p0 : Int32).toInt ∧ (p0 : Int32).toInt ≤ (nI 2).toInt) ∧ ((nI 0).toInt ≤ (p1 : Int32).toInt ∧ (p1 : Int32).toInt ≤ (nI 9).toInt) ∧ ((nI 0).toInt ≤ (p2 : Int32).toInt ∧ (p2 : Int32).toInt ≤ (nI 99).toInt)) → Q (some (.int (-1))) M L (rf ld)) (hQ1 : ∀ a b c, n < 20 → a ≤ 2 → b ≤ 9 → c ≤ 99 → p0 = nI a → p1 = nI b → p2 = nI c → Q (some (.int (nI n))) (uM (uM (uM (uM M 441 n (nI a)) 442 n (nI b)) 443 n (nI c)) 401 64 (nI (n + 1))) L (rf ld)) : Tm l y_Mod_tell (0, 0, 447) 447 [.ref 401, .int p0, .int p1, .int p2] M L (rf ld) Q := by
  refine Tm.of (by decide) (Nat.le_of_ble_eq_true rfl) ?_
  show Wp l y_Mod_tell (0, 0, 447) 447 0 0 0 [(0, .ref 401), (1, .int p0), (2, .int p1), (3, .int p2)] [] M L (rf ld) Q
  refine g_aload_n (pc1 := 1) d_Mod_tell_0 rfl 0 rfl ?_
  refine g_geti (pc1 := 4) d_Mod_tell_1 rfl ⟨_, fo_Mod_257⟩ sh_401 (by decide) ?_
  refine Wp.vali (y := nI n) hn ?_
  refine g_bipush (pc1 := 6) (v := nI 20) d_Mod_tell_4 rfl (by decide) ?_
  refine g_icmp_eq (pc1 := 9) (tgt := 38) d_Mod_tell_6 (by decide) rfl (fun h5943 => ?_) (fun h5943 => ?_)
  · have nh5943 : (n : Nat) = (20 : Nat) := (nI_eq (a := (n : Nat)) (b := (20 : Nat)) (by omega) (by omega)).mp h5943
    refine g_iconst (pc1 := 39) (v := (-1)) d_Mod_tell_38 rfl (by decide) ?_
    refine g_ireturn (Or.inl rfl) d_Mod_tell_39 rfl ?_
    exact hQ0 (by omega)
  · have nh5943 : ¬ (n : Nat) = (20 : Nat) := fun q => h5943 ((nI_eq (a := (n : Nat)) (b := (20 : Nat)) (by omega) (by omega)).mpr q)
    refine g_iload_n (pc1 := 10) d_Mod_tell_9 rfl 1 rfl ?_
    refine g_iconst (pc1 := 11) (v := nI 0) d_Mod_tell_10 rfl (by decide) ?_
    refine g_iconst (pc1 := 12) (v := nI 2) d_Mod_tell_11 rfl (by decide) ?_
    refine g_callS0 (pc1 := 15) (As := [.int p0, .int (nI 0), .int (nI 2)]) (rest := []) d_Mod_tell_12 rfl mo_Mod_316 ms_Mod_in (by decide) rfl rfl (Nat.le_of_ble_eq_true rfl) ?_
    refine t2_Mod_in hld (p0) (nI 0) (nI 2) (fun r5944 hbr5944 => ?_)
    dsimp only [psh]
    rcases hbr5944 with ⟨rfl, h5945⟩ | ⟨rfl, h5945⟩
    · skip
      refine g_if_eq (pc1 := 18) (tgt := 38) d_Mod_tell_15 (by decide) rfl (fun _ => ?_) (fun h => absurd h (by decide))
      refine g_iconst (pc1 := 39) (v := (-1)) d_Mod_tell_38 rfl (by decide) ?_
      refine g_ireturn (Or.inl rfl) d_Mod_tell_39 rfl ?_
      exact hQ0 (by omega)
    · obtain ⟨q5946, h5945b, h5945a, rfl⟩ := in_nat (by decide) (by decide) h5945
      refine g_if_eq (pc1 := 18) (tgt := 38) d_Mod_tell_15 (by decide) rfl (fun h => absurd h (by decide)) (fun _ => ?_)
      refine g_iload_n (pc1 := 19) d_Mod_tell_18 rfl 2 rfl ?_
      refine g_iconst (pc1 := 20) (v := nI 0) d_Mod_tell_19 rfl (by decide) ?_
      refine g_bipush (pc1 := 22) (v := nI 9) d_Mod_tell_20 rfl (by decide) ?_
      refine g_callS0 (pc1 := 25) (As := [.int p1, .int (nI 0), .int (nI 9)]) (rest := []) d_Mod_tell_22 rfl mo_Mod_316 ms_Mod_in (by decide) rfl rfl (Nat.le_of_ble_eq_true rfl) ?_
      refine t2_Mod_in hld (p1) (nI 0) (nI 9) (fun r5949 hbr5949 => ?_)
      dsimp only [psh]
      rcases hbr5949 with ⟨rfl, h5950⟩ | ⟨rfl, h5950⟩
      · skip
        refine g_if_eq (pc1 := 28) (tgt := 38) d_Mod_tell_25 (by decide) rfl (fun _ => ?_) (fun h => absurd h (by decide))
        refine g_iconst (pc1 := 39) (v := (-1)) d_Mod_tell_38 rfl (by decide) ?_
        refine g_ireturn (Or.inl rfl) d_Mod_tell_39 rfl ?_
        exact hQ0 (by omega)
      · obtain ⟨q5951, h5950b, h5950a, rfl⟩ := in_nat (by decide) (by decide) h5950
        refine g_if_eq (pc1 := 28) (tgt := 38) d_Mod_tell_25 (by decide) rfl (fun h => absurd h (by decide)) (fun _ => ?_)
        refine g_iload_n (pc1 := 29) d_Mod_tell_28 rfl 3 rfl ?_
        refine g_iconst (pc1 := 30) (v := nI 0) d_Mod_tell_29 rfl (by decide) ?_
        refine g_bipush (pc1 := 32) (v := nI 99) d_Mod_tell_30 rfl (by decide) ?_
        refine g_callS0 (pc1 := 35) (As := [.int p2, .int (nI 0), .int (nI 99)]) (rest := []) d_Mod_tell_32 rfl mo_Mod_316 ms_Mod_in (by decide) rfl rfl (Nat.le_of_ble_eq_true rfl) ?_
        refine t2_Mod_in hld (p2) (nI 0) (nI 99) (fun r5954 hbr5954 => ?_)
        dsimp only [psh]
        rcases hbr5954 with ⟨rfl, h5955⟩ | ⟨rfl, h5955⟩
        · skip
          refine g_if_ne (pc1 := 38) (tgt := 40) d_Mod_tell_35 (by decide) rfl (fun h => absurd h (by decide)) (fun _ => ?_)
          refine g_iconst (pc1 := 39) (v := (-1)) d_Mod_tell_38 rfl (by decide) ?_
          refine g_ireturn (Or.inl rfl) d_Mod_tell_39 rfl ?_
          exact hQ0 (by omega)
        · obtain ⟨q5956, h5955b, h5955a, rfl⟩ := in_nat (by decide) (by decide) h5955
          refine g_if_ne (pc1 := 38) (tgt := 40) d_Mod_tell_35 (by decide) rfl (fun _ => ?_) (fun h => absurd h (by decide))
          refine g_aload_n (pc1 := 41) d_Mod_tell_40 rfl 0 rfl ?_
          refine g_getr (pc1 := 44) d_Mod_tell_41 rfl ⟨_, fo_Mod_137⟩ sh_401 (by decide) (rf_401_65 ld) ?_
          refine g_aload_n (pc1 := 45) d_Mod_tell_44 rfl 0 rfl ?_
          refine g_geti (pc1 := 48) d_Mod_tell_45 rfl ⟨_, fo_Mod_257⟩ sh_401 (by decide) ?_
          refine Wp.vali (y := nI n) hn ?_
          refine g_iload_n (pc1 := 49) d_Mod_tell_48 rfl 1 rfl ?_
          refine g_iast (pc1 := 50) d_Mod_tell_49 rfl sh_441 (by decide) (vp_in_nI (n := n) (by omega) (by decide)) ?_
          rw [nI_clamp (n := n) (by omega)]
          refine Wp.topM (fun M5959 eM5959 => ?_)
          refine g_aload_n (pc1 := 51) d_Mod_tell_50 rfl 0 rfl ?_
          refine g_getr (pc1 := 54) d_Mod_tell_51 rfl ⟨_, fo_Mod_140⟩ sh_401 (by decide) (rf_401_66 ld) ?_
          refine g_aload_n (pc1 := 55) d_Mod_tell_54 rfl 0 rfl ?_
          refine g_geti (pc1 := 58) d_Mod_tell_55 rfl ⟨_, fo_Mod_257⟩ sh_401 (by decide) ?_
          refine Wp.vali (y := nI n) ((rd_ne eM5959 (fun q => absurd q.1 (by decide))).trans hn) ?_
          refine g_iload_n (pc1 := 59) d_Mod_tell_58 rfl 2 rfl ?_
          refine g_iast (pc1 := 60) d_Mod_tell_59 rfl sh_442 (by decide) (vp_in_nI (n := n) (by omega) (by decide)) ?_
          rw [nI_clamp (n := n) (by omega)]
          refine Wp.topM (fun M5960 eM5960 => ?_)
          refine g_aload_n (pc1 := 61) d_Mod_tell_60 rfl 0 rfl ?_
          refine g_getr (pc1 := 64) d_Mod_tell_61 rfl ⟨_, fo_Mod_143⟩ sh_401 (by decide) (rf_401_67 ld) ?_
          refine g_aload_n (pc1 := 65) d_Mod_tell_64 rfl 0 rfl ?_
          refine g_geti (pc1 := 68) d_Mod_tell_65 rfl ⟨_, fo_Mod_257⟩ sh_401 (by decide) ?_
          refine Wp.vali (y := nI n) (((rd_ne eM5960 (fun q => absurd q.1 (by decide))).trans (rd_ne eM5959 (fun q => absurd q.1 (by decide)))).trans hn) ?_
          refine g_iload_n (pc1 := 69) d_Mod_tell_68 rfl 3 rfl ?_
          refine g_iast (pc1 := 70) d_Mod_tell_69 rfl sh_443 (by decide) (vp_in_nI (n := n) (by omega) (by decide)) ?_
          rw [nI_clamp (n := n) (by omega)]
          refine Wp.topM (fun M5961 eM5961 => ?_)
          refine g_aload_n (pc1 := 71) d_Mod_tell_70 rfl 0 rfl ?_
          refine g_dup (pc1 := 72) d_Mod_tell_71 rfl rfl ?_
          refine g_geti (pc1 := 75) d_Mod_tell_72 rfl ⟨_, fo_Mod_257⟩ sh_401 (by decide) ?_
          refine Wp.vali (y := nI n) ((((rd_ne eM5961 (fun q => absurd q.1 (by decide))).trans (rd_ne eM5960 (fun q => absurd q.1 (by decide)))).trans (rd_ne eM5959 (fun q => absurd q.1 (by decide)))).trans hn) ?_
          refine g_iconst (pc1 := 76) (v := nI 1) d_Mod_tell_75 rfl (by decide) ?_
          refine g_iadd (pc1 := 77) d_Mod_tell_76 rfl ?_
          refine Wp.vali (y := nI (n + 1)) (nI_add _ _) ?_
          refine g_puti (pc1 := 80) d_Mod_tell_77 rfl fo_Mod_257 (po_12_64 _) sh_401 (by decide) ?_
          refine Wp.topM (fun M5962 eM5962 => ?_)
          refine g_aload_n (pc1 := 81) d_Mod_tell_80 rfl 0 rfl ?_
          refine g_geti (pc1 := 84) d_Mod_tell_81 rfl ⟨_, fo_Mod_257⟩ sh_401 (by decide) ?_
          refine Wp.vali (y := nI (n + 1)) (rdn_eq eM5962 rfl) ?_
          refine g_iconst (pc1 := 85) (v := nI 1) d_Mod_tell_84 rfl (by decide) ?_
          refine g_isub (pc1 := 86) d_Mod_tell_85 rfl ?_
          refine Wp.vali (y := nI ((n + 1) - 1)) (nI_sub (by omega)) ?_
          refine g_ireturn (Or.inl rfl) d_Mod_tell_86 rfl ?_
          rw [eM5962, eM5961, eM5960, eM5959]
          exact hQ1 q5946 q5951 q5956 (by omega) h5945b h5950b h5955b rfl rfl rfl
