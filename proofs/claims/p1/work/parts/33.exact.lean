/-! exact pictures: fills, values as nI -/
def fl (M : gM) (a o n : Nat) (v : Nat → Int32) : gM := fun c j => if c = a ∧ o ≤ j ∧ j < o + n then v (j - o) else M c j
theorem fl_at {M : gM} {a o n c j : Nat} {v : Nat → Int32} : fl M a o n v c j = if c = a ∧ o ≤ j ∧ j < o + n then v (j - o) else M c j := rfl
theorem fl_0 {M : gM} {a o : Nat} {v : Nat → Int32} : fl M a o 0 v = M := by
  funext c j
  rw [fl_at, if_neg (fun q => by omega)]
theorem fl_s {M : gM} {a o n i : Nat} {x : Int32} {v : Nat → Int32} (hi : i = o + n) (hx : x = v n) : uM (fl M a o n v) a i x = fl M a o (n + 1) v := by
  subst hi; subst hx
  funext c j
  rw [uM_at, fl_at, fl_at]
  by_cases h : c = a ∧ j = o + n
  · rw [if_pos h, if_pos ⟨h.1, by omega, by omega⟩, show j - o = n by omega]
  · rw [if_neg h]
    by_cases g : c = a ∧ o ≤ j ∧ j < o + n
    · rw [if_pos g, if_pos ⟨g.1, g.2.1, by omega⟩]
    · rw [if_neg g, if_neg (fun q => g ⟨q.1, q.2.1, by
        rcases Nat.lt_or_ge j (o + n) with w | w
        · exact w
        · exact absurd ⟨q.1, by omega⟩ h⟩)]
theorem flE_ne {M M' : gM} {a o n c j : Nat} {v : Nat → Int32} (e : M' = fl M a o n v) (h : ¬ (c = a ∧ o ≤ j ∧ j < o + n)) : M' c j = M c j := by rw [e, fl_at, if_neg h]
theorem flE_eq {M M' : gM} {a o n j : Nat} {v : Nat → Int32} (e : M' = fl M a o n v) (h : o ≤ j ∧ j < o + n) : M' a j = v (j - o) := by rw [e, fl_at, if_pos ⟨rfl, h⟩]
theorem nI_mul (a b : Nat) : nI a * nI b = nI (a * b) := (Int32.ofNat_mul a b).symm
theorem nI_sub {a b : Nat} (h : b ≤ a) : nI a - nI b = nI (a - b) := by
  have e : nI a = nI (a - b) + nI b := by rw [nI_add, Nat.sub_add_cancel h]
  rw [e, Int32.add_sub_cancel]
theorem rdn_eq {M' M : gM} {a i j : Nat} {x : Int32} (e : M' = uM M a i x) (h : j = i) : M' a j = x := by rw [h]; exact rd_eq e
section RULES8
variable {l : Launch} {Y : gY} {E : Nat × Nat × Nat} {n k z pc pc1 : Nat} {lv lv' : List (Nat × Value)} {st : List Value} {M M' : gM} {L : gL} {R : gR} {Q : Option Value → gM → gL → gR → Prop}
theorem Wp.eqM (h : M = M') (kk : Wp l Y E n k z pc lv st M' L R Q) : Wp l Y E n k z pc lv st M L R Q := by rw [h]; exact kk
theorem Wp.eqlv (h : lv = lv') (kk : Wp l Y E n k z pc lv' st M L R Q) : Wp l Y E n k z pc lv st M L R Q := by rw [h]; exact kk
end RULES8
set_option maxHeartbeats 4000000 in
set_option maxRecDepth 20000 in
theorem x_Mod_keepsRow {l : Launch} {ld : Nat} {M : gM} {L : gL} {Q : Option Value → gM → gL → gR → Prop}  (hQ : Q none (fl M 436 0 38 (M 437)) L (rf ld)) : Tm l y_Mod_keepsRow (0, 0, 447) 447 [.ref 401] M L (rf ld) Q := by
  refine Tm.of (by decide) (Nat.le_of_ble_eq_true rfl) ?_
  show Wp l y_Mod_keepsRow (0, 0, 447) 447 0 0 0 [(0, .ref 401)] [] M L (rf ld) Q
  refine g_iconst (pc1 := 1) (v := nI 0) d_Mod_keepsRow_0 rfl (by decide) ?_
  refine g_istore_n (pc1 := 2) (lv' := [(0, .ref 401), (1, .int (nI 0))]) d_Mod_keepsRow_1 rfl rfl (by decide) [1, 0] rfl ?_
  have LP4 : ∀ (f1 k2 : Nat), k2 ≤ 38 → 38 - k2 < f1 → Wp l y_Mod_keepsRow (0, 0, 447) 447 0 0 2 [(0, .ref 401), (1, .int (nI k2))] [] (fl M 436 (0) k2 (M 437)) L (rf ld) Q := by
    intro f1
    induction f1 with
    | zero => intro k2 _ hm; exact absurd hm (Nat.not_lt_zero _)
    | succ f1 ih3 =>
      intro k2 hkk2 hmk2
      refine Wp.topM (fun M5 eM5 => ?_)
      refine g_iload_n (pc1 := 3) d_Mod_keepsRow_2 rfl 1 rfl ?_
      refine g_bipush (pc1 := 5) (v := nI 38) d_Mod_keepsRow_3 rfl (by decide) ?_
      refine g_icmp_ge (pc1 := 8) (tgt := 26) d_Mod_keepsRow_5 (by decide) rfl (fun h6 => ?_) (fun h6 => ?_)
      · have nh6 : (38 : Nat) ≤ (k2 : Nat) := (nI_leI (a := (38 : Nat)) (b := (k2 : Nat)) (by omega) (by omega)).mp h6
        have ekk2 : k2 = 38 := by omega
        rw [ekk2] at eM5
        refine g_return rfl d_Mod_keepsRow_26 rfl ?_
        rw [eM5]
        exact hQ
      · have nh6 : ¬ (38 : Nat) ≤ (k2 : Nat) := fun q => h6 ((nI_leI (a := (38 : Nat)) (b := (k2 : Nat)) (by omega) (by omega)).mpr q)
        refine g_aload_n (pc1 := 9) d_Mod_keepsRow_8 rfl 0 rfl ?_
        refine g_getr (pc1 := 12) d_Mod_keepsRow_9 rfl ⟨_, fo_Mod_122⟩ sh_401 (by decide) (rf_401_52 ld) ?_
        refine g_iload_n (pc1 := 13) d_Mod_keepsRow_12 rfl 1 rfl ?_
        refine g_aload_n (pc1 := 14) d_Mod_keepsRow_13 rfl 0 rfl ?_
        refine g_getr (pc1 := 17) d_Mod_keepsRow_14 rfl ⟨_, fo_Mod_125⟩ sh_401 (by decide) (rf_401_53 ld) ?_
        refine g_iload_n (pc1 := 18) d_Mod_keepsRow_17 rfl 1 rfl ?_
        refine g_iald (pc1 := 19) d_Mod_keepsRow_18 rfl sh_437 (by decide) (vp_in_nI (n := k2) (by omega) (by decide)) ?_
        rw [nI_clamp (n := k2) (by omega)]
        refine Wp.vali (y := M 437 k2) (flE_ne eM5 (fun q => absurd q.1 (by decide))) ?_
        refine g_iast (pc1 := 20) d_Mod_keepsRow_19 rfl sh_436 (by decide) (vp_in_nI (n := k2) (by omega) (by decide)) ?_
        rw [nI_clamp (n := k2) (by omega)]
        refine Wp.topM (fun M7 eM7 => ?_)
        refine g_iinc (pc1 := 23) (v := nI (k2 + 1)) (lv' := [(0, .ref 401), (1, .int (nI (k2 + 1)))]) d_Mod_keepsRow_20 rfl 1 rfl (nI_1 _) (by decide) [1, 0] rfl ?_
        refine g_goto (tgt := 2) d_Mod_keepsRow_23 (by decide) ?_
        refine Wp.eqM (show M7 = fl M 436 (0) (k2 + 1) (M 437) from by rw [eM7, eM5]; exact fl_s (by omega) rfl) ?_
        exact ih3 (k2 + 1) (by omega) (by omega)
  refine Wp.eqM (fl_0 (a := 436) (o := 0) (v := (M 437))).symm ?_
  exact LP4 _ 0 (by omega) (Nat.lt_succ_self _)
set_option maxHeartbeats 4000000 in
set_option maxRecDepth 20000 in
theorem x_Mod_copies {l : Launch} {ld : Nat} {M : gM} {L : gL} {Q : Option Value → gM → gL → gR → Prop} {lv : Nat} (hlv : M 401 18 = nI lv) (hl1 : lv ≤ 1) (hQ : Q none (uM (fl M 437 0 38 (M 436)) 401 54 (M 422 lv)) L (rf ld)) : Tm l y_Mod_copies (0, 0, 447) 447 [.ref 401] M L (rf ld) Q := by
  refine Tm.of (by decide) (Nat.le_of_ble_eq_true rfl) ?_
  show Wp l y_Mod_copies (0, 0, 447) 447 0 0 0 [(0, .ref 401)] [] M L (rf ld) Q
  refine g_iconst (pc1 := 1) (v := nI 0) d_Mod_copies_0 rfl (by decide) ?_
  refine g_istore_n (pc1 := 2) (lv' := [(0, .ref 401), (1, .int (nI 0))]) d_Mod_copies_1 rfl rfl (by decide) [1, 0] rfl ?_
  have LP11 : ∀ (f8 k9 : Nat), k9 ≤ 38 → 38 - k9 < f8 → Wp l y_Mod_copies (0, 0, 447) 447 0 0 2 [(0, .ref 401), (1, .int (nI k9))] [] (fl M 437 (0) k9 (M 436)) L (rf ld) Q := by
    intro f8
    induction f8 with
    | zero => intro k9 _ hm; exact absurd hm (Nat.not_lt_zero _)
    | succ f8 ih10 =>
      intro k9 hkk9 hmk9
      refine Wp.topM (fun M12 eM12 => ?_)
      refine g_iload_n (pc1 := 3) d_Mod_copies_2 rfl 1 rfl ?_
      refine g_bipush (pc1 := 5) (v := nI 38) d_Mod_copies_3 rfl (by decide) ?_
      refine g_icmp_ge (pc1 := 8) (tgt := 26) d_Mod_copies_5 (by decide) rfl (fun h13 => ?_) (fun h13 => ?_)
      · have nh13 : (38 : Nat) ≤ (k9 : Nat) := (nI_leI (a := (38 : Nat)) (b := (k9 : Nat)) (by omega) (by omega)).mp h13
        have ekk9 : k9 = 38 := by omega
        rw [ekk9] at eM12
        refine g_aload_n (pc1 := 27) d_Mod_copies_26 rfl 0 rfl ?_
        refine g_aload_n (pc1 := 28) d_Mod_copies_27 rfl 0 rfl ?_
        refine g_getr (pc1 := 31) d_Mod_copies_28 rfl ⟨_, fo_Mod_82⟩ sh_401 (by decide) (rf_401_35 ld) ?_
        refine g_aload_n (pc1 := 32) d_Mod_copies_31 rfl 0 rfl ?_
        refine g_geti (pc1 := 35) d_Mod_copies_32 rfl ⟨_, fo_Mod_236⟩ sh_401 (by decide) ?_
        refine Wp.vali (y := nI lv) ((flE_ne eM12 (fun q => absurd q.1 (by decide))).trans hlv) ?_
        refine g_iald (pc1 := 36) d_Mod_copies_35 rfl sh_423 (by decide) (vp_in_nI (n := lv) (by omega) (by decide)) ?_
        rw [nI_clamp (n := lv) (by omega)]
        refine Wp.vali (y := M 423 lv) (flE_ne eM12 (fun q => absurd q.1 (by decide))) ?_
        refine g_puti (pc1 := 39) d_Mod_copies_36 rfl fo_Mod_320 (po_12_54 _) sh_401 (by decide) ?_
        refine Wp.topM (fun M14 eM14 => ?_)
        refine g_return rfl d_Mod_copies_39 rfl ?_
        rw [eM14, eM12]
        exact hQ
      · have nh13 : ¬ (38 : Nat) ≤ (k9 : Nat) := fun q => h13 ((nI_leI (a := (38 : Nat)) (b := (k9 : Nat)) (by omega) (by omega)).mpr q)
        refine g_aload_n (pc1 := 9) d_Mod_copies_8 rfl 0 rfl ?_
        refine g_getr (pc1 := 12) d_Mod_copies_9 rfl ⟨_, fo_Mod_125⟩ sh_401 (by decide) (rf_401_53 ld) ?_
        refine g_iload_n (pc1 := 13) d_Mod_copies_12 rfl 1 rfl ?_
        refine g_aload_n (pc1 := 14) d_Mod_copies_13 rfl 0 rfl ?_
        refine g_getr (pc1 := 17) d_Mod_copies_14 rfl ⟨_, fo_Mod_122⟩ sh_401 (by decide) (rf_401_52 ld) ?_
        refine g_iload_n (pc1 := 18) d_Mod_copies_17 rfl 1 rfl ?_
        refine g_iald (pc1 := 19) d_Mod_copies_18 rfl sh_436 (by decide) (vp_in_nI (n := k9) (by omega) (by decide)) ?_
        rw [nI_clamp (n := k9) (by omega)]
        refine Wp.vali (y := M 436 k9) (flE_ne eM12 (fun q => absurd q.1 (by decide))) ?_
        refine g_iast (pc1 := 20) d_Mod_copies_19 rfl sh_437 (by decide) (vp_in_nI (n := k9) (by omega) (by decide)) ?_
        rw [nI_clamp (n := k9) (by omega)]
        refine Wp.topM (fun M15 eM15 => ?_)
        refine g_iinc (pc1 := 23) (v := nI (k9 + 1)) (lv' := [(0, .ref 401), (1, .int (nI (k9 + 1)))]) d_Mod_copies_20 rfl 1 rfl (nI_1 _) (by decide) [1, 0] rfl ?_
        refine g_goto (tgt := 2) d_Mod_copies_23 (by decide) ?_
        refine Wp.eqM (show M15 = fl M 437 (0) (k9 + 1) (M 436) from by rw [eM15, eM12]; exact fl_s (by omega) rfl) ?_
        exact ih10 (k9 + 1) (by omega) (by omega)
  refine Wp.eqM (fl_0 (a := 437) (o := 0) (v := (M 436))).symm ?_
  exact LP11 _ 0 (by omega) (Nat.lt_succ_self _)
set_option maxHeartbeats 4000000 in
set_option maxRecDepth 20000 in
theorem x_Mod_begins {l : Launch} {ld : Nat} {M : gM} {L : gL} {Q : Option Value → gM → gL → gR → Prop} {lv F : Nat} (hlv : M 401 18 = nI lv) (hl1 : lv ≤ 1) (hF : M 411 lv = nI F) (hF6 : F ≤ 6) (hQ : Q none (uM (fl (uM (fl (fl M 437 0 38 (fun _ => nI 0)) 437 0 F (fun f => M 412 (6 * lv + f))) 437 11 (-2)) 437 15 4 (fun _ => (-2))) 401 54 (M 422 lv)) L (rf ld)) : Tm l y_Mod_begins (0, 0, 447) 447 [.ref 401] M L (rf ld) Q := by
  refine Tm.of (by decide) (Nat.le_of_ble_eq_true rfl) ?_
  show Wp l y_Mod_begins (0, 0, 447) 447 0 0 0 [(0, .ref 401)] [] M L (rf ld) Q
  refine g_iconst (pc1 := 1) (v := nI 0) d_Mod_begins_0 rfl (by decide) ?_
  refine g_istore_n (pc1 := 2) (lv' := [(0, .ref 401), (1, .int (nI 0))]) d_Mod_begins_1 rfl rfl (by decide) [1, 0] rfl ?_
  have LP19 : ∀ (f16 k17 : Nat), k17 ≤ 38 → 38 - k17 < f16 → Wp l y_Mod_begins (0, 0, 447) 447 0 0 2 [(0, .ref 401), (1, .int (nI k17))] [] (fl M 437 (0) k17 (fun _ => nI 0)) L (rf ld) Q := by
    intro f16
    induction f16 with
    | zero => intro k17 _ hm; exact absurd hm (Nat.not_lt_zero _)
    | succ f16 ih18 =>
      intro k17 hkk17 hmk17
      refine Wp.topM (fun M20 eM20 => ?_)
      refine g_iload_n (pc1 := 3) d_Mod_begins_2 rfl 1 rfl ?_
      refine g_bipush (pc1 := 5) (v := nI 38) d_Mod_begins_3 rfl (by decide) ?_
      refine g_icmp_ge (pc1 := 8) (tgt := 21) d_Mod_begins_5 (by decide) rfl (fun h21 => ?_) (fun h21 => ?_)
      · have nh21 : (38 : Nat) ≤ (k17 : Nat) := (nI_leI (a := (38 : Nat)) (b := (k17 : Nat)) (by omega) (by omega)).mp h21
        have ekk17 : k17 = 38 := by omega
        rw [ekk17] at eM20
        refine g_iconst (pc1 := 22) (v := nI 0) d_Mod_begins_21 rfl (by decide) ?_
        refine g_istore_n (pc1 := 23) (lv' := [(0, .ref 401), (1, .int (nI 0))]) d_Mod_begins_22 rfl rfl (by decide) [1, 0] rfl ?_
        have LP25 : ∀ (f22 k23 : Nat), k23 ≤ F → F - k23 < f22 → Wp l y_Mod_begins (0, 0, 447) 447 0 0 23 [(0, .ref 401), (1, .int (nI k23))] [] (fl M20 437 (0) k23 (fun f => M 412 (6 * lv + f))) L (rf ld) Q := by
          intro f22
          induction f22 with
          | zero => intro k23 _ hm; exact absurd hm (Nat.not_lt_zero _)
          | succ f22 ih24 =>
            intro k23 hkk23 hmk23
            refine Wp.topM (fun M26 eM26 => ?_)
            refine g_iload_n (pc1 := 24) d_Mod_begins_23 rfl 1 rfl ?_
            refine g_aload_n (pc1 := 25) d_Mod_begins_24 rfl 0 rfl ?_
            refine g_getr (pc1 := 28) d_Mod_begins_25 rfl ⟨_, fo_Mod_46⟩ sh_401 (by decide) (rf_401_23 ld) ?_
            refine g_aload_n (pc1 := 29) d_Mod_begins_28 rfl 0 rfl ?_
            refine g_geti (pc1 := 32) d_Mod_begins_29 rfl ⟨_, fo_Mod_236⟩ sh_401 (by decide) ?_
            refine Wp.vali (y := nI lv) (((flE_ne eM26 (fun q => absurd q.1 (by decide))).trans (flE_ne eM20 (fun q => absurd q.1 (by decide)))).trans hlv) ?_
            refine g_iald (pc1 := 33) d_Mod_begins_32 rfl sh_411 (by decide) (vp_in_nI (n := lv) (by omega) (by decide)) ?_
            rw [nI_clamp (n := lv) (by omega)]
            refine Wp.vali (y := nI F) (((flE_ne eM26 (fun q => absurd q.1 (by decide))).trans (flE_ne eM20 (fun q => absurd q.1 (by decide)))).trans hF) ?_
            refine g_icmp_ge (pc1 := 36) (tgt := 62) d_Mod_begins_33 (by decide) rfl (fun h27 => ?_) (fun h27 => ?_)
            · have nh27 : (F : Nat) ≤ (k23 : Nat) := (nI_leI (a := (F : Nat)) (b := (k23 : Nat)) (by omega) (by omega)).mp h27
              have ekk23 : k23 = F := by omega
              rw [ekk23] at eM26
              refine g_aload_n (pc1 := 63) d_Mod_begins_62 rfl 0 rfl ?_
              refine g_getr (pc1 := 66) d_Mod_begins_63 rfl ⟨_, fo_Mod_125⟩ sh_401 (by decide) (rf_401_53 ld) ?_
              refine g_bipush (pc1 := 68) (v := nI 11) d_Mod_begins_66 rfl (by decide) ?_
              refine g_bipush (pc1 := 70) (v := (-2)) d_Mod_begins_68 rfl (by decide) ?_
              refine g_iast (pc1 := 71) d_Mod_begins_70 rfl sh_437 (by decide) (vp_in_nI (n := 11) (by omega) (by decide)) ?_
              rw [nI_clamp (n := 11) (by omega)]
              refine Wp.topM (fun M28 eM28 => ?_)
              refine g_iconst (pc1 := 72) (v := nI 0) d_Mod_begins_71 rfl (by decide) ?_
              refine g_istore_n (pc1 := 73) (lv' := [(0, .ref 401), (1, .int (nI 0))]) d_Mod_begins_72 rfl rfl (by decide) [1, 0] rfl ?_
              have LP32 : ∀ (f29 k30 : Nat), k30 ≤ 4 → 4 - k30 < f29 → Wp l y_Mod_begins (0, 0, 447) 447 0 0 73 [(0, .ref 401), (1, .int (nI k30))] [] (fl M28 437 (15) k30 (fun _ => (-2))) L (rf ld) Q := by
                intro f29
                induction f29 with
                | zero => intro k30 _ hm; exact absurd hm (Nat.not_lt_zero _)
                | succ f29 ih31 =>
                  intro k30 hkk30 hmk30
                  refine Wp.topM (fun M33 eM33 => ?_)
                  refine g_iload_n (pc1 := 74) d_Mod_begins_73 rfl 1 rfl ?_
                  refine g_iconst (pc1 := 75) (v := nI 4) d_Mod_begins_74 rfl (by decide) ?_
                  refine g_icmp_ge (pc1 := 78) (tgt := 95) d_Mod_begins_75 (by decide) rfl (fun h34 => ?_) (fun h34 => ?_)
                  · have nh34 : (4 : Nat) ≤ (k30 : Nat) := (nI_leI (a := (4 : Nat)) (b := (k30 : Nat)) (by omega) (by omega)).mp h34
                    have ekk30 : k30 = 4 := by omega
                    rw [ekk30] at eM33
                    refine g_aload_n (pc1 := 96) d_Mod_begins_95 rfl 0 rfl ?_
                    refine g_aload_n (pc1 := 97) d_Mod_begins_96 rfl 0 rfl ?_
                    refine g_getr (pc1 := 100) d_Mod_begins_97 rfl ⟨_, fo_Mod_82⟩ sh_401 (by decide) (rf_401_35 ld) ?_
                    refine g_aload_n (pc1 := 101) d_Mod_begins_100 rfl 0 rfl ?_
                    refine g_geti (pc1 := 104) d_Mod_begins_101 rfl ⟨_, fo_Mod_236⟩ sh_401 (by decide) ?_
                    refine Wp.vali (y := nI lv) (((((flE_ne eM33 (fun q => absurd q.1 (by decide))).trans (rd_ne eM28 (fun q => absurd q.1 (by decide)))).trans (flE_ne eM26 (fun q => absurd q.1 (by decide)))).trans (flE_ne eM20 (fun q => absurd q.1 (by decide)))).trans hlv) ?_
                    refine g_iald (pc1 := 105) d_Mod_begins_104 rfl sh_423 (by decide) (vp_in_nI (n := lv) (by omega) (by decide)) ?_
                    rw [nI_clamp (n := lv) (by omega)]
                    refine Wp.vali (y := M 423 lv) ((((flE_ne eM33 (fun q => absurd q.1 (by decide))).trans (rd_ne eM28 (fun q => absurd q.1 (by decide)))).trans (flE_ne eM26 (fun q => absurd q.1 (by decide)))).trans (flE_ne eM20 (fun q => absurd q.1 (by decide)))) ?_
                    refine g_puti (pc1 := 108) d_Mod_begins_105 rfl fo_Mod_320 (po_12_54 _) sh_401 (by decide) ?_
                    refine Wp.topM (fun M35 eM35 => ?_)
                    refine g_return rfl d_Mod_begins_108 rfl ?_
                    rw [eM35, eM33, eM28, eM26, eM20]
                    exact hQ
                  · have nh34 : ¬ (4 : Nat) ≤ (k30 : Nat) := fun q => h34 ((nI_leI (a := (4 : Nat)) (b := (k30 : Nat)) (by omega) (by omega)).mpr q)
                    refine g_aload_n (pc1 := 79) d_Mod_begins_78 rfl 0 rfl ?_
                    refine g_getr (pc1 := 82) d_Mod_begins_79 rfl ⟨_, fo_Mod_125⟩ sh_401 (by decide) (rf_401_53 ld) ?_
                    refine g_bipush (pc1 := 84) (v := nI 15) d_Mod_begins_82 rfl (by decide) ?_
                    refine g_iload_n (pc1 := 85) d_Mod_begins_84 rfl 1 rfl ?_
                    refine g_iadd (pc1 := 86) d_Mod_begins_85 rfl ?_
                    refine Wp.vali (y := nI (15 + k30)) (nI_add _ _) ?_
                    refine g_bipush (pc1 := 88) (v := (-2)) d_Mod_begins_86 rfl (by decide) ?_
                    refine g_iast (pc1 := 89) d_Mod_begins_88 rfl sh_437 (by decide) (vp_in_nI (n := 15 + k30) (by omega) (by decide)) ?_
                    rw [nI_clamp (n := 15 + k30) (by omega)]
                    refine Wp.topM (fun M36 eM36 => ?_)
                    refine g_iinc (pc1 := 92) (v := nI (k30 + 1)) (lv' := [(0, .ref 401), (1, .int (nI (k30 + 1)))]) d_Mod_begins_89 rfl 1 rfl (nI_1 _) (by decide) [1, 0] rfl ?_
                    refine g_goto (tgt := 73) d_Mod_begins_92 (by decide) ?_
                    refine Wp.eqM (show M36 = fl M28 437 (15) (k30 + 1) (fun _ => (-2)) from by rw [eM36, eM33]; exact fl_s (by omega) rfl) ?_
                    exact ih31 (k30 + 1) (by omega) (by omega)
              refine Wp.eqM (fl_0 (a := 437) (o := 15) (v := (fun _ => (-2)))).symm ?_
              exact LP32 _ 0 (by omega) (Nat.lt_succ_self _)
            · have nh27 : ¬ (F : Nat) ≤ (k23 : Nat) := fun q => h27 ((nI_leI (a := (F : Nat)) (b := (k23 : Nat)) (by omega) (by omega)).mpr q)
              refine g_aload_n (pc1 := 37) d_Mod_begins_36 rfl 0 rfl ?_
              refine g_getr (pc1 := 40) d_Mod_begins_37 rfl ⟨_, fo_Mod_125⟩ sh_401 (by decide) (rf_401_53 ld) ?_
              refine g_iload_n (pc1 := 41) d_Mod_begins_40 rfl 1 rfl ?_
              refine g_aload_n (pc1 := 42) d_Mod_begins_41 rfl 0 rfl ?_
              refine g_getr (pc1 := 45) d_Mod_begins_42 rfl ⟨_, fo_Mod_49⟩ sh_401 (by decide) (rf_401_24 ld) ?_
              refine g_bipush (pc1 := 47) (v := nI 6) d_Mod_begins_45 rfl (by decide) ?_
              refine g_aload_n (pc1 := 48) d_Mod_begins_47 rfl 0 rfl ?_
              refine g_geti (pc1 := 51) d_Mod_begins_48 rfl ⟨_, fo_Mod_236⟩ sh_401 (by decide) ?_
              refine Wp.vali (y := nI lv) (((flE_ne eM26 (fun q => absurd q.1 (by decide))).trans (flE_ne eM20 (fun q => absurd q.1 (by decide)))).trans hlv) ?_
              refine g_imul (pc1 := 52) d_Mod_begins_51 rfl ?_
              refine Wp.vali (y := nI (6 * lv)) (nI_mul _ _) ?_
              refine g_iload_n (pc1 := 53) d_Mod_begins_52 rfl 1 rfl ?_
              refine g_iadd (pc1 := 54) d_Mod_begins_53 rfl ?_
              refine Wp.vali (y := nI ((6 * lv) + k23)) (nI_add _ _) ?_
              refine g_iald (pc1 := 55) d_Mod_begins_54 rfl sh_412 (by decide) (vp_in_nI (n := (6 * lv) + k23) (by omega) (by decide)) ?_
              rw [nI_clamp (n := (6 * lv) + k23) (by omega)]
              refine Wp.vali (y := M 412 ((6 * lv) + k23)) ((flE_ne eM26 (fun q => absurd q.1 (by decide))).trans (flE_ne eM20 (fun q => absurd q.1 (by decide)))) ?_
              refine g_iast (pc1 := 56) d_Mod_begins_55 rfl sh_437 (by decide) (vp_in_nI (n := k23) (by omega) (by decide)) ?_
              rw [nI_clamp (n := k23) (by omega)]
              refine Wp.topM (fun M37 eM37 => ?_)
              refine g_iinc (pc1 := 59) (v := nI (k23 + 1)) (lv' := [(0, .ref 401), (1, .int (nI (k23 + 1)))]) d_Mod_begins_56 rfl 1 rfl (nI_1 _) (by decide) [1, 0] rfl ?_
              refine g_goto (tgt := 23) d_Mod_begins_59 (by decide) ?_
              refine Wp.eqM (show M37 = fl M20 437 (0) (k23 + 1) (fun f => M 412 (6 * lv + f)) from by rw [eM37, eM26]; exact fl_s (by omega) rfl) ?_
              exact ih24 (k23 + 1) (by omega) (by omega)
        refine Wp.eqM (fl_0 (a := 437) (o := 0) (v := (fun f => M 412 (6 * lv + f)))).symm ?_
        exact LP25 _ 0 (by omega) (Nat.lt_succ_self _)
      · have nh21 : ¬ (38 : Nat) ≤ (k17 : Nat) := fun q => h21 ((nI_leI (a := (38 : Nat)) (b := (k17 : Nat)) (by omega) (by omega)).mpr q)
        refine g_aload_n (pc1 := 9) d_Mod_begins_8 rfl 0 rfl ?_
        refine g_getr (pc1 := 12) d_Mod_begins_9 rfl ⟨_, fo_Mod_125⟩ sh_401 (by decide) (rf_401_53 ld) ?_
        refine g_iload_n (pc1 := 13) d_Mod_begins_12 rfl 1 rfl ?_
        refine g_iconst (pc1 := 14) (v := nI 0) d_Mod_begins_13 rfl (by decide) ?_
        refine g_iast (pc1 := 15) d_Mod_begins_14 rfl sh_437 (by decide) (vp_in_nI (n := k17) (by omega) (by decide)) ?_
        rw [nI_clamp (n := k17) (by omega)]
        refine Wp.topM (fun M38 eM38 => ?_)
        refine g_iinc (pc1 := 18) (v := nI (k17 + 1)) (lv' := [(0, .ref 401), (1, .int (nI (k17 + 1)))]) d_Mod_begins_15 rfl 1 rfl (nI_1 _) (by decide) [1, 0] rfl ?_
        refine g_goto (tgt := 2) d_Mod_begins_18 (by decide) ?_
        refine Wp.eqM (show M38 = fl M 437 (0) (k17 + 1) (fun _ => nI 0) from by rw [eM38, eM20]; exact fl_s (by omega) rfl) ?_
        exact ih18 (k17 + 1) (by omega) (by omega)
  refine Wp.eqM (fl_0 (a := 437) (o := 0) (v := (fun _ => nI 0))).symm ?_
  exact LP19 _ 0 (by omega) (Nat.lt_succ_self _)
set_option maxHeartbeats 4000000 in
set_option maxRecDepth 20000 in
theorem x_Mod_appends {l : Launch} {ld : Nat} {M : gM} {L : gL} {Q : Option Value → gM → gL → gR → Prop} {p0 : Int64} {p1 : Int32} (hQ0 : p1 = 0 → Q (some (.long p0)) M L (rf ld)) (hQ1 : ¬ p1 = 0 → Q (some (.long (27 * p0 + (p1 - nI 97 + nI 1).toInt64))) M L (rf ld)) : Tm l y_Mod_appends (0, 0, 447) 447 [.long p0, .int p1] M L (rf ld) Q := by
  refine Tm.of (by decide) (Nat.le_of_ble_eq_true rfl) ?_
  show Wp l y_Mod_appends (0, 0, 447) 447 0 0 0 [(0, .long p0), (2, .int p1)] [] M L (rf ld) Q
  refine g_iload_n (pc1 := 1) d_Mod_appends_0 rfl 1 rfl ?_
  refine g_if_ne (pc1 := 4) (tgt := 8) d_Mod_appends_1 (by decide) rfl (fun h39 => ?_) (fun h39 => ?_)
  · refine g_ldc2 (pc1 := 11) (v := 27) d_Mod_appends_8 rfl co_Mod_178 ?_
    refine g_lload_n (pc1 := 12) d_Mod_appends_11 rfl 0 rfl ?_
    refine g_lmul (pc1 := 13) d_Mod_appends_12 rfl ?_
    refine g_iload_n (pc1 := 14) d_Mod_appends_13 rfl 1 rfl ?_
    refine g_bipush (pc1 := 16) (v := nI 97) d_Mod_appends_14 rfl (by decide) ?_
    refine g_isub (pc1 := 17) d_Mod_appends_16 rfl ?_
    refine g_iconst (pc1 := 18) (v := nI 1) d_Mod_appends_17 rfl (by decide) ?_
    refine g_iadd (pc1 := 19) d_Mod_appends_18 rfl ?_
    refine g_i2l (pc1 := 20) d_Mod_appends_19 rfl ?_
    refine g_ladd (pc1 := 21) d_Mod_appends_20 rfl ?_
    refine g_lreturn rfl d_Mod_appends_21 rfl ?_
    exact hQ1 ‹_›
  · refine g_lload_n (pc1 := 5) d_Mod_appends_4 rfl 0 rfl ?_
    refine g_goto (tgt := 21) d_Mod_appends_5 (by decide) ?_
    refine g_lreturn rfl d_Mod_appends_21 rfl ?_
    exact hQ0 ‹_›
