/-! exact pictures: fills, values as nI -/
def fl (M : gM) (a o n : Nat) (v : Nat → Int32) : gM := fun c j => if c = a ∧ o ≤ j ∧ j < o + n then v (j - o) else M c j
theorem fl_at {M : gM} {a o n c j : Nat} {v : Nat → Int32} : fl M a o n v c j = if c = a ∧ o ≤ j ∧ j < o + n then v (j - o) else M c j := rfl
theorem fl_0 {M : gM} {a o : Nat} {v : Nat → Int32} : fl M a o 0 v = M := by
  funext c j
  rw [fl_at, if_neg (fun q => by omega)]
theorem fl_s {M : gM} {a o n i : Nat} {x : Int32} {v : Nat → Int32} (hi : i = o + n) (hx : x = v n) : uM (fl M a o n v) a i x = fl M a o (n + 1) v := by
  subst hi; subst hx
  funext c j
  rw [uM_at, fl_at, fl_at]
  by_cases h : c = a ∧ j = o + n
  · rw [if_pos h, if_pos ⟨h.1, by omega, by omega⟩, show j - o = n by omega]
  · rw [if_neg h]
    by_cases g : c = a ∧ o ≤ j ∧ j < o + n
    · rw [if_pos g, if_pos ⟨g.1, g.2.1, by omega⟩]
    · rw [if_neg g, if_neg (fun q => g ⟨q.1, q.2.1, by
        rcases Nat.lt_or_ge j (o + n) with w | w
        · exact w
        · exact absurd ⟨q.1, by omega⟩ h⟩)]
theorem flE_ne {M M' : gM} {a o n c j : Nat} {v : Nat → Int32} (e : M' = fl M a o n v) (h : ¬ (c = a ∧ o ≤ j ∧ j < o + n)) : M' c j = M c j := by rw [e, fl_at, if_neg h]
theorem flE_eq {M M' : gM} {a o n j : Nat} {v : Nat → Int32} (e : M' = fl M a o n v) (h : o ≤ j ∧ j < o + n) : M' a j = v (j - o) := by rw [e, fl_at, if_pos ⟨rfl, h⟩]
theorem nI_mul (a b : Nat) : nI a * nI b = nI (a * b) := (Int32.ofNat_mul a b).symm
theorem nI_sub {a b : Nat} (h : b ≤ a) : nI a - nI b = nI (a - b) := by
  have e : nI a = nI (a - b) + nI b := by rw [nI_add, Nat.sub_add_cancel h]
  rw [e, Int32.add_sub_cancel]
theorem rdn_eq {M' M : gM} {a i j : Nat} {x : Int32} (e : M' = uM M a i x) (h : j = i) : M' a j = x := by rw [h]; exact rd_eq e
theorem in_nat {p : Int32} {a b : Nat} (ha : a < 2 ^ 31) (hb : b < 2 ^ 31) (h : (nI a).toInt ≤ p.toInt ∧ p.toInt ≤ (nI b).toInt) : ∃ q, q ≤ b ∧ a ≤ q ∧ p = nI q := by
  rw [nI_toInt ha, nI_toInt hb] at h
  obtain ⟨q, hq, rfl⟩ := nI_of (x := p) (by rw [Int32.lt_iff_toInt_lt, Int32.toInt_zero]; omega)
  rw [nI_toInt hq] at h
  exact ⟨q, by omega, by omega, rfl⟩
section RULES8
variable {l : Launch} {Y : gY} {E : Nat × Nat × Nat} {n k z pc pc1 : Nat} {lv lv' : List (Nat × Value)} {st : List Value} {M M' : gM} {L : gL} {R : gR} {Q : Option Value → gM → gL → gR → Prop}
theorem Wp.eqM (h : M = M') (kk : Wp l Y E n k z pc lv st M' L R Q) : Wp l Y E n k z pc lv st M L R Q := by rw [h]; exact kk
theorem Wp.eqlv (h : lv = lv') (kk : Wp l Y E n k z pc lv' st M L R Q) : Wp l Y E n k z pc lv st M L R Q := by rw [h]; exact kk
end RULES8
set_option maxHeartbeats 4000000 in
set_option maxRecDepth 20000 in
theorem x_Mod_keepsRow {l : Launch} {ld : Nat} {M : gM} {L : gL} {Q : Option Value → gM → gL → gR → Prop}  (hQ : Q none (fl M 436 0 38 (M 437)) L (rf ld)) : Tm l y_Mod_keepsRow (0, 0, 447) 447 [.ref 401] M L (rf ld) Q := by
  refine Tm.of (by decide) (Nat.le_of_ble_eq_true rfl) ?_
  show Wp l y_Mod_keepsRow (0, 0, 447) 447 0 0 0 [(0, .ref 401)] [] M L (rf ld) Q
  refine g_iconst (pc1 := 1) (v := nI 0) d_Mod_keepsRow_0 rfl (by decide) ?_
  refine g_istore_n (pc1 := 2) (lv' := [(0, .ref 401), (1, .int (nI 0))]) d_Mod_keepsRow_1 rfl rfl (by decide) [1, 0] rfl ?_
  have LP4 : ∀ (f1 k2 : Nat), k2 ≤ 38 → 38 - k2 < f1 → Wp l y_Mod_keepsRow (0, 0, 447) 447 0 0 2 [(0, .ref 401), (1, .int (nI k2))] [] (fl M 436 (0) k2 (M 437)) L (rf ld) Q := by
    intro f1
    induction f1 with
    | zero => intro k2 _ hm; exact absurd hm (Nat.not_lt_zero _)
    | succ f1 ih3 =>
      intro k2 hkk2 hmk2
      refine Wp.topM (fun M5 eM5 => ?_)
      refine g_iload_n (pc1 := 3) d_Mod_keepsRow_2 rfl 1 rfl ?_
      refine g_bipush (pc1 := 5) (v := nI 38) d_Mod_keepsRow_3 rfl (by decide) ?_
      refine g_icmp_ge (pc1 := 8) (tgt := 26) d_Mod_keepsRow_5 (by decide) rfl (fun h6 => ?_) (fun h6 => ?_)
      · have nh6 : (38 : Nat) ≤ (k2 : Nat) := (nI_leI (a := (38 : Nat)) (b := (k2 : Nat)) (by omega) (by omega)).mp h6
        have ekk2 : k2 = 38 := by omega
        rw [ekk2] at eM5
        refine g_return rfl d_Mod_keepsRow_26 rfl ?_
        rw [eM5]
        exact hQ
      · have nh6 : ¬ (38 : Nat) ≤ (k2 : Nat) := fun q => h6 ((nI_leI (a := (38 : Nat)) (b := (k2 : Nat)) (by omega) (by omega)).mpr q)
        refine g_aload_n (pc1 := 9) d_Mod_keepsRow_8 rfl 0 rfl ?_
        refine g_getr (pc1 := 12) d_Mod_keepsRow_9 rfl ⟨_, fo_Mod_122⟩ sh_401 (by decide) (rf_401_52 ld) ?_
        refine g_iload_n (pc1 := 13) d_Mod_keepsRow_12 rfl 1 rfl ?_
        refine g_aload_n (pc1 := 14) d_Mod_keepsRow_13 rfl 0 rfl ?_
        refine g_getr (pc1 := 17) d_Mod_keepsRow_14 rfl ⟨_, fo_Mod_125⟩ sh_401 (by decide) (rf_401_53 ld) ?_
        refine g_iload_n (pc1 := 18) d_Mod_keepsRow_17 rfl 1 rfl ?_
        refine g_iald (pc1 := 19) d_Mod_keepsRow_18 rfl sh_437 (by decide) (vp_in_nI (n := k2) (by omega) (by decide)) ?_
        rw [nI_clamp (n := k2) (by omega)]
        refine Wp.vali (y := M 437 k2) (flE_ne eM5 (fun q => absurd q.1 (by decide))) ?_
        refine g_iast (pc1 := 20) d_Mod_keepsRow_19 rfl sh_436 (by decide) (vp_in_nI (n := k2) (by omega) (by decide)) ?_
        rw [nI_clamp (n := k2) (by omega)]
        refine Wp.topM (fun M7 eM7 => ?_)
        refine g_iinc (pc1 := 23) (v := nI (k2 + 1)) (lv' := [(0, .ref 401), (1, .int (nI (k2 + 1)))]) d_Mod_keepsRow_20 rfl 1 rfl (nI_1 _) (by decide) [1, 0] rfl ?_
        refine g_goto (tgt := 2) d_Mod_keepsRow_23 (by decide) ?_
        refine Wp.eqM (show M7 = fl M 436 (0) (k2 + 1) (M 437) from by rw [eM7, eM5]; exact fl_s (by omega) rfl) ?_
        exact ih3 (k2 + 1) (by omega) (by omega)
  refine Wp.eqM (fl_0 (a := 436) (o := 0) (v := (M 437))).symm ?_
  exact LP4 _ 0 (by omega) (Nat.lt_succ_self _)
set_option maxHeartbeats 4000000 in
set_option maxRecDepth 20000 in
theorem x_Mod_copies {l : Launch} {ld : Nat} {M : gM} {L : gL} {Q : Option Value → gM → gL → gR → Prop} {lv : Nat} (hlv : M 401 18 = nI lv) (hl1 : lv ≤ 1) (hQ : Q none (uM (fl M 437 0 38 (M 436)) 401 54 (M 423 lv)) L (rf ld)) : Tm l y_Mod_copies (0, 0, 447) 447 [.ref 401] M L (rf ld) Q := by
  refine Tm.of (by decide) (Nat.le_of_ble_eq_true rfl) ?_
  show Wp l y_Mod_copies (0, 0, 447) 447 0 0 0 [(0, .ref 401)] [] M L (rf ld) Q
  refine g_iconst (pc1 := 1) (v := nI 0) d_Mod_copies_0 rfl (by decide) ?_
  refine g_istore_n (pc1 := 2) (lv' := [(0, .ref 401), (1, .int (nI 0))]) d_Mod_copies_1 rfl rfl (by decide) [1, 0] rfl ?_
  have LP11 : ∀ (f8 k9 : Nat), k9 ≤ 38 → 38 - k9 < f8 → Wp l y_Mod_copies (0, 0, 447) 447 0 0 2 [(0, .ref 401), (1, .int (nI k9))] [] (fl M 437 (0) k9 (M 436)) L (rf ld) Q := by
    intro f8
    induction f8 with
    | zero => intro k9 _ hm; exact absurd hm (Nat.not_lt_zero _)
    | succ f8 ih10 =>
      intro k9 hkk9 hmk9
      refine Wp.topM (fun M12 eM12 => ?_)
      refine g_iload_n (pc1 := 3) d_Mod_copies_2 rfl 1 rfl ?_
      refine g_bipush (pc1 := 5) (v := nI 38) d_Mod_copies_3 rfl (by decide) ?_
      refine g_icmp_ge (pc1 := 8) (tgt := 26) d_Mod_copies_5 (by decide) rfl (fun h13 => ?_) (fun h13 => ?_)
      · have nh13 : (38 : Nat) ≤ (k9 : Nat) := (nI_leI (a := (38 : Nat)) (b := (k9 : Nat)) (by omega) (by omega)).mp h13
        have ekk9 : k9 = 38 := by omega
        rw [ekk9] at eM12
        refine g_aload_n (pc1 := 27) d_Mod_copies_26 rfl 0 rfl ?_
        refine g_aload_n (pc1 := 28) d_Mod_copies_27 rfl 0 rfl ?_
        refine g_getr (pc1 := 31) d_Mod_copies_28 rfl ⟨_, fo_Mod_82⟩ sh_401 (by decide) (rf_401_35 ld) ?_
        refine g_aload_n (pc1 := 32) d_Mod_copies_31 rfl 0 rfl ?_
        refine g_geti (pc1 := 35) d_Mod_copies_32 rfl ⟨_, fo_Mod_236⟩ sh_401 (by decide) ?_
        refine Wp.vali (y := nI lv) ((flE_ne eM12 (fun q => absurd q.1 (by decide))).trans hlv) ?_
        refine g_iald (pc1 := 36) d_Mod_copies_35 rfl sh_423 (by decide) (vp_in_nI (n := lv) (by omega) (by decide)) ?_
        rw [nI_clamp (n := lv) (by omega)]
        refine Wp.vali (y := M 423 lv) (flE_ne eM12 (fun q => absurd q.1 (by decide))) ?_
        refine g_puti (pc1 := 39) d_Mod_copies_36 rfl fo_Mod_320 (po_12_54 _) sh_401 (by decide) ?_
        refine Wp.topM (fun M14 eM14 => ?_)
        refine g_return rfl d_Mod_copies_39 rfl ?_
        rw [eM14, eM12]
        exact hQ
      · have nh13 : ¬ (38 : Nat) ≤ (k9 : Nat) := fun q => h13 ((nI_leI (a := (38 : Nat)) (b := (k9 : Nat)) (by omega) (by omega)).mpr q)
        refine g_aload_n (pc1 := 9) d_Mod_copies_8 rfl 0 rfl ?_
        refine g_getr (pc1 := 12) d_Mod_copies_9 rfl ⟨_, fo_Mod_125⟩ sh_401 (by decide) (rf_401_53 ld) ?_
        refine g_iload_n (pc1 := 13) d_Mod_copies_12 rfl 1 rfl ?_
        refine g_aload_n (pc1 := 14) d_Mod_copies_13 rfl 0 rfl ?_
        refine g_getr (pc1 := 17) d_Mod_copies_14 rfl ⟨_, fo_Mod_122⟩ sh_401 (by decide) (rf_401_52 ld) ?_
        refine g_iload_n (pc1 := 18) d_Mod_copies_17 rfl 1 rfl ?_
        refine g_iald (pc1 := 19) d_Mod_copies_18 rfl sh_436 (by decide) (vp_in_nI (n := k9) (by omega) (by decide)) ?_
        rw [nI_clamp (n := k9) (by omega)]
        refine Wp.vali (y := M 436 k9) (flE_ne eM12 (fun q => absurd q.1 (by decide))) ?_
        refine g_iast (pc1 := 20) d_Mod_copies_19 rfl sh_437 (by decide) (vp_in_nI (n := k9) (by omega) (by decide)) ?_
        rw [nI_clamp (n := k9) (by omega)]
        refine Wp.topM (fun M15 eM15 => ?_)
        refine g_iinc (pc1 := 23) (v := nI (k9 + 1)) (lv' := [(0, .ref 401), (1, .int (nI (k9 + 1)))]) d_Mod_copies_20 rfl 1 rfl (nI_1 _) (by decide) [1, 0] rfl ?_
        refine g_goto (tgt := 2) d_Mod_copies_23 (by decide) ?_
        refine Wp.eqM (show M15 = fl M 437 (0) (k9 + 1) (M 436) from by rw [eM15, eM12]; exact fl_s (by omega) rfl) ?_
        exact ih10 (k9 + 1) (by omega) (by omega)
  refine Wp.eqM (fl_0 (a := 437) (o := 0) (v := (M 436))).symm ?_
  exact LP11 _ 0 (by omega) (Nat.lt_succ_self _)
set_option maxHeartbeats 4000000 in
set_option maxRecDepth 20000 in
theorem x_Mod_begins {l : Launch} {ld : Nat} {M : gM} {L : gL} {Q : Option Value → gM → gL → gR → Prop} {lv F : Nat} (hlv : M 401 18 = nI lv) (hl1 : lv ≤ 1) (hF : M 411 lv = nI F) (hF6 : F ≤ 6) (hQ : Q none (uM (fl (uM (fl (fl M 437 0 38 (fun _ => nI 0)) 437 0 F (fun f => M 412 (6 * lv + f))) 437 11 (-2)) 437 15 4 (fun _ => (-2))) 401 54 (M 423 lv)) L (rf ld)) : Tm l y_Mod_begins (0, 0, 447) 447 [.ref 401] M L (rf ld) Q := by
  refine Tm.of (by decide) (Nat.le_of_ble_eq_true rfl) ?_
  show Wp l y_Mod_begins (0, 0, 447) 447 0 0 0 [(0, .ref 401)] [] M L (rf ld) Q
  refine g_iconst (pc1 := 1) (v := nI 0) d_Mod_begins_0 rfl (by decide) ?_
  refine g_istore_n (pc1 := 2) (lv' := [(0, .ref 401), (1, .int (nI 0))]) d_Mod_begins_1 rfl rfl (by decide) [1, 0] rfl ?_
  have LP19 : ∀ (f16 k17 : Nat), k17 ≤ 38 → 38 - k17 < f16 → Wp l y_Mod_begins (0, 0, 447) 447 0 0 2 [(0, .ref 401), (1, .int (nI k17))] [] (fl M 437 (0) k17 (fun _ => nI 0)) L (rf ld) Q := by
    intro f16
    induction f16 with
    | zero => intro k17 _ hm; exact absurd hm (Nat.not_lt_zero _)
    | succ f16 ih18 =>
      intro k17 hkk17 hmk17
      refine Wp.topM (fun M20 eM20 => ?_)
      refine g_iload_n (pc1 := 3) d_Mod_begins_2 rfl 1 rfl ?_
      refine g_bipush (pc1 := 5) (v := nI 38) d_Mod_begins_3 rfl (by decide) ?_
      refine g_icmp_ge (pc1 := 8) (tgt := 21) d_Mod_begins_5 (by decide) rfl (fun h21 => ?_) (fun h21 => ?_)
      · have nh21 : (38 : Nat) ≤ (k17 : Nat) := (nI_leI (a := (38 : Nat)) (b := (k17 : Nat)) (by omega) (by omega)).mp h21
        have ekk17 : k17 = 38 := by omega
        rw [ekk17] at eM20
        refine g_iconst (pc1 := 22) (v := nI 0) d_Mod_begins_21 rfl (by decide) ?_
        refine g_istore_n (pc1 := 23) (lv' := [(0, .ref 401), (1, .int (nI 0))]) d_Mod_begins_22 rfl rfl (by decide) [1, 0] rfl ?_
        have LP25 : ∀ (f22 k23 : Nat), k23 ≤ F → F - k23 < f22 → Wp l y_Mod_begins (0, 0, 447) 447 0 0 23 [(0, .ref 401), (1, .int (nI k23))] [] (fl M20 437 (0) k23 (fun f => M 412 (6 * lv + f))) L (rf ld) Q := by
          intro f22
          induction f22 with
          | zero => intro k23 _ hm; exact absurd hm (Nat.not_lt_zero _)
          | succ f22 ih24 =>
            intro k23 hkk23 hmk23
            refine Wp.topM (fun M26 eM26 => ?_)
            refine g_iload_n (pc1 := 24) d_Mod_begins_23 rfl 1 rfl ?_
            refine g_aload_n (pc1 := 25) d_Mod_begins_24 rfl 0 rfl ?_
            refine g_getr (pc1 := 28) d_Mod_begins_25 rfl ⟨_, fo_Mod_46⟩ sh_401 (by decide) (rf_401_23 ld) ?_
            refine g_aload_n (pc1 := 29) d_Mod_begins_28 rfl 0 rfl ?_
            refine g_geti (pc1 := 32) d_Mod_begins_29 rfl ⟨_, fo_Mod_236⟩ sh_401 (by decide) ?_
            refine Wp.vali (y := nI lv) (((flE_ne eM26 (fun q => absurd q.1 (by decide))).trans (flE_ne eM20 (fun q => absurd q.1 (by decide)))).trans hlv) ?_
            refine g_iald (pc1 := 33) d_Mod_begins_32 rfl sh_411 (by decide) (vp_in_nI (n := lv) (by omega) (by decide)) ?_
            rw [nI_clamp (n := lv) (by omega)]
            refine Wp.vali (y := nI F) (((flE_ne eM26 (fun q => absurd q.1 (by decide))).trans (flE_ne eM20 (fun q => absurd q.1 (by decide)))).trans hF) ?_
            refine g_icmp_ge (pc1 := 36) (tgt := 62) d_Mod_begins_33 (by decide) rfl (fun h27 => ?_) (fun h27 => ?_)
            · have nh27 : (F : Nat) ≤ (k23 : Nat) := (nI_leI (a := (F : Nat)) (b := (k23 : Nat)) (by omega) (by omega)).mp h27
              have ekk23 : k23 = F := by omega
              rw [ekk23] at eM26
              refine g_aload_n (pc1 := 63) d_Mod_begins_62 rfl 0 rfl ?_
              refine g_getr (pc1 := 66) d_Mod_begins_63 rfl ⟨_, fo_Mod_125⟩ sh_401 (by decide) (rf_401_53 ld) ?_
              refine g_bipush (pc1 := 68) (v := nI 11) d_Mod_begins_66 rfl (by decide) ?_
              refine g_bipush (pc1 := 70) (v := (-2)) d_Mod_begins_68 rfl (by decide) ?_
              refine g_iast (pc1 := 71) d_Mod_begins_70 rfl sh_437 (by decide) (vp_in_nI (n := 11) (by omega) (by decide)) ?_
              rw [nI_clamp (n := 11) (by omega)]
              refine Wp.topM (fun M28 eM28 => ?_)
              refine g_iconst (pc1 := 72) (v := nI 0) d_Mod_begins_71 rfl (by decide) ?_
              refine g_istore_n (pc1 := 73) (lv' := [(0, .ref 401), (1, .int (nI 0))]) d_Mod_begins_72 rfl rfl (by decide) [1, 0] rfl ?_
              have LP32 : ∀ (f29 k30 : Nat), k30 ≤ 4 → 4 - k30 < f29 → Wp l y_Mod_begins (0, 0, 447) 447 0 0 73 [(0, .ref 401), (1, .int (nI k30))] [] (fl M28 437 (15) k30 (fun _ => (-2))) L (rf ld) Q := by
                intro f29
                induction f29 with
                | zero => intro k30 _ hm; exact absurd hm (Nat.not_lt_zero _)
                | succ f29 ih31 =>
                  intro k30 hkk30 hmk30
                  refine Wp.topM (fun M33 eM33 => ?_)
                  refine g_iload_n (pc1 := 74) d_Mod_begins_73 rfl 1 rfl ?_
                  refine g_iconst (pc1 := 75) (v := nI 4) d_Mod_begins_74 rfl (by decide) ?_
                  refine g_icmp_ge (pc1 := 78) (tgt := 95) d_Mod_begins_75 (by decide) rfl (fun h34 => ?_) (fun h34 => ?_)
                  · have nh34 : (4 : Nat) ≤ (k30 : Nat) := (nI_leI (a := (4 : Nat)) (b := (k30 : Nat)) (by omega) (by omega)).mp h34
                    have ekk30 : k30 = 4 := by omega
                    rw [ekk30] at eM33
                    refine g_aload_n (pc1 := 96) d_Mod_begins_95 rfl 0 rfl ?_
                    refine g_aload_n (pc1 := 97) d_Mod_begins_96 rfl 0 rfl ?_
                    refine g_getr (pc1 := 100) d_Mod_begins_97 rfl ⟨_, fo_Mod_82⟩ sh_401 (by decide) (rf_401_35 ld) ?_
                    refine g_aload_n (pc1 := 101) d_Mod_begins_100 rfl 0 rfl ?_
                    refine g_geti (pc1 := 104) d_Mod_begins_101 rfl ⟨_, fo_Mod_236⟩ sh_401 (by decide) ?_
                    refine Wp.vali (y := nI lv) (((((flE_ne eM33 (fun q => absurd q.1 (by decide))).trans (rd_ne eM28 (fun q => absurd q.1 (by decide)))).trans (flE_ne eM26 (fun q => absurd q.1 (by decide)))).trans (flE_ne eM20 (fun q => absurd q.1 (by decide)))).trans hlv) ?_
                    refine g_iald (pc1 := 105) d_Mod_begins_104 rfl sh_423 (by decide) (vp_in_nI (n := lv) (by omega) (by decide)) ?_
                    rw [nI_clamp (n := lv) (by omega)]
                    refine Wp.vali (y := M 423 lv) ((((flE_ne eM33 (fun q => absurd q.1 (by decide))).trans (rd_ne eM28 (fun q => absurd q.1 (by decide)))).trans (flE_ne eM26 (fun q => absurd q.1 (by decide)))).trans (flE_ne eM20 (fun q => absurd q.1 (by decide)))) ?_
                    refine g_puti (pc1 := 108) d_Mod_begins_105 rfl fo_Mod_320 (po_12_54 _) sh_401 (by decide) ?_
                    refine Wp.topM (fun M35 eM35 => ?_)
                    refine g_return rfl d_Mod_begins_108 rfl ?_
                    rw [eM35, eM33, eM28, eM26, eM20]
                    exact hQ
                  · have nh34 : ¬ (4 : Nat) ≤ (k30 : Nat) := fun q => h34 ((nI_leI (a := (4 : Nat)) (b := (k30 : Nat)) (by omega) (by omega)).mpr q)
                    refine g_aload_n (pc1 := 79) d_Mod_begins_78 rfl 0 rfl ?_
                    refine g_getr (pc1 := 82) d_Mod_begins_79 rfl ⟨_, fo_Mod_125⟩ sh_401 (by decide) (rf_401_53 ld) ?_
                    refine g_bipush (pc1 := 84) (v := nI 15) d_Mod_begins_82 rfl (by decide) ?_
                    refine g_iload_n (pc1 := 85) d_Mod_begins_84 rfl 1 rfl ?_
                    refine g_iadd (pc1 := 86) d_Mod_begins_85 rfl ?_
                    refine Wp.vali (y := nI (15 + k30)) (nI_add _ _) ?_
                    refine g_bipush (pc1 := 88) (v := (-2)) d_Mod_begins_86 rfl (by decide) ?_
                    refine g_iast (pc1 := 89) d_Mod_begins_88 rfl sh_437 (by decide) (vp_in_nI (n := 15 + k30) (by omega) (by decide)) ?_
                    rw [nI_clamp (n := 15 + k30) (by omega)]
                    refine Wp.topM (fun M36 eM36 => ?_)
                    refine g_iinc (pc1 := 92) (v := nI (k30 + 1)) (lv' := [(0, .ref 401), (1, .int (nI (k30 + 1)))]) d_Mod_begins_89 rfl 1 rfl (nI_1 _) (by decide) [1, 0] rfl ?_
                    refine g_goto (tgt := 73) d_Mod_begins_92 (by decide) ?_
                    refine Wp.eqM (show M36 = fl M28 437 (15) (k30 + 1) (fun _ => (-2)) from by rw [eM36, eM33]; exact fl_s (by omega) rfl) ?_
                    exact ih31 (k30 + 1) (by omega) (by omega)
              refine Wp.eqM (fl_0 (a := 437) (o := 15) (v := (fun _ => (-2)))).symm ?_
              exact LP32 _ 0 (by omega) (Nat.lt_succ_self _)
            · have nh27 : ¬ (F : Nat) ≤ (k23 : Nat) := fun q => h27 ((nI_leI (a := (F : Nat)) (b := (k23 : Nat)) (by omega) (by omega)).mpr q)
              refine g_aload_n (pc1 := 37) d_Mod_begins_36 rfl 0 rfl ?_
              refine g_getr (pc1 := 40) d_Mod_begins_37 rfl ⟨_, fo_Mod_125⟩ sh_401 (by decide) (rf_401_53 ld) ?_
              refine g_iload_n (pc1 := 41) d_Mod_begins_40 rfl 1 rfl ?_
              refine g_aload_n (pc1 := 42) d_Mod_begins_41 rfl 0 rfl ?_
              refine g_getr (pc1 := 45) d_Mod_begins_42 rfl ⟨_, fo_Mod_49⟩ sh_401 (by decide) (rf_401_24 ld) ?_
              refine g_bipush (pc1 := 47) (v := nI 6) d_Mod_begins_45 rfl (by decide) ?_
              refine g_aload_n (pc1 := 48) d_Mod_begins_47 rfl 0 rfl ?_
              refine g_geti (pc1 := 51) d_Mod_begins_48 rfl ⟨_, fo_Mod_236⟩ sh_401 (by decide) ?_
              refine Wp.vali (y := nI lv) (((flE_ne eM26 (fun q => absurd q.1 (by decide))).trans (flE_ne eM20 (fun q => absurd q.1 (by decide)))).trans hlv) ?_
              refine g_imul (pc1 := 52) d_Mod_begins_51 rfl ?_
              refine Wp.vali (y := nI (6 * lv)) (nI_mul _ _) ?_
              refine g_iload_n (pc1 := 53) d_Mod_begins_52 rfl 1 rfl ?_
              refine g_iadd (pc1 := 54) d_Mod_begins_53 rfl ?_
              refine Wp.vali (y := nI ((6 * lv) + k23)) (nI_add _ _) ?_
              refine g_iald (pc1 := 55) d_Mod_begins_54 rfl sh_412 (by decide) (vp_in_nI (n := (6 * lv) + k23) (by omega) (by decide)) ?_
              rw [nI_clamp (n := (6 * lv) + k23) (by omega)]
              refine Wp.vali (y := M 412 ((6 * lv) + k23)) ((flE_ne eM26 (fun q => absurd q.1 (by decide))).trans (flE_ne eM20 (fun q => absurd q.1 (by decide)))) ?_
              refine g_iast (pc1 := 56) d_Mod_begins_55 rfl sh_437 (by decide) (vp_in_nI (n := k23) (by omega) (by decide)) ?_
              rw [nI_clamp (n := k23) (by omega)]
              refine Wp.topM (fun M37 eM37 => ?_)
              refine g_iinc (pc1 := 59) (v := nI (k23 + 1)) (lv' := [(0, .ref 401), (1, .int (nI (k23 + 1)))]) d_Mod_begins_56 rfl 1 rfl (nI_1 _) (by decide) [1, 0] rfl ?_
              refine g_goto (tgt := 23) d_Mod_begins_59 (by decide) ?_
              refine Wp.eqM (show M37 = fl M20 437 (0) (k23 + 1) (fun f => M 412 (6 * lv + f)) from by rw [eM37, eM26]; exact fl_s (by omega) rfl) ?_
              exact ih24 (k23 + 1) (by omega) (by omega)
        refine Wp.eqM (fl_0 (a := 437) (o := 0) (v := (fun f => M 412 (6 * lv + f)))).symm ?_
        exact LP25 _ 0 (by omega) (Nat.lt_succ_self _)
      · have nh21 : ¬ (38 : Nat) ≤ (k17 : Nat) := fun q => h21 ((nI_leI (a := (38 : Nat)) (b := (k17 : Nat)) (by omega) (by omega)).mpr q)
        refine g_aload_n (pc1 := 9) d_Mod_begins_8 rfl 0 rfl ?_
        refine g_getr (pc1 := 12) d_Mod_begins_9 rfl ⟨_, fo_Mod_125⟩ sh_401 (by decide) (rf_401_53 ld) ?_
        refine g_iload_n (pc1 := 13) d_Mod_begins_12 rfl 1 rfl ?_
        refine g_iconst (pc1 := 14) (v := nI 0) d_Mod_begins_13 rfl (by decide) ?_
        refine g_iast (pc1 := 15) d_Mod_begins_14 rfl sh_437 (by decide) (vp_in_nI (n := k17) (by omega) (by decide)) ?_
        rw [nI_clamp (n := k17) (by omega)]
        refine Wp.topM (fun M38 eM38 => ?_)
        refine g_iinc (pc1 := 18) (v := nI (k17 + 1)) (lv' := [(0, .ref 401), (1, .int (nI (k17 + 1)))]) d_Mod_begins_15 rfl 1 rfl (nI_1 _) (by decide) [1, 0] rfl ?_
        refine g_goto (tgt := 2) d_Mod_begins_18 (by decide) ?_
        refine Wp.eqM (show M38 = fl M 437 (0) (k17 + 1) (fun _ => nI 0) from by rw [eM38, eM20]; exact fl_s (by omega) rfl) ?_
        exact ih18 (k17 + 1) (by omega) (by omega)
  refine Wp.eqM (fl_0 (a := 437) (o := 0) (v := (fun _ => nI 0))).symm ?_
  exact LP19 _ 0 (by omega) (Nat.lt_succ_self _)
set_option maxHeartbeats 4000000 in
set_option maxRecDepth 20000 in
theorem x_Mod_appends {l : Launch} {ld : Nat} {M : gM} {L : gL} {Q : Option Value → gM → gL → gR → Prop} {p0 : Int64} {p1 : Int32} (hQ0 : p1 = 0 → Q (some (.long p0)) M L (rf ld)) (hQ1 : ¬ p1 = 0 → Q (some (.long (27 * p0 + (p1 - nI 97 + nI 1).toInt64))) M L (rf ld)) : Tm l y_Mod_appends (0, 0, 447) 447 [.long p0, .int p1] M L (rf ld) Q := by
  refine Tm.of (by decide) (Nat.le_of_ble_eq_true rfl) ?_
  show Wp l y_Mod_appends (0, 0, 447) 447 0 0 0 [(0, .long p0), (2, .int p1)] [] M L (rf ld) Q
  refine g_iload_n (pc1 := 1) d_Mod_appends_0 rfl 1 rfl ?_
  refine g_if_ne (pc1 := 4) (tgt := 8) d_Mod_appends_1 (by decide) rfl (fun h39 => ?_) (fun h39 => ?_)
  · refine g_ldc2 (pc1 := 11) (v := 27) d_Mod_appends_8 rfl co_Mod_178 ?_
    refine g_lload_n (pc1 := 12) d_Mod_appends_11 rfl 0 rfl ?_
    refine g_lmul (pc1 := 13) d_Mod_appends_12 rfl ?_
    refine g_iload_n (pc1 := 14) d_Mod_appends_13 rfl 1 rfl ?_
    refine g_bipush (pc1 := 16) (v := nI 97) d_Mod_appends_14 rfl (by decide) ?_
    refine g_isub (pc1 := 17) d_Mod_appends_16 rfl ?_
    refine g_iconst (pc1 := 18) (v := nI 1) d_Mod_appends_17 rfl (by decide) ?_
    refine g_iadd (pc1 := 19) d_Mod_appends_18 rfl ?_
    refine g_i2l (pc1 := 20) d_Mod_appends_19 rfl ?_
    refine g_ladd (pc1 := 21) d_Mod_appends_20 rfl ?_
    refine g_lreturn rfl d_Mod_appends_21 rfl ?_
    exact hQ1 ‹_›
  · refine g_lload_n (pc1 := 5) d_Mod_appends_4 rfl 0 rfl ?_
    refine g_goto (tgt := 21) d_Mod_appends_5 (by decide) ?_
    refine g_lreturn rfl d_Mod_appends_21 rfl ?_
    exact hQ0 ‹_›
set_option maxHeartbeats 4000000 in
set_option maxRecDepth 20000 in
theorem x_Mod_plain_0 {l : Launch} {ld : Nat} {M : gM} {L : gL} {Q : Option Value → gM → gL → gR → Prop}  (hQ : Q none (uM (uM (uM (uM (uM (uM (uM (uM (uM (uM (uM (uM (uM (M) 411 0 (nI 0)) 415 0 (nI 0)) 418 0 (nI 0)) 420 0 (nI 0)) 423 0 (nI 0)) 424 0 (nI 0)) 425 0 (nI 0)) 424 1 (nI 0)) 425 1 (nI 0)) 424 2 (nI 0)) 425 2 (nI 0)) 424 3 (nI 0)) 425 3 (nI 0)) L (rf ld)) : Tm l y_Mod_plain (0, 0, 447) 447 [.ref 401, .int (nI 0)] M L (rf ld) Q := by
  refine Tm.of (by decide) (Nat.le_of_ble_eq_true rfl) ?_
  show Wp l y_Mod_plain (0, 0, 447) 447 0 0 0 [(0, .ref 401), (1, .int (nI 0))] [] M L (rf ld) Q
  refine g_aload_n (pc1 := 1) d_Mod_plain_0 rfl 0 rfl ?_
  refine g_getr (pc1 := 4) d_Mod_plain_1 rfl ⟨_, fo_Mod_46⟩ sh_401 (by decide) (rf_401_23 ld) ?_
  refine g_iload_n (pc1 := 5) d_Mod_plain_4 rfl 1 rfl ?_
  refine g_iconst (pc1 := 6) (v := nI 0) d_Mod_plain_5 rfl (by decide) ?_
  refine g_iast (pc1 := 7) d_Mod_plain_6 rfl sh_411 (by decide) (vp_in_nI (n := 0) (by omega) (by decide)) ?_
  rw [nI_clamp (n := 0) (by omega)]
  refine Wp.topM (fun M40 eM40 => ?_)
  refine g_aload_n (pc1 := 8) d_Mod_plain_7 rfl 0 rfl ?_
  refine g_getr (pc1 := 11) d_Mod_plain_8 rfl ⟨_, fo_Mod_58⟩ sh_401 (by decide) (rf_401_27 ld) ?_
  refine g_iload_n (pc1 := 12) d_Mod_plain_11 rfl 1 rfl ?_
  refine g_iconst (pc1 := 13) (v := nI 0) d_Mod_plain_12 rfl (by decide) ?_
  refine g_iast (pc1 := 14) d_Mod_plain_13 rfl sh_415 (by decide) (vp_in_nI (n := 0) (by omega) (by decide)) ?_
  rw [nI_clamp (n := 0) (by omega)]
  refine Wp.topM (fun M41 eM41 => ?_)
  refine g_aload_n (pc1 := 15) d_Mod_plain_14 rfl 0 rfl ?_
  refine g_getr (pc1 := 18) d_Mod_plain_15 rfl ⟨_, fo_Mod_67⟩ sh_401 (by decide) (rf_401_30 ld) ?_
  refine g_iload_n (pc1 := 19) d_Mod_plain_18 rfl 1 rfl ?_
  refine g_iconst (pc1 := 20) (v := nI 0) d_Mod_plain_19 rfl (by decide) ?_
  refine g_iast (pc1 := 21) d_Mod_plain_20 rfl sh_418 (by decide) (vp_in_nI (n := 0) (by omega) (by decide)) ?_
  rw [nI_clamp (n := 0) (by omega)]
  refine Wp.topM (fun M42 eM42 => ?_)
  refine g_aload_n (pc1 := 22) d_Mod_plain_21 rfl 0 rfl ?_
  refine g_getr (pc1 := 25) d_Mod_plain_22 rfl ⟨_, fo_Mod_73⟩ sh_401 (by decide) (rf_401_32 ld) ?_
  refine g_iload_n (pc1 := 26) d_Mod_plain_25 rfl 1 rfl ?_
  refine g_iconst (pc1 := 27) (v := nI 0) d_Mod_plain_26 rfl (by decide) ?_
  refine g_iast (pc1 := 28) d_Mod_plain_27 rfl sh_420 (by decide) (vp_in_nI (n := 0) (by omega) (by decide)) ?_
  rw [nI_clamp (n := 0) (by omega)]
  refine Wp.topM (fun M43 eM43 => ?_)
  refine g_aload_n (pc1 := 29) d_Mod_plain_28 rfl 0 rfl ?_
  refine g_getr (pc1 := 32) d_Mod_plain_29 rfl ⟨_, fo_Mod_82⟩ sh_401 (by decide) (rf_401_35 ld) ?_
  refine g_iload_n (pc1 := 33) d_Mod_plain_32 rfl 1 rfl ?_
  refine g_iconst (pc1 := 34) (v := nI 0) d_Mod_plain_33 rfl (by decide) ?_
  refine g_iast (pc1 := 35) d_Mod_plain_34 rfl sh_423 (by decide) (vp_in_nI (n := 0) (by omega) (by decide)) ?_
  rw [nI_clamp (n := 0) (by omega)]
  refine Wp.topM (fun M44 eM44 => ?_)
  refine g_iconst (pc1 := 36) (v := nI 0) d_Mod_plain_35 rfl (by decide) ?_
  refine g_istore_n (pc1 := 37) (lv' := [(0, .ref 401), (1, .int (nI 0)), (2, .int (nI 0))]) d_Mod_plain_36 rfl rfl (by decide) [1, 2, 0] rfl ?_
  refine g_iload_n (pc1 := 38) d_Mod_plain_37 rfl 2 rfl ?_
  refine g_iconst (pc1 := 39) (v := nI 4) d_Mod_plain_38 rfl (by decide) ?_
  refine g_icmp_ge (pc1 := 42) (tgt := 70) d_Mod_plain_39 (by decide) rfl (fun h => absurd h (by decide)) (fun _ => ?_)
  refine g_aload_n (pc1 := 43) d_Mod_plain_42 rfl 0 rfl ?_
  refine g_getr (pc1 := 46) d_Mod_plain_43 rfl ⟨_, fo_Mod_85⟩ sh_401 (by decide) (rf_401_36 ld) ?_
  refine g_iconst (pc1 := 47) (v := nI 4) d_Mod_plain_46 rfl (by decide) ?_
  refine g_iload_n (pc1 := 48) d_Mod_plain_47 rfl 1 rfl ?_
  refine g_imul (pc1 := 49) d_Mod_plain_48 rfl ?_
  refine Wp.vali (y := nI 0) (by decide) ?_
  refine g_iload_n (pc1 := 50) d_Mod_plain_49 rfl 2 rfl ?_
  refine g_iadd (pc1 := 51) d_Mod_plain_50 rfl ?_
  refine Wp.vali (y := nI 0) (by decide) ?_
  refine g_iconst (pc1 := 52) (v := nI 0) d_Mod_plain_51 rfl (by decide) ?_
  refine g_iast (pc1 := 53) d_Mod_plain_52 rfl sh_424 (by decide) (vp_in_nI (n := 0) (by omega) (by decide)) ?_
  rw [nI_clamp (n := 0) (by omega)]
  refine Wp.topM (fun M46 eM46 => ?_)
  refine g_aload_n (pc1 := 54) d_Mod_plain_53 rfl 0 rfl ?_
  refine g_getr (pc1 := 57) d_Mod_plain_54 rfl ⟨_, fo_Mod_88⟩ sh_401 (by decide) (rf_401_37 ld) ?_
  refine g_iconst (pc1 := 58) (v := nI 4) d_Mod_plain_57 rfl (by decide) ?_
  refine g_iload_n (pc1 := 59) d_Mod_plain_58 rfl 1 rfl ?_
  refine g_imul (pc1 := 60) d_Mod_plain_59 rfl ?_
  refine Wp.vali (y := nI 0) (by decide) ?_
  refine g_iload_n (pc1 := 61) d_Mod_plain_60 rfl 2 rfl ?_
  refine g_iadd (pc1 := 62) d_Mod_plain_61 rfl ?_
  refine Wp.vali (y := nI 0) (by decide) ?_
  refine g_iconst (pc1 := 63) (v := nI 0) d_Mod_plain_62 rfl (by decide) ?_
  refine g_iast (pc1 := 64) d_Mod_plain_63 rfl sh_425 (by decide) (vp_in_nI (n := 0) (by omega) (by decide)) ?_
  rw [nI_clamp (n := 0) (by omega)]
  refine Wp.topM (fun M47 eM47 => ?_)
  refine g_iinc (pc1 := 67) (v := nI 1) (lv' := [(0, .ref 401), (1, .int (nI 0)), (2, .int (nI 1))]) d_Mod_plain_64 rfl 2 rfl (by decide) (by decide) [1, 2, 0] rfl ?_
  refine g_goto (tgt := 37) d_Mod_plain_67 (by decide) ?_
  refine g_iload_n (pc1 := 38) d_Mod_plain_37 rfl 2 rfl ?_
  refine g_iconst (pc1 := 39) (v := nI 4) d_Mod_plain_38 rfl (by decide) ?_
  refine g_icmp_ge (pc1 := 42) (tgt := 70) d_Mod_plain_39 (by decide) rfl (fun h => absurd h (by decide)) (fun _ => ?_)
  refine g_aload_n (pc1 := 43) d_Mod_plain_42 rfl 0 rfl ?_
  refine g_getr (pc1 := 46) d_Mod_plain_43 rfl ⟨_, fo_Mod_85⟩ sh_401 (by decide) (rf_401_36 ld) ?_
  refine g_iconst (pc1 := 47) (v := nI 4) d_Mod_plain_46 rfl (by decide) ?_
  refine g_iload_n (pc1 := 48) d_Mod_plain_47 rfl 1 rfl ?_
  refine g_imul (pc1 := 49) d_Mod_plain_48 rfl ?_
  refine Wp.vali (y := nI 0) (by decide) ?_
  refine g_iload_n (pc1 := 50) d_Mod_plain_49 rfl 2 rfl ?_
  refine g_iadd (pc1 := 51) d_Mod_plain_50 rfl ?_
  refine Wp.vali (y := nI 1) (by decide) ?_
  refine g_iconst (pc1 := 52) (v := nI 0) d_Mod_plain_51 rfl (by decide) ?_
  refine g_iast (pc1 := 53) d_Mod_plain_52 rfl sh_424 (by decide) (vp_in_nI (n := 1) (by omega) (by decide)) ?_
  rw [nI_clamp (n := 1) (by omega)]
  refine Wp.topM (fun M49 eM49 => ?_)
  refine g_aload_n (pc1 := 54) d_Mod_plain_53 rfl 0 rfl ?_
  refine g_getr (pc1 := 57) d_Mod_plain_54 rfl ⟨_, fo_Mod_88⟩ sh_401 (by decide) (rf_401_37 ld) ?_
  refine g_iconst (pc1 := 58) (v := nI 4) d_Mod_plain_57 rfl (by decide) ?_
  refine g_iload_n (pc1 := 59) d_Mod_plain_58 rfl 1 rfl ?_
  refine g_imul (pc1 := 60) d_Mod_plain_59 rfl ?_
  refine Wp.vali (y := nI 0) (by decide) ?_
  refine g_iload_n (pc1 := 61) d_Mod_plain_60 rfl 2 rfl ?_
  refine g_iadd (pc1 := 62) d_Mod_plain_61 rfl ?_
  refine Wp.vali (y := nI 1) (by decide) ?_
  refine g_iconst (pc1 := 63) (v := nI 0) d_Mod_plain_62 rfl (by decide) ?_
  refine g_iast (pc1 := 64) d_Mod_plain_63 rfl sh_425 (by decide) (vp_in_nI (n := 1) (by omega) (by decide)) ?_
  rw [nI_clamp (n := 1) (by omega)]
  refine Wp.topM (fun M50 eM50 => ?_)
  refine g_iinc (pc1 := 67) (v := nI 2) (lv' := [(0, .ref 401), (1, .int (nI 0)), (2, .int (nI 2))]) d_Mod_plain_64 rfl 2 rfl (by decide) (by decide) [1, 2, 0] rfl ?_
  refine g_goto (tgt := 37) d_Mod_plain_67 (by decide) ?_
  refine g_iload_n (pc1 := 38) d_Mod_plain_37 rfl 2 rfl ?_
  refine g_iconst (pc1 := 39) (v := nI 4) d_Mod_plain_38 rfl (by decide) ?_
  refine g_icmp_ge (pc1 := 42) (tgt := 70) d_Mod_plain_39 (by decide) rfl (fun h => absurd h (by decide)) (fun _ => ?_)
  refine g_aload_n (pc1 := 43) d_Mod_plain_42 rfl 0 rfl ?_
  refine g_getr (pc1 := 46) d_Mod_plain_43 rfl ⟨_, fo_Mod_85⟩ sh_401 (by decide) (rf_401_36 ld) ?_
  refine g_iconst (pc1 := 47) (v := nI 4) d_Mod_plain_46 rfl (by decide) ?_
  refine g_iload_n (pc1 := 48) d_Mod_plain_47 rfl 1 rfl ?_
  refine g_imul (pc1 := 49) d_Mod_plain_48 rfl ?_
  refine Wp.vali (y := nI 0) (by decide) ?_
  refine g_iload_n (pc1 := 50) d_Mod_plain_49 rfl 2 rfl ?_
  refine g_iadd (pc1 := 51) d_Mod_plain_50 rfl ?_
  refine Wp.vali (y := nI 2) (by decide) ?_
  refine g_iconst (pc1 := 52) (v := nI 0) d_Mod_plain_51 rfl (by decide) ?_
  refine g_iast (pc1 := 53) d_Mod_plain_52 rfl sh_424 (by decide) (vp_in_nI (n := 2) (by omega) (by decide)) ?_
  rw [nI_clamp (n := 2) (by omega)]
  refine Wp.topM (fun M52 eM52 => ?_)
  refine g_aload_n (pc1 := 54) d_Mod_plain_53 rfl 0 rfl ?_
  refine g_getr (pc1 := 57) d_Mod_plain_54 rfl ⟨_, fo_Mod_88⟩ sh_401 (by decide) (rf_401_37 ld) ?_
  refine g_iconst (pc1 := 58) (v := nI 4) d_Mod_plain_57 rfl (by decide) ?_
  refine g_iload_n (pc1 := 59) d_Mod_plain_58 rfl 1 rfl ?_
  refine g_imul (pc1 := 60) d_Mod_plain_59 rfl ?_
  refine Wp.vali (y := nI 0) (by decide) ?_
  refine g_iload_n (pc1 := 61) d_Mod_plain_60 rfl 2 rfl ?_
  refine g_iadd (pc1 := 62) d_Mod_plain_61 rfl ?_
  refine Wp.vali (y := nI 2) (by decide) ?_
  refine g_iconst (pc1 := 63) (v := nI 0) d_Mod_plain_62 rfl (by decide) ?_
  refine g_iast (pc1 := 64) d_Mod_plain_63 rfl sh_425 (by decide) (vp_in_nI (n := 2) (by omega) (by decide)) ?_
  rw [nI_clamp (n := 2) (by omega)]
  refine Wp.topM (fun M53 eM53 => ?_)
  refine g_iinc (pc1 := 67) (v := nI 3) (lv' := [(0, .ref 401), (1, .int (nI 0)), (2, .int (nI 3))]) d_Mod_plain_64 rfl 2 rfl (by decide) (by decide) [1, 2, 0] rfl ?_
  refine g_goto (tgt := 37) d_Mod_plain_67 (by decide) ?_
  refine g_iload_n (pc1 := 38) d_Mod_plain_37 rfl 2 rfl ?_
  refine g_iconst (pc1 := 39) (v := nI 4) d_Mod_plain_38 rfl (by decide) ?_
  refine g_icmp_ge (pc1 := 42) (tgt := 70) d_Mod_plain_39 (by decide) rfl (fun h => absurd h (by decide)) (fun _ => ?_)
  refine g_aload_n (pc1 := 43) d_Mod_plain_42 rfl 0 rfl ?_
  refine g_getr (pc1 := 46) d_Mod_plain_43 rfl ⟨_, fo_Mod_85⟩ sh_401 (by decide) (rf_401_36 ld) ?_
  refine g_iconst (pc1 := 47) (v := nI 4) d_Mod_plain_46 rfl (by decide) ?_
  refine g_iload_n (pc1 := 48) d_Mod_plain_47 rfl 1 rfl ?_
  refine g_imul (pc1 := 49) d_Mod_plain_48 rfl ?_
  refine Wp.vali (y := nI 0) (by decide) ?_
  refine g_iload_n (pc1 := 50) d_Mod_plain_49 rfl 2 rfl ?_
  refine g_iadd (pc1 := 51) d_Mod_plain_50 rfl ?_
  refine Wp.vali (y := nI 3) (by decide) ?_
  refine g_iconst (pc1 := 52) (v := nI 0) d_Mod_plain_51 rfl (by decide) ?_
  refine g_iast (pc1 := 53) d_Mod_plain_52 rfl sh_424 (by decide) (vp_in_nI (n := 3) (by omega) (by decide)) ?_
  rw [nI_clamp (n := 3) (by omega)]
  refine Wp.topM (fun M55 eM55 => ?_)
  refine g_aload_n (pc1 := 54) d_Mod_plain_53 rfl 0 rfl ?_
  refine g_getr (pc1 := 57) d_Mod_plain_54 rfl ⟨_, fo_Mod_88⟩ sh_401 (by decide) (rf_401_37 ld) ?_
  refine g_iconst (pc1 := 58) (v := nI 4) d_Mod_plain_57 rfl (by decide) ?_
  refine g_iload_n (pc1 := 59) d_Mod_plain_58 rfl 1 rfl ?_
  refine g_imul (pc1 := 60) d_Mod_plain_59 rfl ?_
  refine Wp.vali (y := nI 0) (by decide) ?_
  refine g_iload_n (pc1 := 61) d_Mod_plain_60 rfl 2 rfl ?_
  refine g_iadd (pc1 := 62) d_Mod_plain_61 rfl ?_
  refine Wp.vali (y := nI 3) (by decide) ?_
  refine g_iconst (pc1 := 63) (v := nI 0) d_Mod_plain_62 rfl (by decide) ?_
  refine g_iast (pc1 := 64) d_Mod_plain_63 rfl sh_425 (by decide) (vp_in_nI (n := 3) (by omega) (by decide)) ?_
  rw [nI_clamp (n := 3) (by omega)]
  refine Wp.topM (fun M56 eM56 => ?_)
  refine g_iinc (pc1 := 67) (v := nI 4) (lv' := [(0, .ref 401), (1, .int (nI 0)), (2, .int (nI 4))]) d_Mod_plain_64 rfl 2 rfl (by decide) (by decide) [1, 2, 0] rfl ?_
  refine g_goto (tgt := 37) d_Mod_plain_67 (by decide) ?_
  refine g_iload_n (pc1 := 38) d_Mod_plain_37 rfl 2 rfl ?_
  refine g_iconst (pc1 := 39) (v := nI 4) d_Mod_plain_38 rfl (by decide) ?_
  refine g_icmp_ge (pc1 := 42) (tgt := 70) d_Mod_plain_39 (by decide) rfl (fun _ => ?_) (fun h => absurd h (by decide))
  refine g_return rfl d_Mod_plain_70 rfl ?_
  rw [eM56, eM55, eM53, eM52, eM50, eM49, eM47, eM46, eM44, eM43, eM42, eM41, eM40]
  exact hQ
set_option maxHeartbeats 4000000 in
set_option maxRecDepth 20000 in
theorem x_Mod_plain_1 {l : Launch} {ld : Nat} {M : gM} {L : gL} {Q : Option Value → gM → gL → gR → Prop}  (hQ : Q none (uM (uM (uM (uM (uM (uM (uM (uM (uM (uM (uM (uM (uM (M) 411 1 (nI 0)) 415 1 (nI 0)) 418 1 (nI 0)) 420 1 (nI 0)) 423 1 (nI 0)) 424 4 (nI 0)) 425 4 (nI 0)) 424 5 (nI 0)) 425 5 (nI 0)) 424 6 (nI 0)) 425 6 (nI 0)) 424 7 (nI 0)) 425 7 (nI 0)) L (rf ld)) : Tm l y_Mod_plain (0, 0, 447) 447 [.ref 401, .int (nI 1)] M L (rf ld) Q := by
  refine Tm.of (by decide) (Nat.le_of_ble_eq_true rfl) ?_
  show Wp l y_Mod_plain (0, 0, 447) 447 0 0 0 [(0, .ref 401), (1, .int (nI 1))] [] M L (rf ld) Q
  refine g_aload_n (pc1 := 1) d_Mod_plain_0 rfl 0 rfl ?_
  refine g_getr (pc1 := 4) d_Mod_plain_1 rfl ⟨_, fo_Mod_46⟩ sh_401 (by decide) (rf_401_23 ld) ?_
  refine g_iload_n (pc1 := 5) d_Mod_plain_4 rfl 1 rfl ?_
  refine g_iconst (pc1 := 6) (v := nI 0) d_Mod_plain_5 rfl (by decide) ?_
  refine g_iast (pc1 := 7) d_Mod_plain_6 rfl sh_411 (by decide) (vp_in_nI (n := 1) (by omega) (by decide)) ?_
  rw [nI_clamp (n := 1) (by omega)]
  refine Wp.topM (fun M58 eM58 => ?_)
  refine g_aload_n (pc1 := 8) d_Mod_plain_7 rfl 0 rfl ?_
  refine g_getr (pc1 := 11) d_Mod_plain_8 rfl ⟨_, fo_Mod_58⟩ sh_401 (by decide) (rf_401_27 ld) ?_
  refine g_iload_n (pc1 := 12) d_Mod_plain_11 rfl 1 rfl ?_
  refine g_iconst (pc1 := 13) (v := nI 0) d_Mod_plain_12 rfl (by decide) ?_
  refine g_iast (pc1 := 14) d_Mod_plain_13 rfl sh_415 (by decide) (vp_in_nI (n := 1) (by omega) (by decide)) ?_
  rw [nI_clamp (n := 1) (by omega)]
  refine Wp.topM (fun M59 eM59 => ?_)
  refine g_aload_n (pc1 := 15) d_Mod_plain_14 rfl 0 rfl ?_
  refine g_getr (pc1 := 18) d_Mod_plain_15 rfl ⟨_, fo_Mod_67⟩ sh_401 (by decide) (rf_401_30 ld) ?_
  refine g_iload_n (pc1 := 19) d_Mod_plain_18 rfl 1 rfl ?_
  refine g_iconst (pc1 := 20) (v := nI 0) d_Mod_plain_19 rfl (by decide) ?_
  refine g_iast (pc1 := 21) d_Mod_plain_20 rfl sh_418 (by decide) (vp_in_nI (n := 1) (by omega) (by decide)) ?_
  rw [nI_clamp (n := 1) (by omega)]
  refine Wp.topM (fun M60 eM60 => ?_)
  refine g_aload_n (pc1 := 22) d_Mod_plain_21 rfl 0 rfl ?_
  refine g_getr (pc1 := 25) d_Mod_plain_22 rfl ⟨_, fo_Mod_73⟩ sh_401 (by decide) (rf_401_32 ld) ?_
  refine g_iload_n (pc1 := 26) d_Mod_plain_25 rfl 1 rfl ?_
  refine g_iconst (pc1 := 27) (v := nI 0) d_Mod_plain_26 rfl (by decide) ?_
  refine g_iast (pc1 := 28) d_Mod_plain_27 rfl sh_420 (by decide) (vp_in_nI (n := 1) (by omega) (by decide)) ?_
  rw [nI_clamp (n := 1) (by omega)]
  refine Wp.topM (fun M61 eM61 => ?_)
  refine g_aload_n (pc1 := 29) d_Mod_plain_28 rfl 0 rfl ?_
  refine g_getr (pc1 := 32) d_Mod_plain_29 rfl ⟨_, fo_Mod_82⟩ sh_401 (by decide) (rf_401_35 ld) ?_
  refine g_iload_n (pc1 := 33) d_Mod_plain_32 rfl 1 rfl ?_
  refine g_iconst (pc1 := 34) (v := nI 0) d_Mod_plain_33 rfl (by decide) ?_
  refine g_iast (pc1 := 35) d_Mod_plain_34 rfl sh_423 (by decide) (vp_in_nI (n := 1) (by omega) (by decide)) ?_
  rw [nI_clamp (n := 1) (by omega)]
  refine Wp.topM (fun M62 eM62 => ?_)
  refine g_iconst (pc1 := 36) (v := nI 0) d_Mod_plain_35 rfl (by decide) ?_
  refine g_istore_n (pc1 := 37) (lv' := [(0, .ref 401), (1, .int (nI 1)), (2, .int (nI 0))]) d_Mod_plain_36 rfl rfl (by decide) [1, 2, 0] rfl ?_
  refine g_iload_n (pc1 := 38) d_Mod_plain_37 rfl 2 rfl ?_
  refine g_iconst (pc1 := 39) (v := nI 4) d_Mod_plain_38 rfl (by decide) ?_
  refine g_icmp_ge (pc1 := 42) (tgt := 70) d_Mod_plain_39 (by decide) rfl (fun h => absurd h (by decide)) (fun _ => ?_)
  refine g_aload_n (pc1 := 43) d_Mod_plain_42 rfl 0 rfl ?_
  refine g_getr (pc1 := 46) d_Mod_plain_43 rfl ⟨_, fo_Mod_85⟩ sh_401 (by decide) (rf_401_36 ld) ?_
  refine g_iconst (pc1 := 47) (v := nI 4) d_Mod_plain_46 rfl (by decide) ?_
  refine g_iload_n (pc1 := 48) d_Mod_plain_47 rfl 1 rfl ?_
  refine g_imul (pc1 := 49) d_Mod_plain_48 rfl ?_
  refine Wp.vali (y := nI 4) (by decide) ?_
  refine g_iload_n (pc1 := 50) d_Mod_plain_49 rfl 2 rfl ?_
  refine g_iadd (pc1 := 51) d_Mod_plain_50 rfl ?_
  refine Wp.vali (y := nI 4) (by decide) ?_
  refine g_iconst (pc1 := 52) (v := nI 0) d_Mod_plain_51 rfl (by decide) ?_
  refine g_iast (pc1 := 53) d_Mod_plain_52 rfl sh_424 (by decide) (vp_in_nI (n := 4) (by omega) (by decide)) ?_
  rw [nI_clamp (n := 4) (by omega)]
  refine Wp.topM (fun M64 eM64 => ?_)
  refine g_aload_n (pc1 := 54) d_Mod_plain_53 rfl 0 rfl ?_
  refine g_getr (pc1 := 57) d_Mod_plain_54 rfl ⟨_, fo_Mod_88⟩ sh_401 (by decide) (rf_401_37 ld) ?_
  refine g_iconst (pc1 := 58) (v := nI 4) d_Mod_plain_57 rfl (by decide) ?_
  refine g_iload_n (pc1 := 59) d_Mod_plain_58 rfl 1 rfl ?_
  refine g_imul (pc1 := 60) d_Mod_plain_59 rfl ?_
  refine Wp.vali (y := nI 4) (by decide) ?_
  refine g_iload_n (pc1 := 61) d_Mod_plain_60 rfl 2 rfl ?_
  refine g_iadd (pc1 := 62) d_Mod_plain_61 rfl ?_
  refine Wp.vali (y := nI 4) (by decide) ?_
  refine g_iconst (pc1 := 63) (v := nI 0) d_Mod_plain_62 rfl (by decide) ?_
  refine g_iast (pc1 := 64) d_Mod_plain_63 rfl sh_425 (by decide) (vp_in_nI (n := 4) (by omega) (by decide)) ?_
  rw [nI_clamp (n := 4) (by omega)]
  refine Wp.topM (fun M65 eM65 => ?_)
  refine g_iinc (pc1 := 67) (v := nI 1) (lv' := [(0, .ref 401), (1, .int (nI 1)), (2, .int (nI 1))]) d_Mod_plain_64 rfl 2 rfl (by decide) (by decide) [1, 2, 0] rfl ?_
  refine g_goto (tgt := 37) d_Mod_plain_67 (by decide) ?_
  refine g_iload_n (pc1 := 38) d_Mod_plain_37 rfl 2 rfl ?_
  refine g_iconst (pc1 := 39) (v := nI 4) d_Mod_plain_38 rfl (by decide) ?_
  refine g_icmp_ge (pc1 := 42) (tgt := 70) d_Mod_plain_39 (by decide) rfl (fun h => absurd h (by decide)) (fun _ => ?_)
  refine g_aload_n (pc1 := 43) d_Mod_plain_42 rfl 0 rfl ?_
  refine g_getr (pc1 := 46) d_Mod_plain_43 rfl ⟨_, fo_Mod_85⟩ sh_401 (by decide) (rf_401_36 ld) ?_
  refine g_iconst (pc1 := 47) (v := nI 4) d_Mod_plain_46 rfl (by decide) ?_
  refine g_iload_n (pc1 := 48) d_Mod_plain_47 rfl 1 rfl ?_
  refine g_imul (pc1 := 49) d_Mod_plain_48 rfl ?_
  refine Wp.vali (y := nI 4) (by decide) ?_
  refine g_iload_n (pc1 := 50) d_Mod_plain_49 rfl 2 rfl ?_
  refine g_iadd (pc1 := 51) d_Mod_plain_50 rfl ?_
  refine Wp.vali (y := nI 5) (by decide) ?_
  refine g_iconst (pc1 := 52) (v := nI 0) d_Mod_plain_51 rfl (by decide) ?_
  refine g_iast (pc1 := 53) d_Mod_plain_52 rfl sh_424 (by decide) (vp_in_nI (n := 5) (by omega) (by decide)) ?_
  rw [nI_clamp (n := 5) (by omega)]
  refine Wp.topM (fun M67 eM67 => ?_)
  refine g_aload_n (pc1 := 54) d_Mod_plain_53 rfl 0 rfl ?_
  refine g_getr (pc1 := 57) d_Mod_plain_54 rfl ⟨_, fo_Mod_88⟩ sh_401 (by decide) (rf_401_37 ld) ?_
  refine g_iconst (pc1 := 58) (v := nI 4) d_Mod_plain_57 rfl (by decide) ?_
  refine g_iload_n (pc1 := 59) d_Mod_plain_58 rfl 1 rfl ?_
  refine g_imul (pc1 := 60) d_Mod_plain_59 rfl ?_
  refine Wp.vali (y := nI 4) (by decide) ?_
  refine g_iload_n (pc1 := 61) d_Mod_plain_60 rfl 2 rfl ?_
  refine g_iadd (pc1 := 62) d_Mod_plain_61 rfl ?_
  refine Wp.vali (y := nI 5) (by decide) ?_
  refine g_iconst (pc1 := 63) (v := nI 0) d_Mod_plain_62 rfl (by decide) ?_
  refine g_iast (pc1 := 64) d_Mod_plain_63 rfl sh_425 (by decide) (vp_in_nI (n := 5) (by omega) (by decide)) ?_
  rw [nI_clamp (n := 5) (by omega)]
  refine Wp.topM (fun M68 eM68 => ?_)
  refine g_iinc (pc1 := 67) (v := nI 2) (lv' := [(0, .ref 401), (1, .int (nI 1)), (2, .int (nI 2))]) d_Mod_plain_64 rfl 2 rfl (by decide) (by decide) [1, 2, 0] rfl ?_
  refine g_goto (tgt := 37) d_Mod_plain_67 (by decide) ?_
  refine g_iload_n (pc1 := 38) d_Mod_plain_37 rfl 2 rfl ?_
  refine g_iconst (pc1 := 39) (v := nI 4) d_Mod_plain_38 rfl (by decide) ?_
  refine g_icmp_ge (pc1 := 42) (tgt := 70) d_Mod_plain_39 (by decide) rfl (fun h => absurd h (by decide)) (fun _ => ?_)
  refine g_aload_n (pc1 := 43) d_Mod_plain_42 rfl 0 rfl ?_
  refine g_getr (pc1 := 46) d_Mod_plain_43 rfl ⟨_, fo_Mod_85⟩ sh_401 (by decide) (rf_401_36 ld) ?_
  refine g_iconst (pc1 := 47) (v := nI 4) d_Mod_plain_46 rfl (by decide) ?_
  refine g_iload_n (pc1 := 48) d_Mod_plain_47 rfl 1 rfl ?_
  refine g_imul (pc1 := 49) d_Mod_plain_48 rfl ?_
  refine Wp.vali (y := nI 4) (by decide) ?_
  refine g_iload_n (pc1 := 50) d_Mod_plain_49 rfl 2 rfl ?_
  refine g_iadd (pc1 := 51) d_Mod_plain_50 rfl ?_
  refine Wp.vali (y := nI 6) (by decide) ?_
  refine g_iconst (pc1 := 52) (v := nI 0) d_Mod_plain_51 rfl (by decide) ?_
  refine g_iast (pc1 := 53) d_Mod_plain_52 rfl sh_424 (by decide) (vp_in_nI (n := 6) (by omega) (by decide)) ?_
  rw [nI_clamp (n := 6) (by omega)]
  refine Wp.topM (fun M70 eM70 => ?_)
  refine g_aload_n (pc1 := 54) d_Mod_plain_53 rfl 0 rfl ?_
  refine g_getr (pc1 := 57) d_Mod_plain_54 rfl ⟨_, fo_Mod_88⟩ sh_401 (by decide) (rf_401_37 ld) ?_
  refine g_iconst (pc1 := 58) (v := nI 4) d_Mod_plain_57 rfl (by decide) ?_
  refine g_iload_n (pc1 := 59) d_Mod_plain_58 rfl 1 rfl ?_
  refine g_imul (pc1 := 60) d_Mod_plain_59 rfl ?_
  refine Wp.vali (y := nI 4) (by decide) ?_
  refine g_iload_n (pc1 := 61) d_Mod_plain_60 rfl 2 rfl ?_
  refine g_iadd (pc1 := 62) d_Mod_plain_61 rfl ?_
  refine Wp.vali (y := nI 6) (by decide) ?_
  refine g_iconst (pc1 := 63) (v := nI 0) d_Mod_plain_62 rfl (by decide) ?_
  refine g_iast (pc1 := 64) d_Mod_plain_63 rfl sh_425 (by decide) (vp_in_nI (n := 6) (by omega) (by decide)) ?_
  rw [nI_clamp (n := 6) (by omega)]
  refine Wp.topM (fun M71 eM71 => ?_)
  refine g_iinc (pc1 := 67) (v := nI 3) (lv' := [(0, .ref 401), (1, .int (nI 1)), (2, .int (nI 3))]) d_Mod_plain_64 rfl 2 rfl (by decide) (by decide) [1, 2, 0] rfl ?_
  refine g_goto (tgt := 37) d_Mod_plain_67 (by decide) ?_
  refine g_iload_n (pc1 := 38) d_Mod_plain_37 rfl 2 rfl ?_
  refine g_iconst (pc1 := 39) (v := nI 4) d_Mod_plain_38 rfl (by decide) ?_
  refine g_icmp_ge (pc1 := 42) (tgt := 70) d_Mod_plain_39 (by decide) rfl (fun h => absurd h (by decide)) (fun _ => ?_)
  refine g_aload_n (pc1 := 43) d_Mod_plain_42 rfl 0 rfl ?_
  refine g_getr (pc1 := 46) d_Mod_plain_43 rfl ⟨_, fo_Mod_85⟩ sh_401 (by decide) (rf_401_36 ld) ?_
  refine g_iconst (pc1 := 47) (v := nI 4) d_Mod_plain_46 rfl (by decide) ?_
  refine g_iload_n (pc1 := 48) d_Mod_plain_47 rfl 1 rfl ?_
  refine g_imul (pc1 := 49) d_Mod_plain_48 rfl ?_
  refine Wp.vali (y := nI 4) (by decide) ?_
  refine g_iload_n (pc1 := 50) d_Mod_plain_49 rfl 2 rfl ?_
  refine g_iadd (pc1 := 51) d_Mod_plain_50 rfl ?_
  refine Wp.vali (y := nI 7) (by decide) ?_
  refine g_iconst (pc1 := 52) (v := nI 0) d_Mod_plain_51 rfl (by decide) ?_
  refine g_iast (pc1 := 53) d_Mod_plain_52 rfl sh_424 (by decide) (vp_in_nI (n := 7) (by omega) (by decide)) ?_
  rw [nI_clamp (n := 7) (by omega)]
  refine Wp.topM (fun M73 eM73 => ?_)
  refine g_aload_n (pc1 := 54) d_Mod_plain_53 rfl 0 rfl ?_
  refine g_getr (pc1 := 57) d_Mod_plain_54 rfl ⟨_, fo_Mod_88⟩ sh_401 (by decide) (rf_401_37 ld) ?_
  refine g_iconst (pc1 := 58) (v := nI 4) d_Mod_plain_57 rfl (by decide) ?_
  refine g_iload_n (pc1 := 59) d_Mod_plain_58 rfl 1 rfl ?_
  refine g_imul (pc1 := 60) d_Mod_plain_59 rfl ?_
  refine Wp.vali (y := nI 4) (by decide) ?_
  refine g_iload_n (pc1 := 61) d_Mod_plain_60 rfl 2 rfl ?_
  refine g_iadd (pc1 := 62) d_Mod_plain_61 rfl ?_
  refine Wp.vali (y := nI 7) (by decide) ?_
  refine g_iconst (pc1 := 63) (v := nI 0) d_Mod_plain_62 rfl (by decide) ?_
  refine g_iast (pc1 := 64) d_Mod_plain_63 rfl sh_425 (by decide) (vp_in_nI (n := 7) (by omega) (by decide)) ?_
  rw [nI_clamp (n := 7) (by omega)]
  refine Wp.topM (fun M74 eM74 => ?_)
  refine g_iinc (pc1 := 67) (v := nI 4) (lv' := [(0, .ref 401), (1, .int (nI 1)), (2, .int (nI 4))]) d_Mod_plain_64 rfl 2 rfl (by decide) (by decide) [1, 2, 0] rfl ?_
  refine g_goto (tgt := 37) d_Mod_plain_67 (by decide) ?_
  refine g_iload_n (pc1 := 38) d_Mod_plain_37 rfl 2 rfl ?_
  refine g_iconst (pc1 := 39) (v := nI 4) d_Mod_plain_38 rfl (by decide) ?_
  refine g_icmp_ge (pc1 := 42) (tgt := 70) d_Mod_plain_39 (by decide) rfl (fun _ => ?_) (fun h => absurd h (by decide))
  refine g_return rfl d_Mod_plain_70 rfl ?_
  rw [eM74, eM73, eM71, eM70, eM68, eM67, eM65, eM64, eM62, eM61, eM60, eM59, eM58]
  exact hQ
set_option maxHeartbeats 4000000 in
set_option maxRecDepth 20000 in
theorem x_Mod_undo {l : Launch} {ld : Nat} {M : gM} {L : gL} {Q : Option Value → gM → gL → gR → Prop} {u : Nat} (hu : M 401 57 = nI u) (hu40 : u ≤ 40) (hQ0 : u = 0 → Q (some (.int 0)) M L (rf ld)) (hQ1 : 0 < u → Q (some (.int 1)) (fl (uM M 401 57 (nI (u - 1))) 436 0 38 (fun k => M 440 (38 * (u - 1) + k))) L (rf ld)) : Tm l y_Mod_undo (0, 0, 447) 447 [.ref 401] M L (rf ld) Q := by
  refine Tm.of (by decide) (Nat.le_of_ble_eq_true rfl) ?_
  show Wp l y_Mod_undo (0, 0, 447) 447 0 0 0 [(0, .ref 401)] [] M L (rf ld) Q
  refine g_aload_n (pc1 := 1) d_Mod_undo_0 rfl 0 rfl ?_
  refine g_geti (pc1 := 4) d_Mod_undo_1 rfl ⟨_, fo_Mod_254⟩ sh_401 (by decide) ?_
  refine Wp.vali (y := nI u) hu ?_
  refine g_if_ne (pc1 := 7) (tgt := 9) d_Mod_undo_4 (by decide) rfl (fun h76 => ?_) (fun h76 => ?_)
  · have nh76 : ¬ (u : Nat) = (0 : Nat) := fun q => h76 ((nI_eq (a := (u : Nat)) (b := (0 : Nat)) (by omega) (by omega)).mpr q)
    refine g_aload_n (pc1 := 10) d_Mod_undo_9 rfl 0 rfl ?_
    refine g_dup (pc1 := 11) d_Mod_undo_10 rfl rfl ?_
    refine g_geti (pc1 := 14) d_Mod_undo_11 rfl ⟨_, fo_Mod_254⟩ sh_401 (by decide) ?_
    refine Wp.vali (y := nI u) hu ?_
    refine g_iconst (pc1 := 15) (v := nI 1) d_Mod_undo_14 rfl (by decide) ?_
    refine g_isub (pc1 := 16) d_Mod_undo_15 rfl ?_
    refine Wp.vali (y := nI (u - 1)) (nI_sub (by omega)) ?_
    refine g_puti (pc1 := 19) d_Mod_undo_16 rfl fo_Mod_254 (po_12_57 _) sh_401 (by decide) ?_
    refine Wp.topM (fun M77 eM77 => ?_)
    refine g_iconst (pc1 := 20) (v := nI 0) d_Mod_undo_19 rfl (by decide) ?_
    refine g_istore_n (pc1 := 21) (lv' := [(0, .ref 401), (1, .int (nI 0))]) d_Mod_undo_20 rfl rfl (by decide) [1, 0] rfl ?_
    have LP81 : ∀ (f78 k79 : Nat), k79 ≤ 38 → 38 - k79 < f78 → Wp l y_Mod_undo (0, 0, 447) 447 0 0 21 [(0, .ref 401), (1, .int (nI k79))] [] (fl M77 436 (0) k79 (fun k => M 440 (38 * (u - 1) + k))) L (rf ld) Q := by
      intro f78
      induction f78 with
      | zero => intro k79 _ hm; exact absurd hm (Nat.not_lt_zero _)
      | succ f78 ih80 =>
        intro k79 hkk79 hmk79
        refine Wp.topM (fun M82 eM82 => ?_)
        refine g_iload_n (pc1 := 22) d_Mod_undo_21 rfl 1 rfl ?_
        refine g_bipush (pc1 := 24) (v := nI 38) d_Mod_undo_22 rfl (by decide) ?_
        refine g_icmp_ge (pc1 := 27) (tgt := 53) d_Mod_undo_24 (by decide) rfl (fun h83 => ?_) (fun h83 => ?_)
        · have nh83 : (38 : Nat) ≤ (k79 : Nat) := (nI_leI (a := (38 : Nat)) (b := (k79 : Nat)) (by omega) (by omega)).mp h83
          have ekk79 : k79 = 38 := by omega
          rw [ekk79] at eM82
          refine g_iconst (pc1 := 54) (v := nI 1) d_Mod_undo_53 rfl (by decide) ?_
          refine g_ireturn (Or.inr ⟨rfl, rfl⟩) d_Mod_undo_54 rfl ?_
          rw [eM82, eM77]
          exact hQ1 (by omega)
        · have nh83 : ¬ (38 : Nat) ≤ (k79 : Nat) := fun q => h83 ((nI_leI (a := (38 : Nat)) (b := (k79 : Nat)) (by omega) (by omega)).mpr q)
          refine g_aload_n (pc1 := 28) d_Mod_undo_27 rfl 0 rfl ?_
          refine g_getr (pc1 := 31) d_Mod_undo_28 rfl ⟨_, fo_Mod_122⟩ sh_401 (by decide) (rf_401_52 ld) ?_
          refine g_iload_n (pc1 := 32) d_Mod_undo_31 rfl 1 rfl ?_
          refine g_aload_n (pc1 := 33) d_Mod_undo_32 rfl 0 rfl ?_
          refine g_getr (pc1 := 36) d_Mod_undo_33 rfl ⟨_, fo_Mod_134⟩ sh_401 (by decide) (rf_401_58 ld) ?_
          refine g_bipush (pc1 := 38) (v := nI 38) d_Mod_undo_36 rfl (by decide) ?_
          refine g_aload_n (pc1 := 39) d_Mod_undo_38 rfl 0 rfl ?_
          refine g_geti (pc1 := 42) d_Mod_undo_39 rfl ⟨_, fo_Mod_254⟩ sh_401 (by decide) ?_
          refine Wp.vali (y := nI (u - 1)) ((flE_ne eM82 (fun q => absurd q.1 (by decide))).trans (rdn_eq eM77 rfl)) ?_
          refine g_imul (pc1 := 43) d_Mod_undo_42 rfl ?_
          refine Wp.vali (y := nI (38 * (u - 1))) (nI_mul _ _) ?_
          refine g_iload_n (pc1 := 44) d_Mod_undo_43 rfl 1 rfl ?_
          refine g_iadd (pc1 := 45) d_Mod_undo_44 rfl ?_
          refine Wp.vali (y := nI ((38 * (u - 1)) + k79)) (nI_add _ _) ?_
          refine g_iald (pc1 := 46) d_Mod_undo_45 rfl sh_440 (by decide) (vp_in_nI (n := (38 * (u - 1)) + k79) (by omega) (by decide)) ?_
          rw [nI_clamp (n := (38 * (u - 1)) + k79) (by omega)]
          refine Wp.vali (y := M 440 ((38 * (u - 1)) + k79)) ((flE_ne eM82 (fun q => absurd q.1 (by decide))).trans (rd_ne eM77 (fun q => absurd q.1 (by decide)))) ?_
          refine g_iast (pc1 := 47) d_Mod_undo_46 rfl sh_436 (by decide) (vp_in_nI (n := k79) (by omega) (by decide)) ?_
          rw [nI_clamp (n := k79) (by omega)]
          refine Wp.topM (fun M84 eM84 => ?_)
          refine g_iinc (pc1 := 50) (v := nI (k79 + 1)) (lv' := [(0, .ref 401), (1, .int (nI (k79 + 1)))]) d_Mod_undo_47 rfl 1 rfl (nI_1 _) (by decide) [1, 0] rfl ?_
          refine g_goto (tgt := 21) d_Mod_undo_50 (by decide) ?_
          refine Wp.eqM (show M84 = fl M77 436 (0) (k79 + 1) (fun k => M 440 (38 * (u - 1) + k)) from by rw [eM84, eM82]; exact fl_s (by omega) rfl) ?_
          exact ih80 (k79 + 1) (by omega) (by omega)
    refine Wp.eqM (fl_0 (a := 436) (o := 0) (v := (fun k => M 440 (38 * (u - 1) + k)))).symm ?_
    exact LP81 _ 0 (by omega) (Nat.lt_succ_self _)
  · have nh76 : (u : Nat) = (0 : Nat) := (nI_eq (a := (u : Nat)) (b := (0 : Nat)) (by omega) (by omega)).mp h76
    refine g_iconst (pc1 := 8) (v := nI 0) d_Mod_undo_7 rfl (by decide) ?_
    refine g_ireturn (Or.inr ⟨rfl, rfl⟩) d_Mod_undo_8 rfl ?_
    exact hQ0 (by omega)
set_option maxHeartbeats 4000000 in
set_option maxRecDepth 20000 in
theorem x_Mod_records {l : Launch} {ld : Nat} {M : gM} {L : gL} {Q : Option Value → gM → gL → gR → Prop} {u : Nat} (hu : M 401 57 = nI u) (hu40 : u ≤ 40) (hQ0 : ¬ u = 40 → Q none (fl (uM (fl (M) 440 (38 * u) 38 (M 436)) 401 57 (nI (u + 1))) 436 0 38 (M 437)) L (rf ld)) (hQ1 : u = 40 → Q none (fl (uM (fl (uM (fl M 440 0 1482 (fun k => M 440 (k + 38))) 401 57 (nI (u - 1))) 440 (38 * (u - 1)) 38 (M 436)) 401 57 (nI ((u - 1) + 1))) 436 0 38 (M 437)) L (rf ld)) : Tm l y_Mod_records (0, 0, 447) 447 [.ref 401] M L (rf ld) Q := by
  refine Tm.of (by decide) (Nat.le_of_ble_eq_true rfl) ?_
  show Wp l y_Mod_records (0, 0, 447) 447 0 0 0 [(0, .ref 401)] [] M L (rf ld) Q
  refine g_aload_n (pc1 := 1) d_Mod_records_0 rfl 0 rfl ?_
  refine g_geti (pc1 := 4) d_Mod_records_1 rfl ⟨_, fo_Mod_254⟩ sh_401 (by decide) ?_
  refine Wp.vali (y := nI u) hu ?_
  refine g_bipush (pc1 := 6) (v := nI 40) d_Mod_records_4 rfl (by decide) ?_
  refine g_icmp_ne (pc1 := 9) (tgt := 49) d_Mod_records_6 (by decide) rfl (fun h85 => ?_) (fun h85 => ?_)
  · have nh85 : ¬ (u : Nat) = (40 : Nat) := fun q => h85 ((nI_eq (a := (u : Nat)) (b := (40 : Nat)) (by omega) (by omega)).mpr q)
    refine g_iconst (pc1 := 50) (v := nI 0) d_Mod_records_49 rfl (by decide) ?_
    refine g_istore_n (pc1 := 51) (lv' := [(0, .ref 401), (1, .int (nI 0))]) d_Mod_records_50 rfl rfl (by decide) [1, 0] rfl ?_
    have LP89 : ∀ (f86 k87 : Nat), k87 ≤ 38 → 38 - k87 < f86 → Wp l y_Mod_records (0, 0, 447) 447 0 0 51 [(0, .ref 401), (1, .int (nI k87))] [] (fl M 440 (38 * u) k87 (M 436)) L (rf ld) Q := by
      intro f86
      induction f86 with
      | zero => intro k87 _ hm; exact absurd hm (Nat.not_lt_zero _)
      | succ f86 ih88 =>
        intro k87 hkk87 hmk87
        refine Wp.topM (fun M90 eM90 => ?_)
        refine g_iload_n (pc1 := 52) d_Mod_records_51 rfl 1 rfl ?_
        refine g_bipush (pc1 := 54) (v := nI 38) d_Mod_records_52 rfl (by decide) ?_
        refine g_icmp_ge (pc1 := 57) (tgt := 83) d_Mod_records_54 (by decide) rfl (fun h91 => ?_) (fun h91 => ?_)
        · have nh91 : (38 : Nat) ≤ (k87 : Nat) := (nI_leI (a := (38 : Nat)) (b := (k87 : Nat)) (by omega) (by omega)).mp h91
          have ekk87 : k87 = 38 := by omega
          rw [ekk87] at eM90
          refine g_aload_n (pc1 := 84) d_Mod_records_83 rfl 0 rfl ?_
          refine g_dup (pc1 := 85) d_Mod_records_84 rfl rfl ?_
          refine g_geti (pc1 := 88) d_Mod_records_85 rfl ⟨_, fo_Mod_254⟩ sh_401 (by decide) ?_
          refine Wp.vali (y := nI u) ((flE_ne eM90 (fun q => absurd q.1 (by decide))).trans hu) ?_
          refine g_iconst (pc1 := 89) (v := nI 1) d_Mod_records_88 rfl (by decide) ?_
          refine g_iadd (pc1 := 90) d_Mod_records_89 rfl ?_
          refine Wp.vali (y := nI (u + 1)) (nI_add _ _) ?_
          refine g_puti (pc1 := 93) d_Mod_records_90 rfl fo_Mod_254 (po_12_57 _) sh_401 (by decide) ?_
          refine Wp.topM (fun M92 eM92 => ?_)
          refine g_aload_n (pc1 := 94) d_Mod_records_93 rfl 0 rfl ?_
          refine g_callV0 (pc1 := 97) (As := []) (rest := []) d_Mod_records_94 rfl mo_Mod_166 mi_Mod_keepsRow mv_Mod_keepsRow rfl sh_401 (by decide) (by decide) rfl rfl (Nat.le_of_ble_eq_true rfl) ?_
          refine x_Mod_keepsRow ?_
          dsimp only [psh]
          refine Wp.topM (fun M93 eM93 => ?_)
          refine g_return rfl d_Mod_records_97 rfl ?_
          rw [eM93, eM92, eM90]
          exact hQ0 (by omega)
        · have nh91 : ¬ (38 : Nat) ≤ (k87 : Nat) := fun q => h91 ((nI_leI (a := (38 : Nat)) (b := (k87 : Nat)) (by omega) (by omega)).mpr q)
          refine g_aload_n (pc1 := 58) d_Mod_records_57 rfl 0 rfl ?_
          refine g_getr (pc1 := 61) d_Mod_records_58 rfl ⟨_, fo_Mod_134⟩ sh_401 (by decide) (rf_401_58 ld) ?_
          refine g_bipush (pc1 := 63) (v := nI 38) d_Mod_records_61 rfl (by decide) ?_
          refine g_aload_n (pc1 := 64) d_Mod_records_63 rfl 0 rfl ?_
          refine g_geti (pc1 := 67) d_Mod_records_64 rfl ⟨_, fo_Mod_254⟩ sh_401 (by decide) ?_
          refine Wp.vali (y := nI u) ((flE_ne eM90 (fun q => absurd q.1 (by decide))).trans hu) ?_
          refine g_imul (pc1 := 68) d_Mod_records_67 rfl ?_
          refine Wp.vali (y := nI (38 * u)) (nI_mul _ _) ?_
          refine g_iload_n (pc1 := 69) d_Mod_records_68 rfl 1 rfl ?_
          refine g_iadd (pc1 := 70) d_Mod_records_69 rfl ?_
          refine Wp.vali (y := nI ((38 * u) + k87)) (nI_add _ _) ?_
          refine g_aload_n (pc1 := 71) d_Mod_records_70 rfl 0 rfl ?_
          refine g_getr (pc1 := 74) d_Mod_records_71 rfl ⟨_, fo_Mod_122⟩ sh_401 (by decide) (rf_401_52 ld) ?_
          refine g_iload_n (pc1 := 75) d_Mod_records_74 rfl 1 rfl ?_
          refine g_iald (pc1 := 76) d_Mod_records_75 rfl sh_436 (by decide) (vp_in_nI (n := k87) (by omega) (by decide)) ?_
          rw [nI_clamp (n := k87) (by omega)]
          refine Wp.vali (y := M 436 k87) (flE_ne eM90 (fun q => absurd q.1 (by decide))) ?_
          refine g_iast (pc1 := 77) d_Mod_records_76 rfl sh_440 (by decide) (vp_in_nI (n := (38 * u) + k87) (by omega) (by decide)) ?_
          rw [nI_clamp (n := (38 * u) + k87) (by omega)]
          refine Wp.topM (fun M94 eM94 => ?_)
          refine g_iinc (pc1 := 80) (v := nI (k87 + 1)) (lv' := [(0, .ref 401), (1, .int (nI (k87 + 1)))]) d_Mod_records_77 rfl 1 rfl (nI_1 _) (by decide) [1, 0] rfl ?_
          refine g_goto (tgt := 51) d_Mod_records_80 (by decide) ?_
          refine Wp.eqM (show M94 = fl M 440 (38 * u) (k87 + 1) (M 436) from by rw [eM94, eM90]; exact fl_s (by omega) rfl) ?_
          exact ih88 (k87 + 1) (by omega) (by omega)
    refine Wp.eqM (fl_0 (a := 440) (o := 38 * u) (v := (M 436))).symm ?_
    exact LP89 _ 0 (by omega) (Nat.lt_succ_self _)
  · have nh85 : (u : Nat) = (40 : Nat) := (nI_eq (a := (u : Nat)) (b := (40 : Nat)) (by omega) (by omega)).mp h85
    refine g_iconst (pc1 := 10) (v := nI 0) d_Mod_records_9 rfl (by decide) ?_
    refine g_istore_n (pc1 := 11) (lv' := [(0, .ref 401), (1, .int (nI 0))]) d_Mod_records_10 rfl rfl (by decide) [1, 0] rfl ?_
    have LP98 : ∀ (f95 k96 : Nat), k96 ≤ 1482 → 1482 - k96 < f95 → Wp l y_Mod_records (0, 0, 447) 447 0 0 11 [(0, .ref 401), (1, .int (nI k96))] [] (fl M 440 (0) k96 (fun k => M 440 (k + 38))) L (rf ld) Q := by
      intro f95
      induction f95 with
      | zero => intro k96 _ hm; exact absurd hm (Nat.not_lt_zero _)
      | succ f95 ih97 =>
        intro k96 hkk96 hmk96
        refine Wp.topM (fun M99 eM99 => ?_)
        refine g_iload_n (pc1 := 12) d_Mod_records_11 rfl 1 rfl ?_
        refine g_sipush (pc1 := 15) (v := nI 1482) d_Mod_records_12 rfl (by decide) ?_
        refine g_icmp_ge (pc1 := 18) (tgt := 39) d_Mod_records_15 (by decide) rfl (fun h100 => ?_) (fun h100 => ?_)
        · have nh100 : (1482 : Nat) ≤ (k96 : Nat) := (nI_leI (a := (1482 : Nat)) (b := (k96 : Nat)) (by omega) (by omega)).mp h100
          have ekk96 : k96 = 1482 := by omega
          rw [ekk96] at eM99
          refine g_aload_n (pc1 := 40) d_Mod_records_39 rfl 0 rfl ?_
          refine g_dup (pc1 := 41) d_Mod_records_40 rfl rfl ?_
          refine g_geti (pc1 := 44) d_Mod_records_41 rfl ⟨_, fo_Mod_254⟩ sh_401 (by decide) ?_
          refine Wp.vali (y := nI u) ((flE_ne eM99 (fun q => absurd q.1 (by decide))).trans hu) ?_
          refine g_iconst (pc1 := 45) (v := nI 1) d_Mod_records_44 rfl (by decide) ?_
          refine g_isub (pc1 := 46) d_Mod_records_45 rfl ?_
          refine Wp.vali (y := nI (u - 1)) (nI_sub (by omega)) ?_
          refine g_puti (pc1 := 49) d_Mod_records_46 rfl fo_Mod_254 (po_12_57 _) sh_401 (by decide) ?_
          refine Wp.topM (fun M101 eM101 => ?_)
          refine g_iconst (pc1 := 50) (v := nI 0) d_Mod_records_49 rfl (by decide) ?_
          refine g_istore_n (pc1 := 51) (lv' := [(0, .ref 401), (1, .int (nI 0))]) d_Mod_records_50 rfl rfl (by decide) [1, 0] rfl ?_
          have LP105 : ∀ (f102 k103 : Nat), k103 ≤ 38 → 38 - k103 < f102 → Wp l y_Mod_records (0, 0, 447) 447 0 0 51 [(0, .ref 401), (1, .int (nI k103))] [] (fl M101 440 (38 * (u - 1)) k103 (M 436)) L (rf ld) Q := by
            intro f102
            induction f102 with
            | zero => intro k103 _ hm; exact absurd hm (Nat.not_lt_zero _)
            | succ f102 ih104 =>
              intro k103 hkk103 hmk103
              refine Wp.topM (fun M106 eM106 => ?_)
              refine g_iload_n (pc1 := 52) d_Mod_records_51 rfl 1 rfl ?_
              refine g_bipush (pc1 := 54) (v := nI 38) d_Mod_records_52 rfl (by decide) ?_
              refine g_icmp_ge (pc1 := 57) (tgt := 83) d_Mod_records_54 (by decide) rfl (fun h107 => ?_) (fun h107 => ?_)
              · have nh107 : (38 : Nat) ≤ (k103 : Nat) := (nI_leI (a := (38 : Nat)) (b := (k103 : Nat)) (by omega) (by omega)).mp h107
                have ekk103 : k103 = 38 := by omega
                rw [ekk103] at eM106
                refine g_aload_n (pc1 := 84) d_Mod_records_83 rfl 0 rfl ?_
                refine g_dup (pc1 := 85) d_Mod_records_84 rfl rfl ?_
                refine g_geti (pc1 := 88) d_Mod_records_85 rfl ⟨_, fo_Mod_254⟩ sh_401 (by decide) ?_
                refine Wp.vali (y := nI (u - 1)) ((flE_ne eM106 (fun q => absurd q.1 (by decide))).trans (rdn_eq eM101 rfl)) ?_
                refine g_iconst (pc1 := 89) (v := nI 1) d_Mod_records_88 rfl (by decide) ?_
                refine g_iadd (pc1 := 90) d_Mod_records_89 rfl ?_
                refine Wp.vali (y := nI ((u - 1) + 1)) (nI_add _ _) ?_
                refine g_puti (pc1 := 93) d_Mod_records_90 rfl fo_Mod_254 (po_12_57 _) sh_401 (by decide) ?_
                refine Wp.topM (fun M108 eM108 => ?_)
                refine g_aload_n (pc1 := 94) d_Mod_records_93 rfl 0 rfl ?_
                refine g_callV0 (pc1 := 97) (As := []) (rest := []) d_Mod_records_94 rfl mo_Mod_166 mi_Mod_keepsRow mv_Mod_keepsRow rfl sh_401 (by decide) (by decide) rfl rfl (Nat.le_of_ble_eq_true rfl) ?_
                refine x_Mod_keepsRow ?_
                dsimp only [psh]
                refine Wp.topM (fun M109 eM109 => ?_)
                refine g_return rfl d_Mod_records_97 rfl ?_
                rw [eM109, eM108, eM106, eM101, eM99]
                exact hQ1 (by omega)
              · have nh107 : ¬ (38 : Nat) ≤ (k103 : Nat) := fun q => h107 ((nI_leI (a := (38 : Nat)) (b := (k103 : Nat)) (by omega) (by omega)).mpr q)
                refine g_aload_n (pc1 := 58) d_Mod_records_57 rfl 0 rfl ?_
                refine g_getr (pc1 := 61) d_Mod_records_58 rfl ⟨_, fo_Mod_134⟩ sh_401 (by decide) (rf_401_58 ld) ?_
                refine g_bipush (pc1 := 63) (v := nI 38) d_Mod_records_61 rfl (by decide) ?_
                refine g_aload_n (pc1 := 64) d_Mod_records_63 rfl 0 rfl ?_
                refine g_geti (pc1 := 67) d_Mod_records_64 rfl ⟨_, fo_Mod_254⟩ sh_401 (by decide) ?_
                refine Wp.vali (y := nI (u - 1)) ((flE_ne eM106 (fun q => absurd q.1 (by decide))).trans (rdn_eq eM101 rfl)) ?_
                refine g_imul (pc1 := 68) d_Mod_records_67 rfl ?_
                refine Wp.vali (y := nI (38 * (u - 1))) (nI_mul _ _) ?_
                refine g_iload_n (pc1 := 69) d_Mod_records_68 rfl 1 rfl ?_
                refine g_iadd (pc1 := 70) d_Mod_records_69 rfl ?_
                refine Wp.vali (y := nI ((38 * (u - 1)) + k103)) (nI_add _ _) ?_
                refine g_aload_n (pc1 := 71) d_Mod_records_70 rfl 0 rfl ?_
                refine g_getr (pc1 := 74) d_Mod_records_71 rfl ⟨_, fo_Mod_122⟩ sh_401 (by decide) (rf_401_52 ld) ?_
                refine g_iload_n (pc1 := 75) d_Mod_records_74 rfl 1 rfl ?_
                refine g_iald (pc1 := 76) d_Mod_records_75 rfl sh_436 (by decide) (vp_in_nI (n := k103) (by omega) (by decide)) ?_
                rw [nI_clamp (n := k103) (by omega)]
                refine Wp.vali (y := M 436 k103) (((flE_ne eM106 (fun q => absurd q.1 (by decide))).trans (rd_ne eM101 (fun q => absurd q.1 (by decide)))).trans (flE_ne eM99 (fun q => absurd q.1 (by decide)))) ?_
                refine g_iast (pc1 := 77) d_Mod_records_76 rfl sh_440 (by decide) (vp_in_nI (n := (38 * (u - 1)) + k103) (by omega) (by decide)) ?_
                rw [nI_clamp (n := (38 * (u - 1)) + k103) (by omega)]
                refine Wp.topM (fun M110 eM110 => ?_)
                refine g_iinc (pc1 := 80) (v := nI (k103 + 1)) (lv' := [(0, .ref 401), (1, .int (nI (k103 + 1)))]) d_Mod_records_77 rfl 1 rfl (nI_1 _) (by decide) [1, 0] rfl ?_
                refine g_goto (tgt := 51) d_Mod_records_80 (by decide) ?_
                refine Wp.eqM (show M110 = fl M101 440 (38 * (u - 1)) (k103 + 1) (M 436) from by rw [eM110, eM106]; exact fl_s (by omega) rfl) ?_
                exact ih104 (k103 + 1) (by omega) (by omega)
          refine Wp.eqM (fl_0 (a := 440) (o := 38 * (u - 1)) (v := (M 436))).symm ?_
          exact LP105 _ 0 (by omega) (Nat.lt_succ_self _)
        · have nh100 : ¬ (1482 : Nat) ≤ (k96 : Nat) := fun q => h100 ((nI_leI (a := (1482 : Nat)) (b := (k96 : Nat)) (by omega) (by omega)).mpr q)
          refine g_aload_n (pc1 := 19) d_Mod_records_18 rfl 0 rfl ?_
          refine g_getr (pc1 := 22) d_Mod_records_19 rfl ⟨_, fo_Mod_134⟩ sh_401 (by decide) (rf_401_58 ld) ?_
          refine g_iload_n (pc1 := 23) d_Mod_records_22 rfl 1 rfl ?_
          refine g_aload_n (pc1 := 24) d_Mod_records_23 rfl 0 rfl ?_
          refine g_getr (pc1 := 27) d_Mod_records_24 rfl ⟨_, fo_Mod_134⟩ sh_401 (by decide) (rf_401_58 ld) ?_
          refine g_iload_n (pc1 := 28) d_Mod_records_27 rfl 1 rfl ?_
          refine g_bipush (pc1 := 30) (v := nI 38) d_Mod_records_28 rfl (by decide) ?_
          refine g_iadd (pc1 := 31) d_Mod_records_30 rfl ?_
          refine Wp.vali (y := nI (k96 + 38)) (nI_add _ _) ?_
          refine g_iald (pc1 := 32) d_Mod_records_31 rfl sh_440 (by decide) (vp_in_nI (n := k96 + 38) (by omega) (by decide)) ?_
          rw [nI_clamp (n := k96 + 38) (by omega)]
          refine Wp.vali (y := M 440 (k96 + 38)) (flE_ne eM99 (fun q => by omega)) ?_
          refine g_iast (pc1 := 33) d_Mod_records_32 rfl sh_440 (by decide) (vp_in_nI (n := k96) (by omega) (by decide)) ?_
          rw [nI_clamp (n := k96) (by omega)]
          refine Wp.topM (fun M111 eM111 => ?_)
          refine g_iinc (pc1 := 36) (v := nI (k96 + 1)) (lv' := [(0, .ref 401), (1, .int (nI (k96 + 1)))]) d_Mod_records_33 rfl 1 rfl (nI_1 _) (by decide) [1, 0] rfl ?_
          refine g_goto (tgt := 11) d_Mod_records_36 (by decide) ?_
          refine Wp.eqM (show M111 = fl M 440 (0) (k96 + 1) (fun k => M 440 (k + 38)) from by rw [eM111, eM99]; exact fl_s (by omega) rfl) ?_
          exact ih97 (k96 + 1) (by omega) (by omega)
    refine Wp.eqM (fl_0 (a := 440) (o := 0) (v := (fun k => M 440 (k + 38)))).symm ?_
    exact LP98 _ 0 (by omega) (Nat.lt_succ_self _)
set_option maxHeartbeats 4000000 in
set_option maxRecDepth 20000 in
theorem x_Mod_forget {l : Launch} {ld : Nat} {M : gM} {L : gL} {Q : Option Value → gM → gL → gR → Prop} {n : Nat} (hn : M 401 64 = nI n) (hQ : Q (some (.int (nI n))) (uM M 401 64 (nI 0)) L (rf ld)) : Tm l y_Mod_forget (0, 0, 447) 447 [.ref 401] M L (rf ld) Q := by
  refine Tm.of (by decide) (Nat.le_of_ble_eq_true rfl) ?_
  show Wp l y_Mod_forget (0, 0, 447) 447 0 0 0 [(0, .ref 401)] [] M L (rf ld) Q
  refine g_aload_n (pc1 := 1) d_Mod_forget_0 rfl 0 rfl ?_
  refine g_geti (pc1 := 4) d_Mod_forget_1 rfl ⟨_, fo_Mod_257⟩ sh_401 (by decide) ?_
  refine Wp.vali (y := nI n) hn ?_
  refine g_istore_n (pc1 := 5) (lv' := [(0, .ref 401), (1, .int (nI n))]) d_Mod_forget_4 rfl rfl (by decide) [1, 0] rfl ?_
  refine g_aload_n (pc1 := 6) d_Mod_forget_5 rfl 0 rfl ?_
  refine g_iconst (pc1 := 7) (v := nI 0) d_Mod_forget_6 rfl (by decide) ?_
  refine g_puti (pc1 := 10) d_Mod_forget_7 rfl fo_Mod_257 (po_12_64 _) sh_401 (by decide) ?_
  refine Wp.topM (fun M112 eM112 => ?_)
  refine g_iload_n (pc1 := 11) d_Mod_forget_10 rfl 1 rfl ?_
  refine g_ireturn (Or.inl rfl) d_Mod_forget_11 rfl ?_
  rw [eM112]
  exact hQ
