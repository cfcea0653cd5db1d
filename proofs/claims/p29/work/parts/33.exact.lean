section MG3x0
/-! exact pictures: fills, values as nI -/
def fl (M : gM) (a o n : Nat) (v : Nat → Int32) : gM := fun c j => if c = a ∧ o ≤ j ∧ j < o + n then v (j - o) else M c j
theorem fl_at {M : gM} {a o n c j : Nat} {v : Nat → Int32} : fl M a o n v c j = if c = a ∧ o ≤ j ∧ j < o + n then v (j - o) else M c j := rfl
theorem fl_0 {M : gM} {a o : Nat} {v : Nat → Int32} : fl M a o 0 v = M := by
  funext c j
  rw [fl_at, if_neg (fun q => by omega)]
theorem fl_s {M : gM} {a o n i : Nat} {x : Int32} {v : Nat → Int32} (hi : i = o + n) (hx : x = v n) : uM (fl M a o n v) a i x = fl M a o (n + 1) v := by
  subst hi; subst hx
  funext c j
  rw [uM_at, fl_at, fl_at]
  by_cases h : c = a ∧ j = o + n
  · rw [if_pos h, if_pos ⟨h.1, by omega, by omega⟩, show j - o = n by omega]
  · rw [if_neg h]
    by_cases g : c = a ∧ o ≤ j ∧ j < o + n
    · rw [if_pos g, if_pos ⟨g.1, g.2.1, by omega⟩]
    · rw [if_neg g, if_neg (fun q => g ⟨q.1, q.2.1, by
        rcases Nat.lt_or_ge j (o + n) with w | w
        · exact w
        · exact absurd ⟨q.1, by omega⟩ h⟩)]
theorem flE_ne {M M' : gM} {a o n c j : Nat} {v : Nat → Int32} (e : M' = fl M a o n v) (h : ¬ (c = a ∧ o ≤ j ∧ j < o + n)) : M' c j = M c j := by rw [e, fl_at, if_neg h]
theorem flE_eq {M M' : gM} {a o n j : Nat} {v : Nat → Int32} (e : M' = fl M a o n v) (h : o ≤ j ∧ j < o + n) : M' a j = v (j - o) := by rw [e, fl_at, if_pos ⟨rfl, h⟩]
theorem nI_mul (a b : Nat) : nI a * nI b = nI (a * b) := (Int32.ofNat_mul a b).symm
theorem nI_sub {a b : Nat} (h : b ≤ a) : nI a - nI b = nI (a - b) := by
  have e : nI a = nI (a - b) + nI b := by rw [nI_add, Nat.sub_add_cancel h]
  rw [e, Int32.add_sub_cancel]
theorem rdn_eq {M' M : gM} {a i j : Nat} {x : Int32} (e : M' = uM M a i x) (h : j = i) : M' a j = x := by rw [h]; exact rd_eq e
theorem in_nat {p : Int32} {a b : Nat} (ha : a < 2 ^ 31) (hb : b < 2 ^ 31) (h : (nI a).toInt ≤ p.toInt ∧ p.toInt ≤ (nI b).toInt) : ∃ q, q ≤ b ∧ a ≤ q ∧ p = nI q := by
  rw [nI_toInt ha, nI_toInt hb] at h
  obtain ⟨q, hq, rfl⟩ := nI_of (x := p) (by rw [Int32.lt_iff_toInt_lt, Int32.toInt_zero]; omega)
  rw [nI_toInt hq] at h
  exact ⟨q, by omega, by omega, rfl⟩
section RULES8
variable {l : Launch} {Y : gY} {E : Nat × Nat × Nat} {n k z pc pc1 : Nat} {lv lv' : List (Nat × Value)} {st : List Value} {M M' : gM} {L : gL} {R : gR} {Q : Option Value → gM → gL → gR → Prop}
theorem Wp.eqM (h : M = M') (kk : Wp l Y E n k z pc lv st M' L R Q) : Wp l Y E n k z pc lv st M L R Q := by rw [h]; exact kk
theorem Wp.eqlv (h : lv = lv') (kk : Wp l Y E n k z pc lv' st M L R Q) : Wp l Y E n k z pc lv st M L R Q := by rw [h]; exact kk
end RULES8
set_option maxHeartbeats 4000000 in
set_option maxRecDepth 20000 in
theorem x_Mod_keepsRow {l : Launch} {ld : Nat} {M : gM} {L : gL} {Q : Option Value → gM → gL → gR → Prop}  (hQ : Q none (fl M 436 0 38 (M 437)) L (rf ld)) : Tm l y_Mod_keepsRow (0, 0, 447) 447 [.ref 401] M L (rf ld) Q := by
  refine Tm.of (by decide) (Nat.le_of_ble_eq_true rfl) ?_
  show Wp l y_Mod_keepsRow (0, 0, 447) 447 0 0 0 [(0, .ref 401)] [] M L (rf ld) Q
  refine g_iconst (pc1 := 1) (v := nI 0) d_Mod_keepsRow_0 rfl (by decide) ?_
  refine g_istore_n (pc1 := 2) (lv' := [(0, .ref 401), (1, .int (nI 0))]) d_Mod_keepsRow_1 rfl rfl (by decide) [1, 0] rfl ?_
  have LP4 : ∀ (f1 k2 : Nat), k2 ≤ 38 → 38 - k2 < f1 → Wp l y_Mod_keepsRow (0, 0, 447) 447 0 0 2 [(0, .ref 401), (1, .int (nI k2))] [] (fl M 436 (0) k2 (M 437)) L (rf ld) Q := by
    intro f1
    induction f1 with
    | zero => intro k2 _ hm; exact absurd hm (Nat.not_lt_zero _)
    | succ f1 ih3 =>
      intro k2 hkk2 hmk2
      refine Wp.topM (fun M5 eM5 => ?_)
      refine g_iload_n (pc1 := 3) d_Mod_keepsRow_2 rfl 1 rfl ?_
      refine g_bipush (pc1 := 5) (v := nI 38) d_Mod_keepsRow_3 rfl (by decide) ?_
      refine g_icmp_ge (pc1 := 8) (tgt := 26) d_Mod_keepsRow_5 (by decide) rfl (fun h6 => ?_) (fun h6 => ?_)
      · have nh6 : (38 : Nat) ≤ (k2 : Nat) := (nI_leI (a := (38 : Nat)) (b := (k2 : Nat)) (by omega) (by omega)).mp h6
        have ekk2 : k2 = 38 := by omega
        rw [ekk2] at eM5
        refine g_return rfl d_Mod_keepsRow_26 rfl ?_
        rw [eM5]
        exact hQ
      · have nh6 : ¬ (38 : Nat) ≤ (k2 : Nat) := fun q => h6 ((nI_leI (a := (38 : Nat)) (b := (k2 : Nat)) (by omega) (by omega)).mpr q)
        refine g_aload_n (pc1 := 9) d_Mod_keepsRow_8 rfl 0 rfl ?_
        refine g_getr (pc1 := 12) d_Mod_keepsRow_9 rfl ⟨_, fo_Mod_122⟩ sh_401 (by decide) (rf_401_52 ld) ?_
        refine g_iload_n (pc1 := 13) d_Mod_keepsRow_12 rfl 1 rfl ?_
        refine g_aload_n (pc1 := 14) d_Mod_keepsRow_13 rfl 0 rfl ?_
        refine g_getr (pc1 := 17) d_Mod_keepsRow_14 rfl ⟨_, fo_Mod_125⟩ sh_401 (by decide) (rf_401_53 ld) ?_
        refine g_iload_n (pc1 := 18) d_Mod_keepsRow_17 rfl 1 rfl ?_
        refine g_iald (pc1 := 19) d_Mod_keepsRow_18 rfl sh_437 (by decide) (vp_in_nI (n := k2) (by omega) (by decide)) ?_
        rw [nI_clamp (n := k2) (by omega)]
        refine Wp.vali (y := M 437 k2) (flE_ne eM5 (fun q => absurd q.1 (by decide))) ?_
        refine g_iast (pc1 := 20) d_Mod_keepsRow_19 rfl sh_436 (by decide) (vp_in_nI (n := k2) (by omega) (by decide)) ?_
        rw [nI_clamp (n := k2) (by omega)]
        refine Wp.topM (fun M7 eM7 => ?_)
        refine g_iinc (pc1 := 23) (v := nI (k2 + 1)) (lv' := [(0, .ref 401), (1, .int (nI (k2 + 1)))]) d_Mod_keepsRow_20 rfl 1 rfl (nI_1 _) (by decide) [1, 0] rfl ?_
        refine g_goto (tgt := 2) d_Mod_keepsRow_23 (by decide) ?_
        refine Wp.eqM (show M7 = fl M 436 (0) (k2 + 1) (M 437) from by rw [eM7, eM5]; exact fl_s (by omega) rfl) ?_
        exact ih3 (k2 + 1) (by omega) (by omega)
  refine Wp.eqM (fl_0 (a := 436) (o := 0) (v := (M 437))).symm ?_
  exact LP4 _ 0 (by omega) (Nat.lt_succ_self _)
set_option maxHeartbeats 4000000 in
set_option maxRecDepth 20000 in
theorem x_Mod_copies {l : Launch} {ld : Nat} {M : gM} {L : gL} {Q : Option Value → gM → gL → gR → Prop} {lv : Nat} (hlv : M 401 18 = nI lv) (hl1 : lv ≤ 1) (hQ : Q none (uM (fl M 437 0 38 (M 436)) 401 54 (M 423 lv)) L (rf ld)) : Tm l y_Mod_copies (0, 0, 447) 447 [.ref 401] M L (rf ld) Q := by
  refine Tm.of (by decide) (Nat.le_of_ble_eq_true rfl) ?_
  show Wp l y_Mod_copies (0, 0, 447) 447 0 0 0 [(0, .ref 401)] [] M L (rf ld) Q
  refine g_iconst (pc1 := 1) (v := nI 0) d_Mod_copies_0 rfl (by decide) ?_
  refine g_istore_n (pc1 := 2) (lv' := [(0, .ref 401), (1, .int (nI 0))]) d_Mod_copies_1 rfl rfl (by decide) [1, 0] rfl ?_
  have LP11 : ∀ (f8 k9 : Nat), k9 ≤ 38 → 38 - k9 < f8 → Wp l y_Mod_copies (0, 0, 447) 447 0 0 2 [(0, .ref 401), (1, .int (nI k9))] [] (fl M 437 (0) k9 (M 436)) L (rf ld) Q := by
    intro f8
    induction f8 with
    | zero => intro k9 _ hm; exact absurd hm (Nat.not_lt_zero _)
    | succ f8 ih10 =>
      intro k9 hkk9 hmk9
      refine Wp.topM (fun M12 eM12 => ?_)
      refine g_iload_n (pc1 := 3) d_Mod_copies_2 rfl 1 rfl ?_
      refine g_bipush (pc1 := 5) (v := nI 38) d_Mod_copies_3 rfl (by decide) ?_
      refine g_icmp_ge (pc1 := 8) (tgt := 26) d_Mod_copies_5 (by decide) rfl (fun h13 => ?_) (fun h13 => ?_)
      · have nh13 : (38 : Nat) ≤ (k9 : Nat) := (nI_leI (a := (38 : Nat)) (b := (k9 : Nat)) (by omega) (by omega)).mp h13
        have ekk9 : k9 = 38 := by omega
        rw [ekk9] at eM12
        refine g_aload_n (pc1 := 27) d_Mod_copies_26 rfl 0 rfl ?_
        refine g_aload_n (pc1 := 28) d_Mod_copies_27 rfl 0 rfl ?_
        refine g_getr (pc1 := 31) d_Mod_copies_28 rfl ⟨_, fo_Mod_82⟩ sh_401 (by decide) (rf_401_35 ld) ?_
        refine g_aload_n (pc1 := 32) d_Mod_copies_31 rfl 0 rfl ?_
        refine g_geti (pc1 := 35) d_Mod_copies_32 rfl ⟨_, fo_Mod_236⟩ sh_401 (by decide) ?_
        refine Wp.vali (y := nI lv) ((flE_ne eM12 (fun q => absurd q.1 (by decide))).trans hlv) ?_
        refine g_iald (pc1 := 36) d_Mod_copies_35 rfl sh_423 (by decide) (vp_in_nI (n := lv) (by omega) (by decide)) ?_
        rw [nI_clamp (n := lv) (by omega)]
        refine Wp.vali (y := M 423 lv) (flE_ne eM12 (fun q => absurd q.1 (by decide))) ?_
        refine g_puti (pc1 := 39) d_Mod_copies_36 rfl fo_Mod_320 (po_12_54 _) sh_401 (by decide) ?_
        refine Wp.topM (fun M14 eM14 => ?_)
        refine g_return rfl d_Mod_copies_39 rfl ?_
        rw [eM14, eM12]
        exact hQ
      · have nh13 : ¬ (38 : Nat) ≤ (k9 : Nat) := fun q => h13 ((nI_leI (a := (38 : Nat)) (b := (k9 : Nat)) (by omega) (by omega)).mpr q)
        refine g_aload_n (pc1 := 9) d_Mod_copies_8 rfl 0 rfl ?_
        refine g_getr (pc1 := 12) d_Mod_copies_9 rfl ⟨_, fo_Mod_125⟩ sh_401 (by decide) (rf_401_53 ld) ?_
        refine g_iload_n (pc1 := 13) d_Mod_copies_12 rfl 1 rfl ?_
        refine g_aload_n (pc1 := 14) d_Mod_copies_13 rfl 0 rfl ?_
        refine g_getr (pc1 := 17) d_Mod_copies_14 rfl ⟨_, fo_Mod_122⟩ sh_401 (by decide) (rf_401_52 ld) ?_
        refine g_iload_n (pc1 := 18) d_Mod_copies_17 rfl 1 rfl ?_
        refine g_iald (pc1 := 19) d_Mod_copies_18 rfl sh_436 (by decide) (vp_in_nI (n := k9) (by omega) (by decide)) ?_
        rw [nI_clamp (n := k9) (by omega)]
        refine Wp.vali (y := M 436 k9) (flE_ne eM12 (fun q => absurd q.1 (by decide))) ?_
        refine g_iast (pc1 := 20) d_Mod_copies_19 rfl sh_437 (by decide) (vp_in_nI (n := k9) (by omega) (by decide)) ?_
        rw [nI_clamp (n := k9) (by omega)]
        refine Wp.topM (fun M15 eM15 => ?_)
        refine g_iinc (pc1 := 23) (v := nI (k9 + 1)) (lv' := [(0, .ref 401), (1, .int (nI (k9 + 1)))]) d_Mod_copies_20 rfl 1 rfl (nI_1 _) (by decide) [1, 0] rfl ?_
        refine g_goto (tgt := 2) d_Mod_copies_23 (by decide) ?_
        refine Wp.eqM (show M15 = fl M 437 (0) (k9 + 1) (M 436) from by rw [eM15, eM12]; exact fl_s (by omega) rfl) ?_
        exact ih10 (k9 + 1) (by omega) (by omega)
  refine Wp.eqM (fl_0 (a := 437) (o := 0) (v := (M 436))).symm ?_
  exact LP11 _ 0 (by omega) (Nat.lt_succ_self _)
set_option maxHeartbeats 4000000 in
set_option maxRecDepth 20000 in
theorem x_Mod_begins {l : Launch} {ld : Nat} {M : gM} {L : gL} {Q : Option Value → gM → gL → gR → Prop} {lv F : Nat} (hlv : M 401 18 = nI lv) (hl1 : lv ≤ 1) (hF : M 411 lv = nI F) (hF6 : F ≤ 6) (hQ : Q none (uM (fl (uM (fl (fl M 437 0 38 (fun _ => nI 0)) 437 0 F (fun f => M 412 (6 * lv + f))) 437 11 (-2)) 437 15 4 (fun _ => (-2))) 401 54 (M 423 lv)) L (rf ld)) : Tm l y_Mod_begins (0, 0, 447) 447 [.ref 401] M L (rf ld) Q := by
  refine Tm.of (by decide) (Nat.le_of_ble_eq_true rfl) ?_
  show Wp l y_Mod_begins (0, 0, 447) 447 0 0 0 [(0, .ref 401)] [] M L (rf ld) Q
  refine g_iconst (pc1 := 1) (v := nI 0) d_Mod_begins_0 rfl (by decide) ?_
  refine g_istore_n (pc1 := 2) (lv' := [(0, .ref 401), (1, .int (nI 0))]) d_Mod_begins_1 rfl rfl (by decide) [1, 0] rfl ?_
  have LP19 : ∀ (f16 k17 : Nat), k17 ≤ 38 → 38 - k17 < f16 → Wp l y_Mod_begins (0, 0, 447) 447 0 0 2 [(0, .ref 401), (1, .int (nI k17))] [] (fl M 437 (0) k17 (fun _ => nI 0)) L (rf ld) Q := by
    intro f16
    induction f16 with
    | zero => intro k17 _ hm; exact absurd hm (Nat.not_lt_zero _)
    | succ f16 ih18 =>
      intro k17 hkk17 hmk17
      refine Wp.topM (fun M20 eM20 => ?_)
      refine g_iload_n (pc1 := 3) d_Mod_begins_2 rfl 1 rfl ?_
      refine g_bipush (pc1 := 5) (v := nI 38) d_Mod_begins_3 rfl (by decide) ?_
      refine g_icmp_ge (pc1 := 8) (tgt := 21) d_Mod_begins_5 (by decide) rfl (fun h21 => ?_) (fun h21 => ?_)
      · have nh21 : (38 : Nat) ≤ (k17 : Nat) := (nI_leI (a := (38 : Nat)) (b := (k17 : Nat)) (by omega) (by omega)).mp h21
        have ekk17 : k17 = 38 := by omega
        rw [ekk17] at eM20
        refine g_iconst (pc1 := 22) (v := nI 0) d_Mod_begins_21 rfl (by decide) ?_
        refine g_istore_n (pc1 := 23) (lv' := [(0, .ref 401), (1, .int (nI 0))]) d_Mod_begins_22 rfl rfl (by decide) [1, 0] rfl ?_
        have LP25 : ∀ (f22 k23 : Nat), k23 ≤ F → F - k23 < f22 → Wp l y_Mod_begins (0, 0, 447) 447 0 0 23 [(0, .ref 401), (1, .int (nI k23))] [] (fl M20 437 (0) k23 (fun f => M 412 (6 * lv + f))) L (rf ld) Q := by
          intro f22
          induction f22 with
          | zero => intro k23 _ hm; exact absurd hm (Nat.not_lt_zero _)
          | succ f22 ih24 =>
            intro k23 hkk23 hmk23
            refine Wp.topM (fun M26 eM26 => ?_)
            refine g_iload_n (pc1 := 24) d_Mod_begins_23 rfl 1 rfl ?_
            refine g_aload_n (pc1 := 25) d_Mod_begins_24 rfl 0 rfl ?_
            refine g_getr (pc1 := 28) d_Mod_begins_25 rfl ⟨_, fo_Mod_46⟩ sh_401 (by decide) (rf_401_23 ld) ?_
            refine g_aload_n (pc1 := 29) d_Mod_begins_28 rfl 0 rfl ?_
            refine g_geti (pc1 := 32) d_Mod_begins_29 rfl ⟨_, fo_Mod_236⟩ sh_401 (by decide) ?_
            refine Wp.vali (y := nI lv) (((flE_ne eM26 (fun q => absurd q.1 (by decide))).trans (flE_ne eM20 (fun q => absurd q.1 (by decide)))).trans hlv) ?_
            refine g_iald (pc1 := 33) d_Mod_begins_32 rfl sh_411 (by decide) (vp_in_nI (n := lv) (by omega) (by decide)) ?_
            rw [nI_clamp (n := lv) (by omega)]
            refine Wp.vali (y := nI F) (((flE_ne eM26 (fun q => absurd q.1 (by decide))).trans (flE_ne eM20 (fun q => absurd q.1 (by decide)))).trans hF) ?_
            refine g_icmp_ge (pc1 := 36) (tgt := 62) d_Mod_begins_33 (by decide) rfl (fun h27 => ?_) (fun h27 => ?_)
            · have nh27 : (F : Nat) ≤ (k23 : Nat) := (nI_leI (a := (F : Nat)) (b := (k23 : Nat)) (by omega) (by omega)).mp h27
              have ekk23 : k23 = F := by omega
              rw [ekk23] at eM26
              refine g_aload_n (pc1 := 63) d_Mod_begins_62 rfl 0 rfl ?_
              refine g_getr (pc1 := 66) d_Mod_begins_63 rfl ⟨_, fo_Mod_125⟩ sh_401 (by decide) (rf_401_53 ld) ?_
              refine g_bipush (pc1 := 68) (v := nI 11) d_Mod_begins_66 rfl (by decide) ?_
              refine g_bipush (pc1 := 70) (v := (-2)) d_Mod_begins_68 rfl (by decide) ?_
              refine g_iast (pc1 := 71) d_Mod_begins_70 rfl sh_437 (by decide) (vp_in_nI (n := 11) (by omega) (by decide)) ?_
              rw [nI_clamp (n := 11) (by omega)]
              refine Wp.topM (fun M28 eM28 => ?_)
              refine g_iconst (pc1 := 72) (v := nI 0) d_Mod_begins_71 rfl (by decide) ?_
              refine g_istore_n (pc1 := 73) (lv' := [(0, .ref 401), (1, .int (nI 0))]) d_Mod_begins_72 rfl rfl (by decide) [1, 0] rfl ?_
              have LP32 : ∀ (f29 k30 : Nat), k30 ≤ 4 → 4 - k30 < f29 → Wp l y_Mod_begins (0, 0, 447) 447 0 0 73 [(0, .ref 401), (1, .int (nI k30))] [] (fl M28 437 (15) k30 (fun _ => (-2))) L (rf ld) Q := by
                intro f29
                induction f29 with
                | zero => intro k30 _ hm; exact absurd hm (Nat.not_lt_zero _)
                | succ f29 ih31 =>
                  intro k30 hkk30 hmk30
                  refine Wp.topM (fun M33 eM33 => ?_)
                  refine g_iload_n (pc1 := 74) d_Mod_begins_73 rfl 1 rfl ?_
                  refine g_iconst (pc1 := 75) (v := nI 4) d_Mod_begins_74 rfl (by decide) ?_
                  refine g_icmp_ge (pc1 := 78) (tgt := 95) d_Mod_begins_75 (by decide) rfl (fun h34 => ?_) (fun h34 => ?_)
                  · have nh34 : (4 : Nat) ≤ (k30 : Nat) := (nI_leI (a := (4 : Nat)) (b := (k30 : Nat)) (by omega) (by omega)).mp h34
                    have ekk30 : k30 = 4 := by omega
                    rw [ekk30] at eM33
                    refine g_aload_n (pc1 := 96) d_Mod_begins_95 rfl 0 rfl ?_
                    refine g_aload_n (pc1 := 97) d_Mod_begins_96 rfl 0 rfl ?_
                    refine g_getr (pc1 := 100) d_Mod_begins_97 rfl ⟨_, fo_Mod_82⟩ sh_401 (by decide) (rf_401_35 ld) ?_
                    refine g_aload_n (pc1 := 101) d_Mod_begins_100 rfl 0 rfl ?_
                    refine g_geti (pc1 := 104) d_Mod_begins_101 rfl ⟨_, fo_Mod_236⟩ sh_401 (by decide) ?_
                    refine Wp.vali (y := nI lv) (((((flE_ne eM33 (fun q => absurd q.1 (by decide))).trans (rd_ne eM28 (fun q => absurd q.1 (by decide)))).trans (flE_ne eM26 (fun q => absurd q.1 (by decide)))).trans (flE_ne eM20 (fun q => absurd q.1 (by decide)))).trans hlv) ?_
                    refine g_iald (pc1 := 105) d_Mod_begins_104 rfl sh_423 (by decide) (vp_in_nI (n := lv) (by omega) (by decide)) ?_
                    rw [nI_clamp (n := lv) (by omega)]
                    refine Wp.vali (y := M 423 lv) ((((flE_ne eM33 (fun q => absurd q.1 (by decide))).trans (rd_ne eM28 (fun q => absurd q.1 (by decide)))).trans (flE_ne eM26 (fun q => absurd q.1 (by decide)))).trans (flE_ne eM20 (fun q => absurd q.1 (by decide)))) ?_
                    refine g_puti (pc1 := 108) d_Mod_begins_105 rfl fo_Mod_320 (po_12_54 _) sh_401 (by decide) ?_
                    refine Wp.topM (fun M35 eM35 => ?_)
                    refine g_return rfl d_Mod_begins_108 rfl ?_
                    rw [eM35, eM33, eM28, eM26, eM20]
                    exact hQ
                  · have nh34 : ¬ (4 : Nat) ≤ (k30 : Nat) := fun q => h34 ((nI_leI (a := (4 : Nat)) (b := (k30 : Nat)) (by omega) (by omega)).mpr q)
                    refine g_aload_n (pc1 := 79) d_Mod_begins_78 rfl 0 rfl ?_
                    refine g_getr (pc1 := 82) d_Mod_begins_79 rfl ⟨_, fo_Mod_125⟩ sh_401 (by decide) (rf_401_53 ld) ?_
                    refine g_bipush (pc1 := 84) (v := nI 15) d_Mod_begins_82 rfl (by decide) ?_
                    refine g_iload_n (pc1 := 85) d_Mod_begins_84 rfl 1 rfl ?_
                    refine g_iadd (pc1 := 86) d_Mod_begins_85 rfl ?_
                    refine Wp.vali (y := nI (15 + k30)) (nI_add _ _) ?_
                    refine g_bipush (pc1 := 88) (v := (-2)) d_Mod_begins_86 rfl (by decide) ?_
                    refine g_iast (pc1 := 89) d_Mod_begins_88 rfl sh_437 (by decide) (vp_in_nI (n := 15 + k30) (by omega) (by decide)) ?_
                    rw [nI_clamp (n := 15 + k30) (by omega)]
                    refine Wp.topM (fun M36 eM36 => ?_)
                    refine g_iinc (pc1 := 92) (v := nI (k30 + 1)) (lv' := [(0, .ref 401), (1, .int (nI (k30 + 1)))]) d_Mod_begins_89 rfl 1 rfl (nI_1 _) (by decide) [1, 0] rfl ?_
                    refine g_goto (tgt := 73) d_Mod_begins_92 (by decide) ?_
                    refine Wp.eqM (show M36 = fl M28 437 (15) (k30 + 1) (fun _ => (-2)) from by rw [eM36, eM33]; exact fl_s (by omega) rfl) ?_
                    exact ih31 (k30 + 1) (by omega) (by omega)
              refine Wp.eqM (fl_0 (a := 437) (o := 15) (v := (fun _ => (-2)))).symm ?_
              exact LP32 _ 0 (by omega) (Nat.lt_succ_self _)
            · have nh27 : ¬ (F : Nat) ≤ (k23 : Nat) := fun q => h27 ((nI_leI (a := (F : Nat)) (b := (k23 : Nat)) (by omega) (by omega)).mpr q)
              refine g_aload_n (pc1 := 37) d_Mod_begins_36 rfl 0 rfl ?_
              refine g_getr (pc1 := 40) d_Mod_begins_37 rfl ⟨_, fo_Mod_125⟩ sh_401 (by decide) (rf_401_53 ld) ?_
              refine g_iload_n (pc1 := 41) d_Mod_begins_40 rfl 1 rfl ?_
              refine g_aload_n (pc1 := 42) d_Mod_begins_41 rfl 0 rfl ?_
              refine g_getr (pc1 := 45) d_Mod_begins_42 rfl ⟨_, fo_Mod_49⟩ sh_401 (by decide) (rf_401_24 ld) ?_
              refine g_bipush (pc1 := 47) (v := nI 6) d_Mod_begins_45 rfl (by decide) ?_
              refine g_aload_n (pc1 := 48) d_Mod_begins_47 rfl 0 rfl ?_
              refine g_geti (pc1 := 51) d_Mod_begins_48 rfl ⟨_, fo_Mod_236⟩ sh_401 (by decide) ?_
              refine Wp.vali (y := nI lv) (((flE_ne eM26 (fun q => absurd q.1 (by decide))).trans (flE_ne eM20 (fun q => absurd q.1 (by decide)))).trans hlv) ?_
              refine g_imul (pc1 := 52) d_Mod_begins_51 rfl ?_
              refine Wp.vali (y := nI (6 * lv)) (nI_mul _ _) ?_
              refine g_iload_n (pc1 := 53) d_Mod_begins_52 rfl 1 rfl ?_
              refine g_iadd (pc1 := 54) d_Mod_begins_53 rfl ?_
              refine Wp.vali (y := nI ((6 * lv) + k23)) (nI_add _ _) ?_
              refine g_iald (pc1 := 55) d_Mod_begins_54 rfl sh_412 (by decide) (vp_in_nI (n := (6 * lv) + k23) (by omega) (by decide)) ?_
              rw [nI_clamp (n := (6 * lv) + k23) (by omega)]
              refine Wp.vali (y := M 412 ((6 * lv) + k23)) ((flE_ne eM26 (fun q => absurd q.1 (by decide))).trans (flE_ne eM20 (fun q => absurd q.1 (by decide)))) ?_
              refine g_iast (pc1 := 56) d_Mod_begins_55 rfl sh_437 (by decide) (vp_in_nI (n := k23) (by omega) (by decide)) ?_
              rw [nI_clamp (n := k23) (by omega)]
              refine Wp.topM (fun M37 eM37 => ?_)
              refine g_iinc (pc1 := 59) (v := nI (k23 + 1)) (lv' := [(0, .ref 401), (1, .int (nI (k23 + 1)))]) d_Mod_begins_56 rfl 1 rfl (nI_1 _) (by decide) [1, 0] rfl ?_
              refine g_goto (tgt := 23) d_Mod_begins_59 (by decide) ?_
              refine Wp.eqM (show M37 = fl M20 437 (0) (k23 + 1) (fun f => M 412 (6 * lv + f)) from by rw [eM37, eM26]; exact fl_s (by omega) rfl) ?_
              exact ih24 (k23 + 1) (by omega) (by omega)
        refine Wp.eqM (fl_0 (a := 437) (o := 0) (v := (fun f => M 412 (6 * lv + f)))).symm ?_
        exact LP25 _ 0 (by omega) (Nat.lt_succ_self _)
      · have nh21 : ¬ (38 : Nat) ≤ (k17 : Nat) := fun q => h21 ((nI_leI (a := (38 : Nat)) (b := (k17 : Nat)) (by omega) (by omega)).mpr q)
        refine g_aload_n (pc1 := 9) d_Mod_begins_8 rfl 0 rfl ?_
        refine g_getr (pc1 := 12) d_Mod_begins_9 rfl ⟨_, fo_Mod_125⟩ sh_401 (by decide) (rf_401_53 ld) ?_
        refine g_iload_n (pc1 := 13) d_Mod_begins_12 rfl 1 rfl ?_
        refine g_iconst (pc1 := 14) (v := nI 0) d_Mod_begins_13 rfl (by decide) ?_
        refine g_iast (pc1 := 15) d_Mod_begins_14 rfl sh_437 (by decide) (vp_in_nI (n := k17) (by omega) (by decide)) ?_
        rw [nI_clamp (n := k17) (by omega)]
        refine Wp.topM (fun M38 eM38 => ?_)
        refine g_iinc (pc1 := 18) (v := nI (k17 + 1)) (lv' := [(0, .ref 401), (1, .int (nI (k17 + 1)))]) d_Mod_begins_15 rfl 1 rfl (nI_1 _) (by decide) [1, 0] rfl ?_
        refine g_goto (tgt := 2) d_Mod_begins_18 (by decide) ?_
        refine Wp.eqM (show M38 = fl M 437 (0) (k17 + 1) (fun _ => nI 0) from by rw [eM38, eM20]; exact fl_s (by omega) rfl) ?_
        exact ih18 (k17 + 1) (by omega) (by omega)
  refine Wp.eqM (fl_0 (a := 437) (o := 0) (v := (fun _ => nI 0))).symm ?_
  exact LP19 _ 0 (by omega) (Nat.lt_succ_self _)
set_option maxHeartbeats 4000000 in
set_option maxRecDepth 20000 in
theorem x_Mod_appends {l : Launch} {ld : Nat} {M : gM} {L : gL} {Q : Option Value → gM → gL → gR → Prop} {p0 : Int64} {p1 : Int32} (hQ0 : p1 = 0 → Q (some (.long p0)) M L (rf ld)) (hQ1 : ¬ p1 = 0 → Q (some (.long (27 * p0 + (p1 - nI 97 + nI 1).toInt64))) M L (rf ld)) : Tm l y_Mod_appends (0, 0, 447) 447 [.long p0, .int p1] M L (rf ld) Q := by
  refine Tm.of (by decide) (Nat.le_of_ble_eq_true rfl) ?_
  show Wp l y_Mod_appends (0, 0, 447) 447 0 0 0 [(0, .long p0), (2, .int p1)] [] M L (rf ld) Q
  refine g_iload_n (pc1 := 1) d_Mod_appends_0 rfl 1 rfl ?_
  refine g_if_ne (pc1 := 4) (tgt := 8) d_Mod_appends_1 (by decide) rfl (fun h39 => ?_) (fun h39 => ?_)
  · refine g_ldc2 (pc1 := 11) (v := 27) d_Mod_appends_8 rfl co_Mod_178 ?_
    refine g_lload_n (pc1 := 12) d_Mod_appends_11 rfl 0 rfl ?_
    refine g_lmul (pc1 := 13) d_Mod_appends_12 rfl ?_
    refine g_iload_n (pc1 := 14) d_Mod_appends_13 rfl 1 rfl ?_
    refine g_bipush (pc1 := 16) (v := nI 97) d_Mod_appends_14 rfl (by decide) ?_
    refine g_isub (pc1 := 17) d_Mod_appends_16 rfl ?_
    refine g_iconst (pc1 := 18) (v := nI 1) d_Mod_appends_17 rfl (by decide) ?_
    refine g_iadd (pc1 := 19) d_Mod_appends_18 rfl ?_
    refine g_i2l (pc1 := 20) d_Mod_appends_19 rfl ?_
    refine g_ladd (pc1 := 21) d_Mod_appends_20 rfl ?_
    refine g_lreturn rfl d_Mod_appends_21 rfl ?_
    exact hQ1 ‹_›
  · refine g_lload_n (pc1 := 5) d_Mod_appends_4 rfl 0 rfl ?_
    refine g_goto (tgt := 21) d_Mod_appends_5 (by decide) ?_
    refine g_lreturn rfl d_Mod_appends_21 rfl ?_
    exact hQ0 ‹_›
set_option maxHeartbeats 4000000 in
set_option maxRecDepth 20000 in
theorem x_Mod_plain_0 {l : Launch} {ld : Nat} {M : gM} {L : gL} {Q : Option Value → gM → gL → gR → Prop}  (hQ : Q none (uM (uM (uM (uM (uM (uM (uM (uM (uM (uM (uM (uM (uM (M) 411 0 (nI 0)) 415 0 (nI 0)) 418 0 (nI 0)) 420 0 (nI 0)) 423 0 (nI 0)) 424 0 (nI 0)) 425 0 (nI 0)) 424 1 (nI 0)) 425 1 (nI 0)) 424 2 (nI 0)) 425 2 (nI 0)) 424 3 (nI 0)) 425 3 (nI 0)) L (rf ld)) : Tm l y_Mod_plain (0, 0, 447) 447 [.ref 401, .int (nI 0)] M L (rf ld) Q := by
  refine Tm.of (by decide) (Nat.le_of_ble_eq_true rfl) ?_
  show Wp l y_Mod_plain (0, 0, 447) 447 0 0 0 [(0, .ref 401), (1, .int (nI 0))] [] M L (rf ld) Q
  refine g_aload_n (pc1 := 1) d_Mod_plain_0 rfl 0 rfl ?_
  refine g_getr (pc1 := 4) d_Mod_plain_1 rfl ⟨_, fo_Mod_46⟩ sh_401 (by decide) (rf_401_23 ld) ?_
  refine g_iload_n (pc1 := 5) d_Mod_plain_4 rfl 1 rfl ?_
  refine g_iconst (pc1 := 6) (v := nI 0) d_Mod_plain_5 rfl (by decide) ?_
  refine g_iast (pc1 := 7) d_Mod_plain_6 rfl sh_411 (by decide) (vp_in_nI (n := 0) (by omega) (by decide)) ?_
  rw [nI_clamp (n := 0) (by omega)]
  refine Wp.topM (fun M40 eM40 => ?_)
  refine g_aload_n (pc1 := 8) d_Mod_plain_7 rfl 0 rfl ?_
  refine g_getr (pc1 := 11) d_Mod_plain_8 rfl ⟨_, fo_Mod_58⟩ sh_401 (by decide) (rf_401_27 ld) ?_
  refine g_iload_n (pc1 := 12) d_Mod_plain_11 rfl 1 rfl ?_
  refine g_iconst (pc1 := 13) (v := nI 0) d_Mod_plain_12 rfl (by decide) ?_
  refine g_iast (pc1 := 14) d_Mod_plain_13 rfl sh_415 (by decide) (vp_in_nI (n := 0) (by omega) (by decide)) ?_
  rw [nI_clamp (n := 0) (by omega)]
  refine Wp.topM (fun M41 eM41 => ?_)
  refine g_aload_n (pc1 := 15) d_Mod_plain_14 rfl 0 rfl ?_
  refine g_getr (pc1 := 18) d_Mod_plain_15 rfl ⟨_, fo_Mod_67⟩ sh_401 (by decide) (rf_401_30 ld) ?_
  refine g_iload_n (pc1 := 19) d_Mod_plain_18 rfl 1 rfl ?_
  refine g_iconst (pc1 := 20) (v := nI 0) d_Mod_plain_19 rfl (by decide) ?_
  refine g_iast (pc1 := 21) d_Mod_plain_20 rfl sh_418 (by decide) (vp_in_nI (n := 0) (by omega) (by decide)) ?_
  rw [nI_clamp (n := 0) (by omega)]
  refine Wp.topM (fun M42 eM42 => ?_)
  refine g_aload_n (pc1 := 22) d_Mod_plain_21 rfl 0 rfl ?_
  refine g_getr (pc1 := 25) d_Mod_plain_22 rfl ⟨_, fo_Mod_73⟩ sh_401 (by decide) (rf_401_32 ld) ?_
  refine g_iload_n (pc1 := 26) d_Mod_plain_25 rfl 1 rfl ?_
  refine g_iconst (pc1 := 27) (v := nI 0) d_Mod_plain_26 rfl (by decide) ?_
  refine g_iast (pc1 := 28) d_Mod_plain_27 rfl sh_420 (by decide) (vp_in_nI (n := 0) (by omega) (by decide)) ?_
  rw [nI_clamp (n := 0) (by omega)]
  refine Wp.topM (fun M43 eM43 => ?_)
  refine g_aload_n (pc1 := 29) d_Mod_plain_28 rfl 0 rfl ?_
  refine g_getr (pc1 := 32) d_Mod_plain_29 rfl ⟨_, fo_Mod_82⟩ sh_401 (by decide) (rf_401_35 ld) ?_
  refine g_iload_n (pc1 := 33) d_Mod_plain_32 rfl 1 rfl ?_
  refine g_iconst (pc1 := 34) (v := nI 0) d_Mod_plain_33 rfl (by decide) ?_
  refine g_iast (pc1 := 35) d_Mod_plain_34 rfl sh_423 (by decide) (vp_in_nI (n := 0) (by omega) (by decide)) ?_
  rw [nI_clamp (n := 0) (by omega)]
  refine Wp.topM (fun M44 eM44 => ?_)
  refine g_iconst (pc1 := 36) (v := nI 0) d_Mod_plain_35 rfl (by decide) ?_
  refine g_istore_n (pc1 := 37) (lv' := [(0, .ref 401), (1, .int (nI 0)), (2, .int (nI 0))]) d_Mod_plain_36 rfl rfl (by decide) [1, 2, 0] rfl ?_
  refine g_iload_n (pc1 := 38) d_Mod_plain_37 rfl 2 rfl ?_
  refine g_iconst (pc1 := 39) (v := nI 4) d_Mod_plain_38 rfl (by decide) ?_
  refine g_icmp_ge (pc1 := 42) (tgt := 70) d_Mod_plain_39 (by decide) rfl (fun h => absurd h (by decide)) (fun _ => ?_)
  refine g_aload_n (pc1 := 43) d_Mod_plain_42 rfl 0 rfl ?_
  refine g_getr (pc1 := 46) d_Mod_plain_43 rfl ⟨_, fo_Mod_85⟩ sh_401 (by decide) (rf_401_36 ld) ?_
  refine g_iconst (pc1 := 47) (v := nI 4) d_Mod_plain_46 rfl (by decide) ?_
  refine g_iload_n (pc1 := 48) d_Mod_plain_47 rfl 1 rfl ?_
  refine g_imul (pc1 := 49) d_Mod_plain_48 rfl ?_
  refine Wp.vali (y := nI 0) (by decide) ?_
  refine g_iload_n (pc1 := 50) d_Mod_plain_49 rfl 2 rfl ?_
  refine g_iadd (pc1 := 51) d_Mod_plain_50 rfl ?_
  refine Wp.vali (y := nI 0) (by decide) ?_
  refine g_iconst (pc1 := 52) (v := nI 0) d_Mod_plain_51 rfl (by decide) ?_
  refine g_iast (pc1 := 53) d_Mod_plain_52 rfl sh_424 (by decide) (vp_in_nI (n := 0) (by omega) (by decide)) ?_
  rw [nI_clamp (n := 0) (by omega)]
  refine Wp.topM (fun M46 eM46 => ?_)
  refine g_aload_n (pc1 := 54) d_Mod_plain_53 rfl 0 rfl ?_
  refine g_getr (pc1 := 57) d_Mod_plain_54 rfl ⟨_, fo_Mod_88⟩ sh_401 (by decide) (rf_401_37 ld) ?_
  refine g_iconst (pc1 := 58) (v := nI 4) d_Mod_plain_57 rfl (by decide) ?_
  refine g_iload_n (pc1 := 59) d_Mod_plain_58 rfl 1 rfl ?_
  refine g_imul (pc1 := 60) d_Mod_plain_59 rfl ?_
  refine Wp.vali (y := nI 0) (by decide) ?_
  refine g_iload_n (pc1 := 61) d_Mod_plain_60 rfl 2 rfl ?_
  refine g_iadd (pc1 := 62) d_Mod_plain_61 rfl ?_
  refine Wp.vali (y := nI 0) (by decide) ?_
  refine g_iconst (pc1 := 63) (v := nI 0) d_Mod_plain_62 rfl (by decide) ?_
  refine g_iast (pc1 := 64) d_Mod_plain_63 rfl sh_425 (by decide) (vp_in_nI (n := 0) (by omega) (by decide)) ?_
  rw [nI_clamp (n := 0) (by omega)]
  refine Wp.topM (fun M47 eM47 => ?_)
  refine g_iinc (pc1 := 67) (v := nI 1) (lv' := [(0, .ref 401), (1, .int (nI 0)), (2, .int (nI 1))]) d_Mod_plain_64 rfl 2 rfl (by decide) (by decide) [1, 2, 0] rfl ?_
  refine g_goto (tgt := 37) d_Mod_plain_67 (by decide) ?_
  refine g_iload_n (pc1 := 38) d_Mod_plain_37 rfl 2 rfl ?_
  refine g_iconst (pc1 := 39) (v := nI 4) d_Mod_plain_38 rfl (by decide) ?_
  refine g_icmp_ge (pc1 := 42) (tgt := 70) d_Mod_plain_39 (by decide) rfl (fun h => absurd h (by decide)) (fun _ => ?_)
  refine g_aload_n (pc1 := 43) d_Mod_plain_42 rfl 0 rfl ?_
  refine g_getr (pc1 := 46) d_Mod_plain_43 rfl ⟨_, fo_Mod_85⟩ sh_401 (by decide) (rf_401_36 ld) ?_
  refine g_iconst (pc1 := 47) (v := nI 4) d_Mod_plain_46 rfl (by decide) ?_
  refine g_iload_n (pc1 := 48) d_Mod_plain_47 rfl 1 rfl ?_
  refine g_imul (pc1 := 49) d_Mod_plain_48 rfl ?_
  refine Wp.vali (y := nI 0) (by decide) ?_
  refine g_iload_n (pc1 := 50) d_Mod_plain_49 rfl 2 rfl ?_
  refine g_iadd (pc1 := 51) d_Mod_plain_50 rfl ?_
  refine Wp.vali (y := nI 1) (by decide) ?_
  refine g_iconst (pc1 := 52) (v := nI 0) d_Mod_plain_51 rfl (by decide) ?_
  refine g_iast (pc1 := 53) d_Mod_plain_52 rfl sh_424 (by decide) (vp_in_nI (n := 1) (by omega) (by decide)) ?_
  rw [nI_clamp (n := 1) (by omega)]
  refine Wp.topM (fun M49 eM49 => ?_)
  refine g_aload_n (pc1 := 54) d_Mod_plain_53 rfl 0 rfl ?_
  refine g_getr (pc1 := 57) d_Mod_plain_54 rfl ⟨_, fo_Mod_88⟩ sh_401 (by decide) (rf_401_37 ld) ?_
  refine g_iconst (pc1 := 58) (v := nI 4) d_Mod_plain_57 rfl (by decide) ?_
  refine g_iload_n (pc1 := 59) d_Mod_plain_58 rfl 1 rfl ?_
  refine g_imul (pc1 := 60) d_Mod_plain_59 rfl ?_
  refine Wp.vali (y := nI 0) (by decide) ?_
  refine g_iload_n (pc1 := 61) d_Mod_plain_60 rfl 2 rfl ?_
  refine g_iadd (pc1 := 62) d_Mod_plain_61 rfl ?_
  refine Wp.vali (y := nI 1) (by decide) ?_
  refine g_iconst (pc1 := 63) (v := nI 0) d_Mod_plain_62 rfl (by decide) ?_
  refine g_iast (pc1 := 64) d_Mod_plain_63 rfl sh_425 (by decide) (vp_in_nI (n := 1) (by omega) (by decide)) ?_
  rw [nI_clamp (n := 1) (by omega)]
  refine Wp.topM (fun M50 eM50 => ?_)
  refine g_iinc (pc1 := 67) (v := nI 2) (lv' := [(0, .ref 401), (1, .int (nI 0)), (2, .int (nI 2))]) d_Mod_plain_64 rfl 2 rfl (by decide) (by decide) [1, 2, 0] rfl ?_
  refine g_goto (tgt := 37) d_Mod_plain_67 (by decide) ?_
  refine g_iload_n (pc1 := 38) d_Mod_plain_37 rfl 2 rfl ?_
  refine g_iconst (pc1 := 39) (v := nI 4) d_Mod_plain_38 rfl (by decide) ?_
  refine g_icmp_ge (pc1 := 42) (tgt := 70) d_Mod_plain_39 (by decide) rfl (fun h => absurd h (by decide)) (fun _ => ?_)
  refine g_aload_n (pc1 := 43) d_Mod_plain_42 rfl 0 rfl ?_
  refine g_getr (pc1 := 46) d_Mod_plain_43 rfl ⟨_, fo_Mod_85⟩ sh_401 (by decide) (rf_401_36 ld) ?_
  refine g_iconst (pc1 := 47) (v := nI 4) d_Mod_plain_46 rfl (by decide) ?_
  refine g_iload_n (pc1 := 48) d_Mod_plain_47 rfl 1 rfl ?_
  refine g_imul (pc1 := 49) d_Mod_plain_48 rfl ?_
  refine Wp.vali (y := nI 0) (by decide) ?_
  refine g_iload_n (pc1 := 50) d_Mod_plain_49 rfl 2 rfl ?_
  refine g_iadd (pc1 := 51) d_Mod_plain_50 rfl ?_
  refine Wp.vali (y := nI 2) (by decide) ?_
  refine g_iconst (pc1 := 52) (v := nI 0) d_Mod_plain_51 rfl (by decide) ?_
  refine g_iast (pc1 := 53) d_Mod_plain_52 rfl sh_424 (by decide) (vp_in_nI (n := 2) (by omega) (by decide)) ?_
  rw [nI_clamp (n := 2) (by omega)]
  refine Wp.topM (fun M52 eM52 => ?_)
  refine g_aload_n (pc1 := 54) d_Mod_plain_53 rfl 0 rfl ?_
  refine g_getr (pc1 := 57) d_Mod_plain_54 rfl ⟨_, fo_Mod_88⟩ sh_401 (by decide) (rf_401_37 ld) ?_
  refine g_iconst (pc1 := 58) (v := nI 4) d_Mod_plain_57 rfl (by decide) ?_
  refine g_iload_n (pc1 := 59) d_Mod_plain_58 rfl 1 rfl ?_
  refine g_imul (pc1 := 60) d_Mod_plain_59 rfl ?_
  refine Wp.vali (y := nI 0) (by decide) ?_
  refine g_iload_n (pc1 := 61) d_Mod_plain_60 rfl 2 rfl ?_
  refine g_iadd (pc1 := 62) d_Mod_plain_61 rfl ?_
  refine Wp.vali (y := nI 2) (by decide) ?_
  refine g_iconst (pc1 := 63) (v := nI 0) d_Mod_plain_62 rfl (by decide) ?_
  refine g_iast (pc1 := 64) d_Mod_plain_63 rfl sh_425 (by decide) (vp_in_nI (n := 2) (by omega) (by decide)) ?_
  rw [nI_clamp (n := 2) (by omega)]
  refine Wp.topM (fun M53 eM53 => ?_)
  refine g_iinc (pc1 := 67) (v := nI 3) (lv' := [(0, .ref 401), (1, .int (nI 0)), (2, .int (nI 3))]) d_Mod_plain_64 rfl 2 rfl (by decide) (by decide) [1, 2, 0] rfl ?_
  refine g_goto (tgt := 37) d_Mod_plain_67 (by decide) ?_
  refine g_iload_n (pc1 := 38) d_Mod_plain_37 rfl 2 rfl ?_
  refine g_iconst (pc1 := 39) (v := nI 4) d_Mod_plain_38 rfl (by decide) ?_
  refine g_icmp_ge (pc1 := 42) (tgt := 70) d_Mod_plain_39 (by decide) rfl (fun h => absurd h (by decide)) (fun _ => ?_)
  refine g_aload_n (pc1 := 43) d_Mod_plain_42 rfl 0 rfl ?_
  refine g_getr (pc1 := 46) d_Mod_plain_43 rfl ⟨_, fo_Mod_85⟩ sh_401 (by decide) (rf_401_36 ld) ?_
  refine g_iconst (pc1 := 47) (v := nI 4) d_Mod_plain_46 rfl (by decide) ?_
  refine g_iload_n (pc1 := 48) d_Mod_plain_47 rfl 1 rfl ?_
  refine g_imul (pc1 := 49) d_Mod_plain_48 rfl ?_
  refine Wp.vali (y := nI 0) (by decide) ?_
  refine g_iload_n (pc1 := 50) d_Mod_plain_49 rfl 2 rfl ?_
  refine g_iadd (pc1 := 51) d_Mod_plain_50 rfl ?_
  refine Wp.vali (y := nI 3) (by decide) ?_
  refine g_iconst (pc1 := 52) (v := nI 0) d_Mod_plain_51 rfl (by decide) ?_
  refine g_iast (pc1 := 53) d_Mod_plain_52 rfl sh_424 (by decide) (vp_in_nI (n := 3) (by omega) (by decide)) ?_
  rw [nI_clamp (n := 3) (by omega)]
  refine Wp.topM (fun M55 eM55 => ?_)
  refine g_aload_n (pc1 := 54) d_Mod_plain_53 rfl 0 rfl ?_
  refine g_getr (pc1 := 57) d_Mod_plain_54 rfl ⟨_, fo_Mod_88⟩ sh_401 (by decide) (rf_401_37 ld) ?_
  refine g_iconst (pc1 := 58) (v := nI 4) d_Mod_plain_57 rfl (by decide) ?_
  refine g_iload_n (pc1 := 59) d_Mod_plain_58 rfl 1 rfl ?_
  refine g_imul (pc1 := 60) d_Mod_plain_59 rfl ?_
  refine Wp.vali (y := nI 0) (by decide) ?_
  refine g_iload_n (pc1 := 61) d_Mod_plain_60 rfl 2 rfl ?_
  refine g_iadd (pc1 := 62) d_Mod_plain_61 rfl ?_
  refine Wp.vali (y := nI 3) (by decide) ?_
  refine g_iconst (pc1 := 63) (v := nI 0) d_Mod_plain_62 rfl (by decide) ?_
  refine g_iast (pc1 := 64) d_Mod_plain_63 rfl sh_425 (by decide) (vp_in_nI (n := 3) (by omega) (by decide)) ?_
  rw [nI_clamp (n := 3) (by omega)]
  refine Wp.topM (fun M56 eM56 => ?_)
  refine g_iinc (pc1 := 67) (v := nI 4) (lv' := [(0, .ref 401), (1, .int (nI 0)), (2, .int (nI 4))]) d_Mod_plain_64 rfl 2 rfl (by decide) (by decide) [1, 2, 0] rfl ?_
  refine g_goto (tgt := 37) d_Mod_plain_67 (by decide) ?_
  refine g_iload_n (pc1 := 38) d_Mod_plain_37 rfl 2 rfl ?_
  refine g_iconst (pc1 := 39) (v := nI 4) d_Mod_plain_38 rfl (by decide) ?_
  refine g_icmp_ge (pc1 := 42) (tgt := 70) d_Mod_plain_39 (by decide) rfl (fun _ => ?_) (fun h => absurd h (by decide))
  refine g_return rfl d_Mod_plain_70 rfl ?_
  rw [eM56, eM55, eM53, eM52, eM50, eM49, eM47, eM46, eM44, eM43, eM42, eM41, eM40]
  exact hQ
set_option maxHeartbeats 4000000 in
set_option maxRecDepth 20000 in
theorem x_Mod_plain_1 {l : Launch} {ld : Nat} {M : gM} {L : gL} {Q : Option Value → gM → gL → gR → Prop}  (hQ : Q none (uM (uM (uM (uM (uM (uM (uM (uM (uM (uM (uM (uM (uM (M) 411 1 (nI 0)) 415 1 (nI 0)) 418 1 (nI 0)) 420 1 (nI 0)) 423 1 (nI 0)) 424 4 (nI 0)) 425 4 (nI 0)) 424 5 (nI 0)) 425 5 (nI 0)) 424 6 (nI 0)) 425 6 (nI 0)) 424 7 (nI 0)) 425 7 (nI 0)) L (rf ld)) : Tm l y_Mod_plain (0, 0, 447) 447 [.ref 401, .int (nI 1)] M L (rf ld) Q := by
  refine Tm.of (by decide) (Nat.le_of_ble_eq_true rfl) ?_
  show Wp l y_Mod_plain (0, 0, 447) 447 0 0 0 [(0, .ref 401), (1, .int (nI 1))] [] M L (rf ld) Q
  refine g_aload_n (pc1 := 1) d_Mod_plain_0 rfl 0 rfl ?_
  refine g_getr (pc1 := 4) d_Mod_plain_1 rfl ⟨_, fo_Mod_46⟩ sh_401 (by decide) (rf_401_23 ld) ?_
  refine g_iload_n (pc1 := 5) d_Mod_plain_4 rfl 1 rfl ?_
  refine g_iconst (pc1 := 6) (v := nI 0) d_Mod_plain_5 rfl (by decide) ?_
  refine g_iast (pc1 := 7) d_Mod_plain_6 rfl sh_411 (by decide) (vp_in_nI (n := 1) (by omega) (by decide)) ?_
  rw [nI_clamp (n := 1) (by omega)]
  refine Wp.topM (fun M58 eM58 => ?_)
  refine g_aload_n (pc1 := 8) d_Mod_plain_7 rfl 0 rfl ?_
  refine g_getr (pc1 := 11) d_Mod_plain_8 rfl ⟨_, fo_Mod_58⟩ sh_401 (by decide) (rf_401_27 ld) ?_
  refine g_iload_n (pc1 := 12) d_Mod_plain_11 rfl 1 rfl ?_
  refine g_iconst (pc1 := 13) (v := nI 0) d_Mod_plain_12 rfl (by decide) ?_
  refine g_iast (pc1 := 14) d_Mod_plain_13 rfl sh_415 (by decide) (vp_in_nI (n := 1) (by omega) (by decide)) ?_
  rw [nI_clamp (n := 1) (by omega)]
  refine Wp.topM (fun M59 eM59 => ?_)
  refine g_aload_n (pc1 := 15) d_Mod_plain_14 rfl 0 rfl ?_
  refine g_getr (pc1 := 18) d_Mod_plain_15 rfl ⟨_, fo_Mod_67⟩ sh_401 (by decide) (rf_401_30 ld) ?_
  refine g_iload_n (pc1 := 19) d_Mod_plain_18 rfl 1 rfl ?_
  refine g_iconst (pc1 := 20) (v := nI 0) d_Mod_plain_19 rfl (by decide) ?_
  refine g_iast (pc1 := 21) d_Mod_plain_20 rfl sh_418 (by decide) (vp_in_nI (n := 1) (by omega) (by decide)) ?_
  rw [nI_clamp (n := 1) (by omega)]
  refine Wp.topM (fun M60 eM60 => ?_)
  refine g_aload_n (pc1 := 22) d_Mod_plain_21 rfl 0 rfl ?_
  refine g_getr (pc1 := 25) d_Mod_plain_22 rfl ⟨_, fo_Mod_73⟩ sh_401 (by decide) (rf_401_32 ld) ?_
  refine g_iload_n (pc1 := 26) d_Mod_plain_25 rfl 1 rfl ?_
  refine g_iconst (pc1 := 27) (v := nI 0) d_Mod_plain_26 rfl (by decide) ?_
  refine g_iast (pc1 := 28) d_Mod_plain_27 rfl sh_420 (by decide) (vp_in_nI (n := 1) (by omega) (by decide)) ?_
  rw [nI_clamp (n := 1) (by omega)]
  refine Wp.topM (fun M61 eM61 => ?_)
  refine g_aload_n (pc1 := 29) d_Mod_plain_28 rfl 0 rfl ?_
  refine g_getr (pc1 := 32) d_Mod_plain_29 rfl ⟨_, fo_Mod_82⟩ sh_401 (by decide) (rf_401_35 ld) ?_
  refine g_iload_n (pc1 := 33) d_Mod_plain_32 rfl 1 rfl ?_
  refine g_iconst (pc1 := 34) (v := nI 0) d_Mod_plain_33 rfl (by decide) ?_
  refine g_iast (pc1 := 35) d_Mod_plain_34 rfl sh_423 (by decide) (vp_in_nI (n := 1) (by omega) (by decide)) ?_
  rw [nI_clamp (n := 1) (by omega)]
  refine Wp.topM (fun M62 eM62 => ?_)
  refine g_iconst (pc1 := 36) (v := nI 0) d_Mod_plain_35 rfl (by decide) ?_
  refine g_istore_n (pc1 := 37) (lv' := [(0, .ref 401), (1, .int (nI 1)), (2, .int (nI 0))]) d_Mod_plain_36 rfl rfl (by decide) [1, 2, 0] rfl ?_
  refine g_iload_n (pc1 := 38) d_Mod_plain_37 rfl 2 rfl ?_
  refine g_iconst (pc1 := 39) (v := nI 4) d_Mod_plain_38 rfl (by decide) ?_
  refine g_icmp_ge (pc1 := 42) (tgt := 70) d_Mod_plain_39 (by decide) rfl (fun h => absurd h (by decide)) (fun _ => ?_)
  refine g_aload_n (pc1 := 43) d_Mod_plain_42 rfl 0 rfl ?_
  refine g_getr (pc1 := 46) d_Mod_plain_43 rfl ⟨_, fo_Mod_85⟩ sh_401 (by decide) (rf_401_36 ld) ?_
  refine g_iconst (pc1 := 47) (v := nI 4) d_Mod_plain_46 rfl (by decide) ?_
  refine g_iload_n (pc1 := 48) d_Mod_plain_47 rfl 1 rfl ?_
  refine g_imul (pc1 := 49) d_Mod_plain_48 rfl ?_
  refine Wp.vali (y := nI 4) (by decide) ?_
  refine g_iload_n (pc1 := 50) d_Mod_plain_49 rfl 2 rfl ?_
  refine g_iadd (pc1 := 51) d_Mod_plain_50 rfl ?_
  refine Wp.vali (y := nI 4) (by decide) ?_
  refine g_iconst (pc1 := 52) (v := nI 0) d_Mod_plain_51 rfl (by decide) ?_
  refine g_iast (pc1 := 53) d_Mod_plain_52 rfl sh_424 (by decide) (vp_in_nI (n := 4) (by omega) (by decide)) ?_
  rw [nI_clamp (n := 4) (by omega)]
  refine Wp.topM (fun M64 eM64 => ?_)
  refine g_aload_n (pc1 := 54) d_Mod_plain_53 rfl 0 rfl ?_
  refine g_getr (pc1 := 57) d_Mod_plain_54 rfl ⟨_, fo_Mod_88⟩ sh_401 (by decide) (rf_401_37 ld) ?_
  refine g_iconst (pc1 := 58) (v := nI 4) d_Mod_plain_57 rfl (by decide) ?_
  refine g_iload_n (pc1 := 59) d_Mod_plain_58 rfl 1 rfl ?_
  refine g_imul (pc1 := 60) d_Mod_plain_59 rfl ?_
  refine Wp.vali (y := nI 4) (by decide) ?_
  refine g_iload_n (pc1 := 61) d_Mod_plain_60 rfl 2 rfl ?_
  refine g_iadd (pc1 := 62) d_Mod_plain_61 rfl ?_
  refine Wp.vali (y := nI 4) (by decide) ?_
  refine g_iconst (pc1 := 63) (v := nI 0) d_Mod_plain_62 rfl (by decide) ?_
  refine g_iast (pc1 := 64) d_Mod_plain_63 rfl sh_425 (by decide) (vp_in_nI (n := 4) (by omega) (by decide)) ?_
  rw [nI_clamp (n := 4) (by omega)]
  refine Wp.topM (fun M65 eM65 => ?_)
  refine g_iinc (pc1 := 67) (v := nI 1) (lv' := [(0, .ref 401), (1, .int (nI 1)), (2, .int (nI 1))]) d_Mod_plain_64 rfl 2 rfl (by decide) (by decide) [1, 2, 0] rfl ?_
  refine g_goto (tgt := 37) d_Mod_plain_67 (by decide) ?_
  refine g_iload_n (pc1 := 38) d_Mod_plain_37 rfl 2 rfl ?_
  refine g_iconst (pc1 := 39) (v := nI 4) d_Mod_plain_38 rfl (by decide) ?_
  refine g_icmp_ge (pc1 := 42) (tgt := 70) d_Mod_plain_39 (by decide) rfl (fun h => absurd h (by decide)) (fun _ => ?_)
  refine g_aload_n (pc1 := 43) d_Mod_plain_42 rfl 0 rfl ?_
  refine g_getr (pc1 := 46) d_Mod_plain_43 rfl ⟨_, fo_Mod_85⟩ sh_401 (by decide) (rf_401_36 ld) ?_
  refine g_iconst (pc1 := 47) (v := nI 4) d_Mod_plain_46 rfl (by decide) ?_
  refine g_iload_n (pc1 := 48) d_Mod_plain_47 rfl 1 rfl ?_
  refine g_imul (pc1 := 49) d_Mod_plain_48 rfl ?_
  refine Wp.vali (y := nI 4) (by decide) ?_
  refine g_iload_n (pc1 := 50) d_Mod_plain_49 rfl 2 rfl ?_
  refine g_iadd (pc1 := 51) d_Mod_plain_50 rfl ?_
  refine Wp.vali (y := nI 5) (by decide) ?_
  refine g_iconst (pc1 := 52) (v := nI 0) d_Mod_plain_51 rfl (by decide) ?_
  refine g_iast (pc1 := 53) d_Mod_plain_52 rfl sh_424 (by decide) (vp_in_nI (n := 5) (by omega) (by decide)) ?_
  rw [nI_clamp (n := 5) (by omega)]
  refine Wp.topM (fun M67 eM67 => ?_)
  refine g_aload_n (pc1 := 54) d_Mod_plain_53 rfl 0 rfl ?_
  refine g_getr (pc1 := 57) d_Mod_plain_54 rfl ⟨_, fo_Mod_88⟩ sh_401 (by decide) (rf_401_37 ld) ?_
  refine g_iconst (pc1 := 58) (v := nI 4) d_Mod_plain_57 rfl (by decide) ?_
  refine g_iload_n (pc1 := 59) d_Mod_plain_58 rfl 1 rfl ?_
  refine g_imul (pc1 := 60) d_Mod_plain_59 rfl ?_
  refine Wp.vali (y := nI 4) (by decide) ?_
  refine g_iload_n (pc1 := 61) d_Mod_plain_60 rfl 2 rfl ?_
  refine g_iadd (pc1 := 62) d_Mod_plain_61 rfl ?_
  refine Wp.vali (y := nI 5) (by decide) ?_
  refine g_iconst (pc1 := 63) (v := nI 0) d_Mod_plain_62 rfl (by decide) ?_
  refine g_iast (pc1 := 64) d_Mod_plain_63 rfl sh_425 (by decide) (vp_in_nI (n := 5) (by omega) (by decide)) ?_
  rw [nI_clamp (n := 5) (by omega)]
  refine Wp.topM (fun M68 eM68 => ?_)
  refine g_iinc (pc1 := 67) (v := nI 2) (lv' := [(0, .ref 401), (1, .int (nI 1)), (2, .int (nI 2))]) d_Mod_plain_64 rfl 2 rfl (by decide) (by decide) [1, 2, 0] rfl ?_
  refine g_goto (tgt := 37) d_Mod_plain_67 (by decide) ?_
  refine g_iload_n (pc1 := 38) d_Mod_plain_37 rfl 2 rfl ?_
  refine g_iconst (pc1 := 39) (v := nI 4) d_Mod_plain_38 rfl (by decide) ?_
  refine g_icmp_ge (pc1 := 42) (tgt := 70) d_Mod_plain_39 (by decide) rfl (fun h => absurd h (by decide)) (fun _ => ?_)
  refine g_aload_n (pc1 := 43) d_Mod_plain_42 rfl 0 rfl ?_
  refine g_getr (pc1 := 46) d_Mod_plain_43 rfl ⟨_, fo_Mod_85⟩ sh_401 (by decide) (rf_401_36 ld) ?_
  refine g_iconst (pc1 := 47) (v := nI 4) d_Mod_plain_46 rfl (by decide) ?_
  refine g_iload_n (pc1 := 48) d_Mod_plain_47 rfl 1 rfl ?_
  refine g_imul (pc1 := 49) d_Mod_plain_48 rfl ?_
  refine Wp.vali (y := nI 4) (by decide) ?_
  refine g_iload_n (pc1 := 50) d_Mod_plain_49 rfl 2 rfl ?_
  refine g_iadd (pc1 := 51) d_Mod_plain_50 rfl ?_
  refine Wp.vali (y := nI 6) (by decide) ?_
  refine g_iconst (pc1 := 52) (v := nI 0) d_Mod_plain_51 rfl (by decide) ?_
  refine g_iast (pc1 := 53) d_Mod_plain_52 rfl sh_424 (by decide) (vp_in_nI (n := 6) (by omega) (by decide)) ?_
  rw [nI_clamp (n := 6) (by omega)]
  refine Wp.topM (fun M70 eM70 => ?_)
  refine g_aload_n (pc1 := 54) d_Mod_plain_53 rfl 0 rfl ?_
  refine g_getr (pc1 := 57) d_Mod_plain_54 rfl ⟨_, fo_Mod_88⟩ sh_401 (by decide) (rf_401_37 ld) ?_
  refine g_iconst (pc1 := 58) (v := nI 4) d_Mod_plain_57 rfl (by decide) ?_
  refine g_iload_n (pc1 := 59) d_Mod_plain_58 rfl 1 rfl ?_
  refine g_imul (pc1 := 60) d_Mod_plain_59 rfl ?_
  refine Wp.vali (y := nI 4) (by decide) ?_
  refine g_iload_n (pc1 := 61) d_Mod_plain_60 rfl 2 rfl ?_
  refine g_iadd (pc1 := 62) d_Mod_plain_61 rfl ?_
  refine Wp.vali (y := nI 6) (by decide) ?_
  refine g_iconst (pc1 := 63) (v := nI 0) d_Mod_plain_62 rfl (by decide) ?_
  refine g_iast (pc1 := 64) d_Mod_plain_63 rfl sh_425 (by decide) (vp_in_nI (n := 6) (by omega) (by decide)) ?_
  rw [nI_clamp (n := 6) (by omega)]
  refine Wp.topM (fun M71 eM71 => ?_)
  refine g_iinc (pc1 := 67) (v := nI 3) (lv' := [(0, .ref 401), (1, .int (nI 1)), (2, .int (nI 3))]) d_Mod_plain_64 rfl 2 rfl (by decide) (by decide) [1, 2, 0] rfl ?_
  refine g_goto (tgt := 37) d_Mod_plain_67 (by decide) ?_
  refine g_iload_n (pc1 := 38) d_Mod_plain_37 rfl 2 rfl ?_
  refine g_iconst (pc1 := 39) (v := nI 4) d_Mod_plain_38 rfl (by decide) ?_
  refine g_icmp_ge (pc1 := 42) (tgt := 70) d_Mod_plain_39 (by decide) rfl (fun h => absurd h (by decide)) (fun _ => ?_)
  refine g_aload_n (pc1 := 43) d_Mod_plain_42 rfl 0 rfl ?_
  refine g_getr (pc1 := 46) d_Mod_plain_43 rfl ⟨_, fo_Mod_85⟩ sh_401 (by decide) (rf_401_36 ld) ?_
  refine g_iconst (pc1 := 47) (v := nI 4) d_Mod_plain_46 rfl (by decide) ?_
  refine g_iload_n (pc1 := 48) d_Mod_plain_47 rfl 1 rfl ?_
  refine g_imul (pc1 := 49) d_Mod_plain_48 rfl ?_
  refine Wp.vali (y := nI 4) (by decide) ?_
  refine g_iload_n (pc1 := 50) d_Mod_plain_49 rfl 2 rfl ?_
  refine g_iadd (pc1 := 51) d_Mod_plain_50 rfl ?_
  refine Wp.vali (y := nI 7) (by decide) ?_
  refine g_iconst (pc1 := 52) (v := nI 0) d_Mod_plain_51 rfl (by decide) ?_
  refine g_iast (pc1 := 53) d_Mod_plain_52 rfl sh_424 (by decide) (vp_in_nI (n := 7) (by omega) (by decide)) ?_
  rw [nI_clamp (n := 7) (by omega)]
  refine Wp.topM (fun M73 eM73 => ?_)
  refine g_aload_n (pc1 := 54) d_Mod_plain_53 rfl 0 rfl ?_
  refine g_getr (pc1 := 57) d_Mod_plain_54 rfl ⟨_, fo_Mod_88⟩ sh_401 (by decide) (rf_401_37 ld) ?_
  refine g_iconst (pc1 := 58) (v := nI 4) d_Mod_plain_57 rfl (by decide) ?_
  refine g_iload_n (pc1 := 59) d_Mod_plain_58 rfl 1 rfl ?_
  refine g_imul (pc1 := 60) d_Mod_plain_59 rfl ?_
  refine Wp.vali (y := nI 4) (by decide) ?_
  refine g_iload_n (pc1 := 61) d_Mod_plain_60 rfl 2 rfl ?_
  refine g_iadd (pc1 := 62) d_Mod_plain_61 rfl ?_
  refine Wp.vali (y := nI 7) (by decide) ?_
  refine g_iconst (pc1 := 63) (v := nI 0) d_Mod_plain_62 rfl (by decide) ?_
  refine g_iast (pc1 := 64) d_Mod_plain_63 rfl sh_425 (by decide) (vp_in_nI (n := 7) (by omega) (by decide)) ?_
  rw [nI_clamp (n := 7) (by omega)]
  refine Wp.topM (fun M74 eM74 => ?_)
  refine g_iinc (pc1 := 67) (v := nI 4) (lv' := [(0, .ref 401), (1, .int (nI 1)), (2, .int (nI 4))]) d_Mod_plain_64 rfl 2 rfl (by decide) (by decide) [1, 2, 0] rfl ?_
  refine g_goto (tgt := 37) d_Mod_plain_67 (by decide) ?_
  refine g_iload_n (pc1 := 38) d_Mod_plain_37 rfl 2 rfl ?_
  refine g_iconst (pc1 := 39) (v := nI 4) d_Mod_plain_38 rfl (by decide) ?_
  refine g_icmp_ge (pc1 := 42) (tgt := 70) d_Mod_plain_39 (by decide) rfl (fun _ => ?_) (fun h => absurd h (by decide))
  refine g_return rfl d_Mod_plain_70 rfl ?_
  rw [eM74, eM73, eM71, eM70, eM68, eM67, eM65, eM64, eM62, eM61, eM60, eM59, eM58]
  exact hQ
set_option maxHeartbeats 4000000 in
set_option maxRecDepth 20000 in
theorem x_Mod_undo {l : Launch} {ld : Nat} {M : gM} {L : gL} {Q : Option Value → gM → gL → gR → Prop} {u : Nat} (hu : M 401 57 = nI u) (hu40 : u ≤ 40) (hQ0 : u = 0 → Q (some (.int 0)) M L (rf ld)) (hQ1 : 0 < u → Q (some (.int 1)) (fl (uM M 401 57 (nI (u - 1))) 436 0 38 (fun k => M 440 (38 * (u - 1) + k))) L (rf ld)) : Tm l y_Mod_undo (0, 0, 447) 447 [.ref 401] M L (rf ld) Q := by
  refine Tm.of (by decide) (Nat.le_of_ble_eq_true rfl) ?_
  show Wp l y_Mod_undo (0, 0, 447) 447 0 0 0 [(0, .ref 401)] [] M L (rf ld) Q
  refine g_aload_n (pc1 := 1) d_Mod_undo_0 rfl 0 rfl ?_
  refine g_geti (pc1 := 4) d_Mod_undo_1 rfl ⟨_, fo_Mod_254⟩ sh_401 (by decide) ?_
  refine Wp.vali (y := nI u) hu ?_
  refine g_if_ne (pc1 := 7) (tgt := 9) d_Mod_undo_4 (by decide) rfl (fun h76 => ?_) (fun h76 => ?_)
  · have nh76 : ¬ (u : Nat) = (0 : Nat) := fun q => h76 ((nI_eq (a := (u : Nat)) (b := (0 : Nat)) (by omega) (by omega)).mpr q)
    refine g_aload_n (pc1 := 10) d_Mod_undo_9 rfl 0 rfl ?_
    refine g_dup (pc1 := 11) d_Mod_undo_10 rfl rfl ?_
    refine g_geti (pc1 := 14) d_Mod_undo_11 rfl ⟨_, fo_Mod_254⟩ sh_401 (by decide) ?_
    refine Wp.vali (y := nI u) hu ?_
    refine g_iconst (pc1 := 15) (v := nI 1) d_Mod_undo_14 rfl (by decide) ?_
    refine g_isub (pc1 := 16) d_Mod_undo_15 rfl ?_
    refine Wp.vali (y := nI (u - 1)) (nI_sub (by omega)) ?_
    refine g_puti (pc1 := 19) d_Mod_undo_16 rfl fo_Mod_254 (po_12_57 _) sh_401 (by decide) ?_
    refine Wp.topM (fun M77 eM77 => ?_)
    refine g_iconst (pc1 := 20) (v := nI 0) d_Mod_undo_19 rfl (by decide) ?_
    refine g_istore_n (pc1 := 21) (lv' := [(0, .ref 401), (1, .int (nI 0))]) d_Mod_undo_20 rfl rfl (by decide) [1, 0] rfl ?_
    have LP81 : ∀ (f78 k79 : Nat), k79 ≤ 38 → 38 - k79 < f78 → Wp l y_Mod_undo (0, 0, 447) 447 0 0 21 [(0, .ref 401), (1, .int (nI k79))] [] (fl M77 436 (0) k79 (fun k => M 440 (38 * (u - 1) + k))) L (rf ld) Q := by
      intro f78
      induction f78 with
      | zero => intro k79 _ hm; exact absurd hm (Nat.not_lt_zero _)
      | succ f78 ih80 =>
        intro k79 hkk79 hmk79
        refine Wp.topM (fun M82 eM82 => ?_)
        refine g_iload_n (pc1 := 22) d_Mod_undo_21 rfl 1 rfl ?_
        refine g_bipush (pc1 := 24) (v := nI 38) d_Mod_undo_22 rfl (by decide) ?_
        refine g_icmp_ge (pc1 := 27) (tgt := 53) d_Mod_undo_24 (by decide) rfl (fun h83 => ?_) (fun h83 => ?_)
        · have nh83 : (38 : Nat) ≤ (k79 : Nat) := (nI_leI (a := (38 : Nat)) (b := (k79 : Nat)) (by omega) (by omega)).mp h83
          have ekk79 : k79 = 38 := by omega
          rw [ekk79] at eM82
          refine g_iconst (pc1 := 54) (v := nI 1) d_Mod_undo_53 rfl (by decide) ?_
          refine g_ireturn (Or.inr ⟨rfl, rfl⟩) d_Mod_undo_54 rfl ?_
          rw [eM82, eM77]
          exact hQ1 (by omega)
        · have nh83 : ¬ (38 : Nat) ≤ (k79 : Nat) := fun q => h83 ((nI_leI (a := (38 : Nat)) (b := (k79 : Nat)) (by omega) (by omega)).mpr q)
          refine g_aload_n (pc1 := 28) d_Mod_undo_27 rfl 0 rfl ?_
          refine g_getr (pc1 := 31) d_Mod_undo_28 rfl ⟨_, fo_Mod_122⟩ sh_401 (by decide) (rf_401_52 ld) ?_
          refine g_iload_n (pc1 := 32) d_Mod_undo_31 rfl 1 rfl ?_
          refine g_aload_n (pc1 := 33) d_Mod_undo_32 rfl 0 rfl ?_
          refine g_getr (pc1 := 36) d_Mod_undo_33 rfl ⟨_, fo_Mod_134⟩ sh_401 (by decide) (rf_401_58 ld) ?_
          refine g_bipush (pc1 := 38) (v := nI 38) d_Mod_undo_36 rfl (by decide) ?_
          refine g_aload_n (pc1 := 39) d_Mod_undo_38 rfl 0 rfl ?_
          refine g_geti (pc1 := 42) d_Mod_undo_39 rfl ⟨_, fo_Mod_254⟩ sh_401 (by decide) ?_
          refine Wp.vali (y := nI (u - 1)) ((flE_ne eM82 (fun q => absurd q.1 (by decide))).trans (rdn_eq eM77 rfl)) ?_
          refine g_imul (pc1 := 43) d_Mod_undo_42 rfl ?_
          refine Wp.vali (y := nI (38 * (u - 1))) (nI_mul _ _) ?_
          refine g_iload_n (pc1 := 44) d_Mod_undo_43 rfl 1 rfl ?_
          refine g_iadd (pc1 := 45) d_Mod_undo_44 rfl ?_
          refine Wp.vali (y := nI ((38 * (u - 1)) + k79)) (nI_add _ _) ?_
          refine g_iald (pc1 := 46) d_Mod_undo_45 rfl sh_440 (by decide) (vp_in_nI (n := (38 * (u - 1)) + k79) (by omega) (by decide)) ?_
          rw [nI_clamp (n := (38 * (u - 1)) + k79) (by omega)]
          refine Wp.vali (y := M 440 ((38 * (u - 1)) + k79)) ((flE_ne eM82 (fun q => absurd q.1 (by decide))).trans (rd_ne eM77 (fun q => absurd q.1 (by decide)))) ?_
          refine g_iast (pc1 := 47) d_Mod_undo_46 rfl sh_436 (by decide) (vp_in_nI (n := k79) (by omega) (by decide)) ?_
          rw [nI_clamp (n := k79) (by omega)]
          refine Wp.topM (fun M84 eM84 => ?_)
          refine g_iinc (pc1 := 50) (v := nI (k79 + 1)) (lv' := [(0, .ref 401), (1, .int (nI (k79 + 1)))]) d_Mod_undo_47 rfl 1 rfl (nI_1 _) (by decide) [1, 0] rfl ?_
          refine g_goto (tgt := 21) d_Mod_undo_50 (by decide) ?_
          refine Wp.eqM (show M84 = fl M77 436 (0) (k79 + 1) (fun k => M 440 (38 * (u - 1) + k)) from by rw [eM84, eM82]; exact fl_s (by omega) rfl) ?_
          exact ih80 (k79 + 1) (by omega) (by omega)
    refine Wp.eqM (fl_0 (a := 436) (o := 0) (v := (fun k => M 440 (38 * (u - 1) + k)))).symm ?_
    exact LP81 _ 0 (by omega) (Nat.lt_succ_self _)
  · have nh76 : (u : Nat) = (0 : Nat) := (nI_eq (a := (u : Nat)) (b := (0 : Nat)) (by omega) (by omega)).mp h76
    refine g_iconst (pc1 := 8) (v := nI 0) d_Mod_undo_7 rfl (by decide) ?_
    refine g_ireturn (Or.inr ⟨rfl, rfl⟩) d_Mod_undo_8 rfl ?_
    exact hQ0 (by omega)
set_option maxHeartbeats 4000000 in
set_option maxRecDepth 20000 in
theorem x_Mod_records {l : Launch} {ld : Nat} {M : gM} {L : gL} {Q : Option Value → gM → gL → gR → Prop} {u : Nat} (hu : M 401 57 = nI u) (hu40 : u ≤ 40) (hQ0 : ¬ u = 40 → Q none (fl (uM (fl (M) 440 (38 * u) 38 (M 436)) 401 57 (nI (u + 1))) 436 0 38 (M 437)) L (rf ld)) (hQ1 : u = 40 → Q none (fl (uM (fl (uM (fl M 440 0 1482 (fun k => M 440 (k + 38))) 401 57 (nI (u - 1))) 440 (38 * (u - 1)) 38 (M 436)) 401 57 (nI ((u - 1) + 1))) 436 0 38 (M 437)) L (rf ld)) : Tm l y_Mod_records (0, 0, 447) 447 [.ref 401] M L (rf ld) Q := by
  refine Tm.of (by decide) (Nat.le_of_ble_eq_true rfl) ?_
  show Wp l y_Mod_records (0, 0, 447) 447 0 0 0 [(0, .ref 401)] [] M L (rf ld) Q
  refine g_aload_n (pc1 := 1) d_Mod_records_0 rfl 0 rfl ?_
  refine g_geti (pc1 := 4) d_Mod_records_1 rfl ⟨_, fo_Mod_254⟩ sh_401 (by decide) ?_
  refine Wp.vali (y := nI u) hu ?_
  refine g_bipush (pc1 := 6) (v := nI 40) d_Mod_records_4 rfl (by decide) ?_
  refine g_icmp_ne (pc1 := 9) (tgt := 49) d_Mod_records_6 (by decide) rfl (fun h85 => ?_) (fun h85 => ?_)
  · have nh85 : ¬ (u : Nat) = (40 : Nat) := fun q => h85 ((nI_eq (a := (u : Nat)) (b := (40 : Nat)) (by omega) (by omega)).mpr q)
    refine g_iconst (pc1 := 50) (v := nI 0) d_Mod_records_49 rfl (by decide) ?_
    refine g_istore_n (pc1 := 51) (lv' := [(0, .ref 401), (1, .int (nI 0))]) d_Mod_records_50 rfl rfl (by decide) [1, 0] rfl ?_
    have LP89 : ∀ (f86 k87 : Nat), k87 ≤ 38 → 38 - k87 < f86 → Wp l y_Mod_records (0, 0, 447) 447 0 0 51 [(0, .ref 401), (1, .int (nI k87))] [] (fl M 440 (38 * u) k87 (M 436)) L (rf ld) Q := by
      intro f86
      induction f86 with
      | zero => intro k87 _ hm; exact absurd hm (Nat.not_lt_zero _)
      | succ f86 ih88 =>
        intro k87 hkk87 hmk87
        refine Wp.topM (fun M90 eM90 => ?_)
        refine g_iload_n (pc1 := 52) d_Mod_records_51 rfl 1 rfl ?_
        refine g_bipush (pc1 := 54) (v := nI 38) d_Mod_records_52 rfl (by decide) ?_
        refine g_icmp_ge (pc1 := 57) (tgt := 83) d_Mod_records_54 (by decide) rfl (fun h91 => ?_) (fun h91 => ?_)
        · have nh91 : (38 : Nat) ≤ (k87 : Nat) := (nI_leI (a := (38 : Nat)) (b := (k87 : Nat)) (by omega) (by omega)).mp h91
          have ekk87 : k87 = 38 := by omega
          rw [ekk87] at eM90
          refine g_aload_n (pc1 := 84) d_Mod_records_83 rfl 0 rfl ?_
          refine g_dup (pc1 := 85) d_Mod_records_84 rfl rfl ?_
          refine g_geti (pc1 := 88) d_Mod_records_85 rfl ⟨_, fo_Mod_254⟩ sh_401 (by decide) ?_
          refine Wp.vali (y := nI u) ((flE_ne eM90 (fun q => absurd q.1 (by decide))).trans hu) ?_
          refine g_iconst (pc1 := 89) (v := nI 1) d_Mod_records_88 rfl (by decide) ?_
          refine g_iadd (pc1 := 90) d_Mod_records_89 rfl ?_
          refine Wp.vali (y := nI (u + 1)) (nI_add _ _) ?_
          refine g_puti (pc1 := 93) d_Mod_records_90 rfl fo_Mod_254 (po_12_57 _) sh_401 (by decide) ?_
          refine Wp.topM (fun M92 eM92 => ?_)
          refine g_aload_n (pc1 := 94) d_Mod_records_93 rfl 0 rfl ?_
          refine g_callV0 (pc1 := 97) (As := []) (rest := []) d_Mod_records_94 rfl mo_Mod_166 mi_Mod_keepsRow mv_Mod_keepsRow rfl sh_401 (by decide) (by decide) rfl rfl (Nat.le_of_ble_eq_true rfl) ?_
          refine x_Mod_keepsRow ?_
          dsimp only [psh]
          refine Wp.topM (fun M93 eM93 => ?_)
          refine g_return rfl d_Mod_records_97 rfl ?_
          rw [eM93, eM92, eM90]
          exact hQ0 (by omega)
        · have nh91 : ¬ (38 : Nat) ≤ (k87 : Nat) := fun q => h91 ((nI_leI (a := (38 : Nat)) (b := (k87 : Nat)) (by omega) (by omega)).mpr q)
          refine g_aload_n (pc1 := 58) d_Mod_records_57 rfl 0 rfl ?_
          refine g_getr (pc1 := 61) d_Mod_records_58 rfl ⟨_, fo_Mod_134⟩ sh_401 (by decide) (rf_401_58 ld) ?_
          refine g_bipush (pc1 := 63) (v := nI 38) d_Mod_records_61 rfl (by decide) ?_
          refine g_aload_n (pc1 := 64) d_Mod_records_63 rfl 0 rfl ?_
          refine g_geti (pc1 := 67) d_Mod_records_64 rfl ⟨_, fo_Mod_254⟩ sh_401 (by decide) ?_
          refine Wp.vali (y := nI u) ((flE_ne eM90 (fun q => absurd q.1 (by decide))).trans hu) ?_
          refine g_imul (pc1 := 68) d_Mod_records_67 rfl ?_
          refine Wp.vali (y := nI (38 * u)) (nI_mul _ _) ?_
          refine g_iload_n (pc1 := 69) d_Mod_records_68 rfl 1 rfl ?_
          refine g_iadd (pc1 := 70) d_Mod_records_69 rfl ?_
          refine Wp.vali (y := nI ((38 * u) + k87)) (nI_add _ _) ?_
          refine g_aload_n (pc1 := 71) d_Mod_records_70 rfl 0 rfl ?_
          refine g_getr (pc1 := 74) d_Mod_records_71 rfl ⟨_, fo_Mod_122⟩ sh_401 (by decide) (rf_401_52 ld) ?_
          refine g_iload_n (pc1 := 75) d_Mod_records_74 rfl 1 rfl ?_
          refine g_iald (pc1 := 76) d_Mod_records_75 rfl sh_436 (by decide) (vp_in_nI (n := k87) (by omega) (by decide)) ?_
          rw [nI_clamp (n := k87) (by omega)]
          refine Wp.vali (y := M 436 k87) (flE_ne eM90 (fun q => absurd q.1 (by decide))) ?_
          refine g_iast (pc1 := 77) d_Mod_records_76 rfl sh_440 (by decide) (vp_in_nI (n := (38 * u) + k87) (by omega) (by decide)) ?_
          rw [nI_clamp (n := (38 * u) + k87) (by omega)]
          refine Wp.topM (fun M94 eM94 => ?_)
          refine g_iinc (pc1 := 80) (v := nI (k87 + 1)) (lv' := [(0, .ref 401), (1, .int (nI (k87 + 1)))]) d_Mod_records_77 rfl 1 rfl (nI_1 _) (by decide) [1, 0] rfl ?_
          refine g_goto (tgt := 51) d_Mod_records_80 (by decide) ?_
          refine Wp.eqM (show M94 = fl M 440 (38 * u) (k87 + 1) (M 436) from by rw [eM94, eM90]; exact fl_s (by omega) rfl) ?_
          exact ih88 (k87 + 1) (by omega) (by omega)
    refine Wp.eqM (fl_0 (a := 440) (o := 38 * u) (v := (M 436))).symm ?_
    exact LP89 _ 0 (by omega) (Nat.lt_succ_self _)
  · have nh85 : (u : Nat) = (40 : Nat) := (nI_eq (a := (u : Nat)) (b := (40 : Nat)) (by omega) (by omega)).mp h85
    refine g_iconst (pc1 := 10) (v := nI 0) d_Mod_records_9 rfl (by decide) ?_
    refine g_istore_n (pc1 := 11) (lv' := [(0, .ref 401), (1, .int (nI 0))]) d_Mod_records_10 rfl rfl (by decide) [1, 0] rfl ?_
    have LP98 : ∀ (f95 k96 : Nat), k96 ≤ 1482 → 1482 - k96 < f95 → Wp l y_Mod_records (0, 0, 447) 447 0 0 11 [(0, .ref 401), (1, .int (nI k96))] [] (fl M 440 (0) k96 (fun k => M 440 (k + 38))) L (rf ld) Q := by
      intro f95
      induction f95 with
      | zero => intro k96 _ hm; exact absurd hm (Nat.not_lt_zero _)
      | succ f95 ih97 =>
        intro k96 hkk96 hmk96
        refine Wp.topM (fun M99 eM99 => ?_)
        refine g_iload_n (pc1 := 12) d_Mod_records_11 rfl 1 rfl ?_
        refine g_sipush (pc1 := 15) (v := nI 1482) d_Mod_records_12 rfl (by decide) ?_
        refine g_icmp_ge (pc1 := 18) (tgt := 39) d_Mod_records_15 (by decide) rfl (fun h100 => ?_) (fun h100 => ?_)
        · have nh100 : (1482 : Nat) ≤ (k96 : Nat) := (nI_leI (a := (1482 : Nat)) (b := (k96 : Nat)) (by omega) (by omega)).mp h100
          have ekk96 : k96 = 1482 := by omega
          rw [ekk96] at eM99
          refine g_aload_n (pc1 := 40) d_Mod_records_39 rfl 0 rfl ?_
          refine g_dup (pc1 := 41) d_Mod_records_40 rfl rfl ?_
          refine g_geti (pc1 := 44) d_Mod_records_41 rfl ⟨_, fo_Mod_254⟩ sh_401 (by decide) ?_
          refine Wp.vali (y := nI u) ((flE_ne eM99 (fun q => absurd q.1 (by decide))).trans hu) ?_
          refine g_iconst (pc1 := 45) (v := nI 1) d_Mod_records_44 rfl (by decide) ?_
          refine g_isub (pc1 := 46) d_Mod_records_45 rfl ?_
          refine Wp.vali (y := nI (u - 1)) (nI_sub (by omega)) ?_
          refine g_puti (pc1 := 49) d_Mod_records_46 rfl fo_Mod_254 (po_12_57 _) sh_401 (by decide) ?_
          refine Wp.topM (fun M101 eM101 => ?_)
          refine g_iconst (pc1 := 50) (v := nI 0) d_Mod_records_49 rfl (by decide) ?_
          refine g_istore_n (pc1 := 51) (lv' := [(0, .ref 401), (1, .int (nI 0))]) d_Mod_records_50 rfl rfl (by decide) [1, 0] rfl ?_
          have LP105 : ∀ (f102 k103 : Nat), k103 ≤ 38 → 38 - k103 < f102 → Wp l y_Mod_records (0, 0, 447) 447 0 0 51 [(0, .ref 401), (1, .int (nI k103))] [] (fl M101 440 (38 * (u - 1)) k103 (M 436)) L (rf ld) Q := by
            intro f102
            induction f102 with
            | zero => intro k103 _ hm; exact absurd hm (Nat.not_lt_zero _)
            | succ f102 ih104 =>
              intro k103 hkk103 hmk103
              refine Wp.topM (fun M106 eM106 => ?_)
              refine g_iload_n (pc1 := 52) d_Mod_records_51 rfl 1 rfl ?_
              refine g_bipush (pc1 := 54) (v := nI 38) d_Mod_records_52 rfl (by decide) ?_
              refine g_icmp_ge (pc1 := 57) (tgt := 83) d_Mod_records_54 (by decide) rfl (fun h107 => ?_) (fun h107 => ?_)
              · have nh107 : (38 : Nat) ≤ (k103 : Nat) := (nI_leI (a := (38 : Nat)) (b := (k103 : Nat)) (by omega) (by omega)).mp h107
                have ekk103 : k103 = 38 := by omega
                rw [ekk103] at eM106
                refine g_aload_n (pc1 := 84) d_Mod_records_83 rfl 0 rfl ?_
                refine g_dup (pc1 := 85) d_Mod_records_84 rfl rfl ?_
                refine g_geti (pc1 := 88) d_Mod_records_85 rfl ⟨_, fo_Mod_254⟩ sh_401 (by decide) ?_
                refine Wp.vali (y := nI (u - 1)) ((flE_ne eM106 (fun q => absurd q.1 (by decide))).trans (rdn_eq eM101 rfl)) ?_
                refine g_iconst (pc1 := 89) (v := nI 1) d_Mod_records_88 rfl (by decide) ?_
                refine g_iadd (pc1 := 90) d_Mod_records_89 rfl ?_
                refine Wp.vali (y := nI ((u - 1) + 1)) (nI_add _ _) ?_
                refine g_puti (pc1 := 93) d_Mod_records_90 rfl fo_Mod_254 (po_12_57 _) sh_401 (by decide) ?_
                refine Wp.topM (fun M108 eM108 => ?_)
                refine g_aload_n (pc1 := 94) d_Mod_records_93 rfl 0 rfl ?_
                refine g_callV0 (pc1 := 97) (As := []) (rest := []) d_Mod_records_94 rfl mo_Mod_166 mi_Mod_keepsRow mv_Mod_keepsRow rfl sh_401 (by decide) (by decide) rfl rfl (Nat.le_of_ble_eq_true rfl) ?_
                refine x_Mod_keepsRow ?_
                dsimp only [psh]
                refine Wp.topM (fun M109 eM109 => ?_)
                refine g_return rfl d_Mod_records_97 rfl ?_
                rw [eM109, eM108, eM106, eM101, eM99]
                exact hQ1 (by omega)
              · have nh107 : ¬ (38 : Nat) ≤ (k103 : Nat) := fun q => h107 ((nI_leI (a := (38 : Nat)) (b := (k103 : Nat)) (by omega) (by omega)).mpr q)
                refine g_aload_n (pc1 := 58) d_Mod_records_57 rfl 0 rfl ?_
                refine g_getr (pc1 := 61) d_Mod_records_58 rfl ⟨_, fo_Mod_134⟩ sh_401 (by decide) (rf_401_58 ld) ?_
                refine g_bipush (pc1 := 63) (v := nI 38) d_Mod_records_61 rfl (by decide) ?_
                refine g_aload_n (pc1 := 64) d_Mod_records_63 rfl 0 rfl ?_
                refine g_geti (pc1 := 67) d_Mod_records_64 rfl ⟨_, fo_Mod_254⟩ sh_401 (by decide) ?_
                refine Wp.vali (y := nI (u - 1)) ((flE_ne eM106 (fun q => absurd q.1 (by decide))).trans (rdn_eq eM101 rfl)) ?_
                refine g_imul (pc1 := 68) d_Mod_records_67 rfl ?_
                refine Wp.vali (y := nI (38 * (u - 1))) (nI_mul _ _) ?_
                refine g_iload_n (pc1 := 69) d_Mod_records_68 rfl 1 rfl ?_
                refine g_iadd (pc1 := 70) d_Mod_records_69 rfl ?_
                refine Wp.vali (y := nI ((38 * (u - 1)) + k103)) (nI_add _ _) ?_
                refine g_aload_n (pc1 := 71) d_Mod_records_70 rfl 0 rfl ?_
                refine g_getr (pc1 := 74) d_Mod_records_71 rfl ⟨_, fo_Mod_122⟩ sh_401 (by decide) (rf_401_52 ld) ?_
                refine g_iload_n (pc1 := 75) d_Mod_records_74 rfl 1 rfl ?_
                refine g_iald (pc1 := 76) d_Mod_records_75 rfl sh_436 (by decide) (vp_in_nI (n := k103) (by omega) (by decide)) ?_
                rw [nI_clamp (n := k103) (by omega)]
                refine Wp.vali (y := M 436 k103) (((flE_ne eM106 (fun q => absurd q.1 (by decide))).trans (rd_ne eM101 (fun q => absurd q.1 (by decide)))).trans (flE_ne eM99 (fun q => absurd q.1 (by decide)))) ?_
                refine g_iast (pc1 := 77) d_Mod_records_76 rfl sh_440 (by decide) (vp_in_nI (n := (38 * (u - 1)) + k103) (by omega) (by decide)) ?_
                rw [nI_clamp (n := (38 * (u - 1)) + k103) (by omega)]
                refine Wp.topM (fun M110 eM110 => ?_)
                refine g_iinc (pc1 := 80) (v := nI (k103 + 1)) (lv' := [(0, .ref 401), (1, .int (nI (k103 + 1)))]) d_Mod_records_77 rfl 1 rfl (nI_1 _) (by decide) [1, 0] rfl ?_
                refine g_goto (tgt := 51) d_Mod_records_80 (by decide) ?_
                refine Wp.eqM (show M110 = fl M101 440 (38 * (u - 1)) (k103 + 1) (M 436) from by rw [eM110, eM106]; exact fl_s (by omega) rfl) ?_
                exact ih104 (k103 + 1) (by omega) (by omega)
          refine Wp.eqM (fl_0 (a := 440) (o := 38 * (u - 1)) (v := (M 436))).symm ?_
          exact LP105 _ 0 (by omega) (Nat.lt_succ_self _)
        · have nh100 : ¬ (1482 : Nat) ≤ (k96 : Nat) := fun q => h100 ((nI_leI (a := (1482 : Nat)) (b := (k96 : Nat)) (by omega) (by omega)).mpr q)
          refine g_aload_n (pc1 := 19) d_Mod_records_18 rfl 0 rfl ?_
          refine g_getr (pc1 := 22) d_Mod_records_19 rfl ⟨_, fo_Mod_134⟩ sh_401 (by decide) (rf_401_58 ld) ?_
          refine g_iload_n (pc1 := 23) d_Mod_records_22 rfl 1 rfl ?_
          refine g_aload_n (pc1 := 24) d_Mod_records_23 rfl 0 rfl ?_
          refine g_getr (pc1 := 27) d_Mod_records_24 rfl ⟨_, fo_Mod_134⟩ sh_401 (by decide) (rf_401_58 ld) ?_
          refine g_iload_n (pc1 := 28) d_Mod_records_27 rfl 1 rfl ?_
          refine g_bipush (pc1 := 30) (v := nI 38) d_Mod_records_28 rfl (by decide) ?_
          refine g_iadd (pc1 := 31) d_Mod_records_30 rfl ?_
          refine Wp.vali (y := nI (k96 + 38)) (nI_add _ _) ?_
          refine g_iald (pc1 := 32) d_Mod_records_31 rfl sh_440 (by decide) (vp_in_nI (n := k96 + 38) (by omega) (by decide)) ?_
          rw [nI_clamp (n := k96 + 38) (by omega)]
          refine Wp.vali (y := M 440 (k96 + 38)) (flE_ne eM99 (fun q => by omega)) ?_
          refine g_iast (pc1 := 33) d_Mod_records_32 rfl sh_440 (by decide) (vp_in_nI (n := k96) (by omega) (by decide)) ?_
          rw [nI_clamp (n := k96) (by omega)]
          refine Wp.topM (fun M111 eM111 => ?_)
          refine g_iinc (pc1 := 36) (v := nI (k96 + 1)) (lv' := [(0, .ref 401), (1, .int (nI (k96 + 1)))]) d_Mod_records_33 rfl 1 rfl (nI_1 _) (by decide) [1, 0] rfl ?_
          refine g_goto (tgt := 11) d_Mod_records_36 (by decide) ?_
          refine Wp.eqM (show M111 = fl M 440 (0) (k96 + 1) (fun k => M 440 (k + 38)) from by rw [eM111, eM99]; exact fl_s (by omega) rfl) ?_
          exact ih97 (k96 + 1) (by omega) (by omega)
    refine Wp.eqM (fl_0 (a := 440) (o := 0) (v := (fun k => M 440 (k + 38)))).symm ?_
    exact LP98 _ 0 (by omega) (Nat.lt_succ_self _)
set_option maxHeartbeats 4000000 in
set_option maxRecDepth 20000 in
theorem x_Mod_forget {l : Launch} {ld : Nat} {M : gM} {L : gL} {Q : Option Value → gM → gL → gR → Prop} {n : Nat} (hn : M 401 64 = nI n) (hQ : Q (some (.int (nI n))) (uM M 401 64 (nI 0)) L (rf ld)) : Tm l y_Mod_forget (0, 0, 447) 447 [.ref 401] M L (rf ld) Q := by
  refine Tm.of (by decide) (Nat.le_of_ble_eq_true rfl) ?_
  show Wp l y_Mod_forget (0, 0, 447) 447 0 0 0 [(0, .ref 401)] [] M L (rf ld) Q
  refine g_aload_n (pc1 := 1) d_Mod_forget_0 rfl 0 rfl ?_
  refine g_geti (pc1 := 4) d_Mod_forget_1 rfl ⟨_, fo_Mod_257⟩ sh_401 (by decide) ?_
  refine Wp.vali (y := nI n) hn ?_
  refine g_istore_n (pc1 := 5) (lv' := [(0, .ref 401), (1, .int (nI n))]) d_Mod_forget_4 rfl rfl (by decide) [1, 0] rfl ?_
  refine g_aload_n (pc1 := 6) d_Mod_forget_5 rfl 0 rfl ?_
  refine g_iconst (pc1 := 7) (v := nI 0) d_Mod_forget_6 rfl (by decide) ?_
  refine g_puti (pc1 := 10) d_Mod_forget_7 rfl fo_Mod_257 (po_12_64 _) sh_401 (by decide) ?_
  refine Wp.topM (fun M112 eM112 => ?_)
  refine g_iload_n (pc1 := 11) d_Mod_forget_10 rfl 1 rfl ?_
  refine g_ireturn (Or.inl rfl) d_Mod_forget_11 rfl ?_
  rw [eM112]
  exact hQ
end MG3x0
section MG3x1
def appI (p : Int64) (c : Int32) : Int64 := if c = 0 then p else 27 * p + (c - nI 97 + nI 1).toInt64
theorem x_Mod_app {l : Launch} {ld : Nat} {M : gM} {L : gL} {Q : Option Value → gM → gL → gR → Prop} {p0 : Int64} {p1 : Int32} (hQ : Q (some (.long (appI p0 p1))) M L (rf ld)) : Tm l y_Mod_appends (0, 0, 447) 447 [.long p0, .int p1] M L (rf ld) Q := by
  refine x_Mod_appends (fun h => ?_) (fun h => ?_)
  · unfold appI at hQ; rw [if_pos h] at hQ; exact hQ
  · unfold appI at hQ; rw [if_neg h] at hQ; exact hQ
set_option maxHeartbeats 4000000 in
set_option maxRecDepth 20000 in
theorem x_Mod_word {l : Launch} {ld : Nat} {M : gM} {L : gL} {Q : Option Value → gM → gL → gR → Prop} {p0 : Int32} {p1 : Int32} {p2 : Int32} {p3 : Int32} {p4 : Int32} {p5 : Int32} {p6 : Int32} (hQ : Q (some (.long (appI (appI (appI (appI (appI (appI (appI 0 p0) p1) p2) p3) p4) p5) p6))) M L (rf ld)) : Tm l y_Mod_word (0, 0, 447) 447 [.int p0, .int p1, .int p2, .int p3, .int p4, .int p5, .int p6] M L (rf ld) Q := by
  refine Tm.of (by decide) (Nat.le_of_ble_eq_true rfl) ?_
  show Wp l y_Mod_word (0, 0, 447) 447 0 0 0 [(0, .int p0), (1, .int p1), (2, .int p2), (3, .int p3), (4, .int p4), (5, .int p5), (6, .int p6)] [] M L (rf ld) Q
  refine g_lconst (pc1 := 1) (v := 0) d_Mod_word_0 rfl (by decide) ?_
  refine g_iload_n (pc1 := 2) d_Mod_word_1 rfl 0 rfl ?_
  refine g_callS0 (pc1 := 5) (As := [.long 0, .int p0]) (rest := []) d_Mod_word_2 rfl mo_Mod_180 ms_Mod_appends (by decide) rfl rfl (Nat.le_of_ble_eq_true rfl) ?_
  refine x_Mod_app ?_
  dsimp only [psh]
  refine g_iload_n (pc1 := 6) d_Mod_word_5 rfl 1 rfl ?_
  refine g_callS0 (pc1 := 9) (As := [.long ((appI 0 p0)), .int p1]) (rest := []) d_Mod_word_6 rfl mo_Mod_180 ms_Mod_appends (by decide) rfl rfl (Nat.le_of_ble_eq_true rfl) ?_
  refine x_Mod_app ?_
  dsimp only [psh]
  refine g_iload_n (pc1 := 10) d_Mod_word_9 rfl 2 rfl ?_
  refine g_callS0 (pc1 := 13) (As := [.long ((appI (appI 0 p0) p1)), .int p2]) (rest := []) d_Mod_word_10 rfl mo_Mod_180 ms_Mod_appends (by decide) rfl rfl (Nat.le_of_ble_eq_true rfl) ?_
  refine x_Mod_app ?_
  dsimp only [psh]
  refine g_iload_n (pc1 := 14) d_Mod_word_13 rfl 3 rfl ?_
  refine g_callS0 (pc1 := 17) (As := [.long ((appI (appI (appI 0 p0) p1) p2)), .int p3]) (rest := []) d_Mod_word_14 rfl mo_Mod_180 ms_Mod_appends (by decide) rfl rfl (Nat.le_of_ble_eq_true rfl) ?_
  refine x_Mod_app ?_
  dsimp only [psh]
  refine g_iload (pc1 := 19) d_Mod_word_17 rfl 4 rfl ?_
  refine g_callS0 (pc1 := 22) (As := [.long ((appI (appI (appI (appI 0 p0) p1) p2) p3)), .int p4]) (rest := []) d_Mod_word_19 rfl mo_Mod_180 ms_Mod_appends (by decide) rfl rfl (Nat.le_of_ble_eq_true rfl) ?_
  refine x_Mod_app ?_
  dsimp only [psh]
  refine g_iload (pc1 := 24) d_Mod_word_22 rfl 5 rfl ?_
  refine g_callS0 (pc1 := 27) (As := [.long ((appI (appI (appI (appI (appI 0 p0) p1) p2) p3) p4)), .int p5]) (rest := []) d_Mod_word_24 rfl mo_Mod_180 ms_Mod_appends (by decide) rfl rfl (Nat.le_of_ble_eq_true rfl) ?_
  refine x_Mod_app ?_
  dsimp only [psh]
  refine g_iload (pc1 := 29) d_Mod_word_27 rfl 6 rfl ?_
  refine g_callS0 (pc1 := 32) (As := [.long ((appI (appI (appI (appI (appI (appI 0 p0) p1) p2) p3) p4) p5)), .int p6]) (rest := []) d_Mod_word_29 rfl mo_Mod_180 ms_Mod_appends (by decide) rfl rfl (Nat.le_of_ble_eq_true rfl) ?_
  refine x_Mod_app ?_
  dsimp only [psh]
  refine g_lreturn rfl d_Mod_word_32 rfl ?_
  exact hQ
def kR_Mod_init (R : gR) : gR := (uR (uR (uR (uR (uR (uR (uR (uR (uR (uR (uR (uR (uR (uR (uR (uR (uR (uR (uR (uR (uR (uR (uR (uR (uR (uR (uR (uR (uR (uR (uR (uR (uR (uR (uR (uR (uR (uR (uR (uR (uR (uR (uR (uR (uR R 401 1 (some 402)) 401 3 (some 403)) 401 5 (some 404)) 401 6 (some 405)) 401 7 (some 406)) 401 8 (some 407)) 401 9 (some 408)) 401 21 (some 409)) 401 22 (some 410)) 401 23 (some 411)) 401 24 (some 412)) 401 25 (some 413)) 401 26 (some 414)) 401 27 (some 415)) 401 28 (some 416)) 401 29 (some 417)) 401 30 (some 418)) 401 31 (some 419)) 401 32 (some 420)) 401 33 (some 421)) 401 34 (some 422)) 401 35 (some 423)) 401 36 (some 424)) 401 37 (some 425)) 401 39 (some 426)) 401 40 (some 427)) 401 41 (some 428)) 401 42 (some 429)) 401 43 (some 430)) 401 45 (some 431)) 401 46 (some 432)) 401 47 (some 433)) 401 49 (some 434)) 401 50 (some 435)) 401 52 (some 436)) 401 53 (some 437)) 401 55 (some 438)) 401 56 (some 439)) 401 58 (some 440)) 401 65 (some 441)) 401 66 (some 442)) 401 67 (some 443)) 401 68 (some 444)) 401 69 (some 445)) 401 70 (some 446))
def sameR (n : Nat) (R R' : gR) : Prop := ∀ a, a < n → (∀ ci, SH a = (0, ci) → ∀ q ∈ fks ci, q.1 ≠ 0 → q.1 ≠ 2 → R a q.2 = R' a q.2) ∧ ((SH a).1 = 5 → ∀ j, R a j = R' a j)
def shR : List (Nat × Nat) := shl.filter (fun q => !(decide (q.1 ≤ 5)))
theorem shl_5 : ∀ q ∈ shl, q.1 ≤ 5 := by decide +kernel
theorem sameR.wd {n : Nat} {R R' : gR} (h : sameR n R R') (hn : n ≤ 447) (cA : Nat → ClassId) (b : Nat) (M : gM) (L : gL) : Wd cA b n M L R = Wd cA b n M L R' := by
  unfold Wd
  apply List.map_congr_left
  intro a ha
  have ha : a < n := List.mem_range.mp ha
  have h1 := h a ha
  have hs : (SH a).1 ≤ 5 := by
    unfold SH
    have hl : a < shl.length := Nat.lt_of_lt_of_le (Nat.lt_of_lt_of_le ha hn) (by decide +kernel)
    rw [List.getD_eq_getElem?_getD, List.getElem?_eq_getElem hl]
    exact shl_5 _ (List.getElem_mem hl)
  congr 1
  rcases e : SH a with ⟨k, m⟩
  rw [e] at h1 hs
  match k, h1, hs, e with
  | 0, h1, _, e =>
    rw [ent_obj e, ent_obj e]
    congr 2
    apply List.map_congr_left
    intro q hq
    unfold fvl
    have g := h1.1 m rfl q hq
    split
    · rfl
    · rfl
    · rw [g (by assumption) (by assumption)]
  | 1, _, _, e => rw [ent_1 e, ent_1 e]
  | 2, _, _, e => rw [ent_2 e, ent_2 e]
  | 3, _, _, e => rw [ent_3 e, ent_3 e]
  | 4, _, _, e => rw [ent_4 e, ent_4 e]
  | 5, h1, _, e => rw [ent_5 e, ent_5 e]; simp only [h1.2 rfl]
  | k + 6, _, hs, _ => exact absurd hs (by simp)
theorem Wp.eqR {l : Launch} {Y : gY} {E : Nat × Nat × Nat} {n k z pc : Nat} {lv : List (Nat × Value)} {st : List Value} {M : gM} {L : gL} {R R' : gR} {Q : Option Value → gM → gL → gR → Prop} (h : sameR n R R') (hn : n ≤ 447) (kk : Wp l Y E n k z pc lv st M L R' Q) : Wp l Y E n k z pc lv st M L R Q := by
  intro b D cA p e s m args below meth c H locs ls C hz hP hS hl
  rw [h.wd hn] at hP
  exact kk b D cA p e s m args below meth c H locs ls C hz hP hS hl
def kM_Mod_pl (M : gM) : gM := (uM (uM (uM (uM (uM (uM (uM (uM (uM (uM (uM (uM (uM (uM M 401 17 (-1)) 411 0 (nI 0)) 415 0 (nI 0)) 418 0 (nI 0)) 420 0 (nI 0)) 423 0 (nI 0)) 424 0 (nI 0)) 425 0 (nI 0)) 424 1 (nI 0)) 425 1 (nI 0)) 424 2 (nI 0)) 425 2 (nI 0)) 424 3 (nI 0)) 425 3 (nI 0))
def kM_Mod_bg (M : gM) : gM := uM (fl (uM (fl (fl M 437 0 38 (fun _ => nI 0)) 437 0 0 (fun f => M 412 (6 * 0 + f))) 437 11 (-2)) 437 15 4 (fun _ => (-2))) 401 54 (M 423 0)
def kM_Mod_init (M : gM) : gM := fl (kM_Mod_bg (kM_Mod_pl M)) 436 0 38 (kM_Mod_bg (kM_Mod_pl M) 437)
def kL_Mod_init (L : gL) : gL := (uL (uL (uL (uL (uL (uL (uL (uL (uL (uL (uL (uL (uL (uL (uL (uL (uL (uL (uL (uL (uL L 408 0 129442) 408 1 85814) 408 2 4137608) 408 3 82516) 408 4 3497099) 408 5 1250362) 408 6 3374884) 408 7 10340587) 408 8 377761) 408 9 249) 408 10 399641) 408 11 107681) 408 12 14431) 408 13 161156) 408 14 223456) 408 15 257011) 408 16 2968) 408 17 230351423) 408 18 933) 408 19 10502066) 408 20 8863997)
set_option maxHeartbeats 4000000 in
set_option maxRecDepth 20000 in
theorem x_Mod_init {l : Launch} {M : gM} {L : gL} {R : gR} {Q : Option Value → gM → gL → gR → Prop} (hF : Fz 401 M L R) (hR : sameR 447 (kR_Mod_init R) (rf 12)) (hQ : Q none (kM_Mod_init M) (kL_Mod_init L) (rf 12)) : Tm l y_Mod_init (45, 14101, 447) 402 [.ref 401] M L R Q := by
  refine Tm.of (by decide) (Nat.le_of_ble_eq_true rfl) ?_
  show Wp l y_Mod_init (45, 14101, 447) 402 0 0 0 [(0, .ref 401)] [] M L R Q
  have hF0 := hF
  replace hF := Fz.up hF
  refine g_aload_n (pc1 := 1) d_Mod_init_0 rfl 0 rfl ?_
  refine g_objInit (pc1 := 4) d_Mod_init_1 rfl ml_Mod_7 mi_objectInit mc_objectInit (by decide) (Nat.le_of_ble_eq_true rfl) ?_
  refine g_aload_n (pc1 := 5) d_Mod_init_4 rfl 0 rfl ?_
  refine g_sipush (pc1 := 8) (v := 2000) d_Mod_init_5 rfl (by decide) ?_
  refine g_newB (pc1 := 10) d_Mod_init_8 rfl ca_byte sh_402 (fun i => (hF _ (Nat.le_refl _) i).1) (by decide) (by decide) (by decide) (Nat.le_of_ble_eq_true rfl) (Nat.le_of_ble_eq_true rfl) ?_
  refine g_putF (pc1 := 13) (v := .ref 402) (M' := M) (R' := uR R 401 1 (some 402)) d_Mod_init_10 rfl rfl ff_Mod_13 (fun _ => po_12_1 _) sh_401 (by decide) (fun _ => fvl_R_self) (fun _ q h => fvl_R_ne q h) (fun _ _ _ h => ent_neR h) ?_
  refine Wp.topR (fun R113 eR113 => ?_)
  refine g_aload_n (pc1 := 14) d_Mod_init_13 rfl 0 rfl ?_
  refine g_sipush (pc1 := 17) (v := 2000) d_Mod_init_14 rfl (by decide) ?_
  refine g_newB (pc1 := 19) d_Mod_init_17 rfl ca_byte sh_403 (fun i => ((Fz.wR (Fz.up hF) (by decide) eR113) _ (Nat.le_refl _) i).1) (by decide) (by decide) (by decide) (Nat.le_of_ble_eq_true rfl) (Nat.le_of_ble_eq_true rfl) ?_
  refine g_putF (pc1 := 22) (v := .ref 403) (M' := M) (R' := uR R113 401 3 (some 403)) d_Mod_init_19 rfl rfl ff_Mod_17 (fun _ => po_12_3 _) sh_401 (by decide) (fun _ => fvl_R_self) (fun _ q h => fvl_R_ne q h) (fun _ _ _ h => ent_neR h) ?_
  refine Wp.topR (fun R114 eR114 => ?_)
  refine g_aload_n (pc1 := 23) d_Mod_init_22 rfl 0 rfl ?_
  refine g_sipush (pc1 := 26) (v := 403) d_Mod_init_23 rfl (by decide) ?_
  refine g_newI (pc1 := 28) d_Mod_init_26 rfl ca_int sh_404 (fun i => ((Fz.wR (Fz.up (Fz.wR (Fz.up hF) (by decide) eR113)) (by decide) eR114) _ (Nat.le_refl _) i).1) (by decide) (by decide) (by decide) (Nat.le_of_ble_eq_true rfl) (Nat.le_of_ble_eq_true rfl) ?_
  refine g_putF (pc1 := 31) (v := .ref 404) (M' := M) (R' := uR R114 401 5 (some 404)) d_Mod_init_28 rfl rfl ff_Mod_20 (fun _ => po_12_5 _) sh_401 (by decide) (fun _ => fvl_R_self) (fun _ q h => fvl_R_ne q h) (fun _ _ _ h => ent_neR h) ?_
  refine Wp.topR (fun R115 eR115 => ?_)
  refine g_aload_n (pc1 := 32) d_Mod_init_31 rfl 0 rfl ?_
  refine g_sipush (pc1 := 35) (v := 403) d_Mod_init_32 rfl (by decide) ?_
  refine g_newI (pc1 := 37) d_Mod_init_35 rfl ca_int sh_405 (fun i => ((Fz.wR (Fz.up (Fz.wR (Fz.up (Fz.wR (Fz.up hF) (by decide) eR113)) (by decide) eR114)) (by decide) eR115) _ (Nat.le_refl _) i).1) (by decide) (by decide) (by decide) (Nat.le_of_ble_eq_true rfl) (Nat.le_of_ble_eq_true rfl) ?_
  refine g_putF (pc1 := 40) (v := .ref 405) (M' := M) (R' := uR R115 401 6 (some 405)) d_Mod_init_37 rfl rfl ff_Mod_24 (fun _ => po_12_6 _) sh_401 (by decide) (fun _ => fvl_R_self) (fun _ q h => fvl_R_ne q h) (fun _ _ _ h => ent_neR h) ?_
  refine Wp.topR (fun R116 eR116 => ?_)
  refine g_aload_n (pc1 := 41) d_Mod_init_40 rfl 0 rfl ?_
  refine g_sipush (pc1 := 44) (v := 403) d_Mod_init_41 rfl (by decide) ?_
  refine g_newI (pc1 := 46) d_Mod_init_44 rfl ca_int sh_406 (fun i => ((Fz.wR (Fz.up (Fz.wR (Fz.up (Fz.wR (Fz.up (Fz.wR (Fz.up hF) (by decide) eR113)) (by decide) eR114)) (by decide) eR115)) (by decide) eR116) _ (Nat.le_refl _) i).1) (by decide) (by decide) (by decide) (Nat.le_of_ble_eq_true rfl) (Nat.le_of_ble_eq_true rfl) ?_
  refine g_putF (pc1 := 49) (v := .ref 406) (M' := M) (R' := uR R116 401 7 (some 406)) d_Mod_init_46 rfl rfl ff_Mod_27 (fun _ => po_12_7 _) sh_401 (by decide) (fun _ => fvl_R_self) (fun _ q h => fvl_R_ne q h) (fun _ _ _ h => ent_neR h) ?_
  refine Wp.topR (fun R117 eR117 => ?_)
  refine g_aload_n (pc1 := 50) d_Mod_init_49 rfl 0 rfl ?_
  refine g_sipush (pc1 := 53) (v := 403) d_Mod_init_50 rfl (by decide) ?_
  refine g_newJ (pc1 := 55) d_Mod_init_53 rfl ca_long sh_407 (fun i => ((Fz.wR (Fz.up (Fz.wR (Fz.up (Fz.wR (Fz.up (Fz.wR (Fz.up (Fz.wR (Fz.up hF) (by decide) eR113)) (by decide) eR114)) (by decide) eR115)) (by decide) eR116)) (by decide) eR117) _ (Nat.le_refl _) i).2.1) (by decide) (by decide) (by decide) (Nat.le_of_ble_eq_true rfl) (Nat.le_of_ble_eq_true rfl) ?_
  refine g_putF (pc1 := 58) (v := .ref 407) (M' := M) (R' := uR R117 401 8 (some 407)) d_Mod_init_55 rfl rfl ff_Mod_30 (fun _ => po_12_8 _) sh_401 (by decide) (fun _ => fvl_R_self) (fun _ q h => fvl_R_ne q h) (fun _ _ _ h => ent_neR h) ?_
  refine Wp.topR (fun R118 eR118 => ?_)
  refine g_aload_n (pc1 := 59) d_Mod_init_58 rfl 0 rfl ?_
  refine g_bipush (pc1 := 61) (v := 21) d_Mod_init_59 rfl (by decide) ?_
  refine g_newJ (pc1 := 63) d_Mod_init_61 rfl ca_long sh_408 (fun i => ((Fz.wR (Fz.up (Fz.wR (Fz.up (Fz.wR (Fz.up (Fz.wR (Fz.up (Fz.wR (Fz.up (Fz.wR (Fz.up hF) (by decide) eR113)) (by decide) eR114)) (by decide) eR115)) (by decide) eR116)) (by decide) eR117)) (by decide) eR118) _ (Nat.le_refl _) i).2.1) (by decide) (by decide) (by decide) (Nat.le_of_ble_eq_true rfl) (Nat.le_of_ble_eq_true rfl) ?_
  refine g_putF (pc1 := 66) (v := .ref 408) (M' := M) (R' := uR R118 401 9 (some 408)) d_Mod_init_63 rfl rfl ff_Mod_34 (fun _ => po_12_9 _) sh_401 (by decide) (fun _ => fvl_R_self) (fun _ q h => fvl_R_ne q h) (fun _ _ _ h => ent_neR h) ?_
  refine Wp.topR (fun R119 eR119 => ?_)
  refine g_aload_n (pc1 := 67) d_Mod_init_66 rfl 0 rfl ?_
  refine g_iconst (pc1 := 68) (v := (-1)) d_Mod_init_67 rfl (by decide) ?_
  refine g_puti (pc1 := 71) d_Mod_init_68 rfl fo_Mod_37 (po_12_17 _) sh_401 (by decide) ?_
  refine Wp.topM (fun M120 eM120 => ?_)
  refine g_aload_n (pc1 := 72) d_Mod_init_71 rfl 0 rfl ?_
  refine g_bipush (pc1 := 74) (v := 21) d_Mod_init_72 rfl (by decide) ?_
  refine g_newJ (pc1 := 76) d_Mod_init_74 rfl ca_long sh_409 (fun i => ((Fz.wM (Fz.wR (Fz.up (Fz.wR (Fz.up (Fz.wR (Fz.up (Fz.wR (Fz.up (Fz.wR (Fz.up (Fz.wR (Fz.up (Fz.wR (Fz.up hF) (by decide) eR113)) (by decide) eR114)) (by decide) eR115)) (by decide) eR116)) (by decide) eR117)) (by decide) eR118)) (by decide) eR119) (by decide) eM120) _ (Nat.le_refl _) i).2.1) (by decide) (by decide) (by decide) (Nat.le_of_ble_eq_true rfl) (Nat.le_of_ble_eq_true rfl) ?_
  refine g_putF (pc1 := 79) (v := .ref 409) (M' := M120) (R' := uR R119 401 21 (some 409)) d_Mod_init_76 rfl rfl ff_Mod_40 (fun _ => po_12_21 _) sh_401 (by decide) (fun _ => fvl_R_self) (fun _ q h => fvl_R_ne q h) (fun _ _ _ h => ent_neR h) ?_
  refine Wp.topR (fun R121 eR121 => ?_)
  refine g_aload_n (pc1 := 80) d_Mod_init_79 rfl 0 rfl ?_
  refine g_bipush (pc1 := 82) (v := 21) d_Mod_init_80 rfl (by decide) ?_
  refine g_newI (pc1 := 84) d_Mod_init_82 rfl ca_int sh_410 (fun i => ((Fz.wR (Fz.up (Fz.wM (Fz.wR (Fz.up (Fz.wR (Fz.up (Fz.wR (Fz.up (Fz.wR (Fz.up (Fz.wR (Fz.up (Fz.wR (Fz.up (Fz.wR (Fz.up hF) (by decide) eR113)) (by decide) eR114)) (by decide) eR115)) (by decide) eR116)) (by decide) eR117)) (by decide) eR118)) (by decide) eR119) (by decide) eM120)) (by decide) eR121) _ (Nat.le_refl _) i).1) (by decide) (by decide) (by decide) (Nat.le_of_ble_eq_true rfl) (Nat.le_of_ble_eq_true rfl) ?_
  refine g_putF (pc1 := 87) (v := .ref 410) (M' := M120) (R' := uR R121 401 22 (some 410)) d_Mod_init_84 rfl rfl ff_Mod_43 (fun _ => po_12_22 _) sh_401 (by decide) (fun _ => fvl_R_self) (fun _ q h => fvl_R_ne q h) (fun _ _ _ h => ent_neR h) ?_
  refine Wp.topR (fun R122 eR122 => ?_)
  refine g_aload_n (pc1 := 88) d_Mod_init_87 rfl 0 rfl ?_
  refine g_iconst (pc1 := 89) (v := 2) d_Mod_init_88 rfl (by decide) ?_
  refine g_newI (pc1 := 91) d_Mod_init_89 rfl ca_int sh_411 (fun i => ((Fz.wR (Fz.up (Fz.wR (Fz.up (Fz.wM (Fz.wR (Fz.up (Fz.wR (Fz.up (Fz.wR (Fz.up (Fz.wR (Fz.up (Fz.wR (Fz.up (Fz.wR (Fz.up (Fz.wR (Fz.up hF) (by decide) eR113)) (by decide) eR114)) (by decide) eR115)) (by decide) eR116)) (by decide) eR117)) (by decide) eR118)) (by decide) eR119) (by decide) eM120)) (by decide) eR121)) (by decide) eR122) _ (Nat.le_refl _) i).1) (by decide) (by decide) (by decide) (Nat.le_of_ble_eq_true rfl) (Nat.le_of_ble_eq_true rfl) ?_
  refine g_putF (pc1 := 94) (v := .ref 411) (M' := M120) (R' := uR R122 401 23 (some 411)) d_Mod_init_91 rfl rfl ff_Mod_46 (fun _ => po_12_23 _) sh_401 (by decide) (fun _ => fvl_R_self) (fun _ q h => fvl_R_ne q h) (fun _ _ _ h => ent_neR h) ?_
  refine Wp.topR (fun R123 eR123 => ?_)
  refine g_aload_n (pc1 := 95) d_Mod_init_94 rfl 0 rfl ?_
  refine g_bipush (pc1 := 97) (v := 12) d_Mod_init_95 rfl (by decide) ?_
  refine g_newI (pc1 := 99) d_Mod_init_97 rfl ca_int sh_412 (fun i => ((Fz.wR (Fz.up (Fz.wR (Fz.up (Fz.wR (Fz.up (Fz.wM (Fz.wR (Fz.up (Fz.wR (Fz.up (Fz.wR (Fz.up (Fz.wR (Fz.up (Fz.wR (Fz.up (Fz.wR (Fz.up (Fz.wR (Fz.up hF) (by decide) eR113)) (by decide) eR114)) (by decide) eR115)) (by decide) eR116)) (by decide) eR117)) (by decide) eR118)) (by decide) eR119) (by decide) eM120)) (by decide) eR121)) (by decide) eR122)) (by decide) eR123) _ (Nat.le_refl _) i).1) (by decide) (by decide) (by decide) (Nat.le_of_ble_eq_true rfl) (Nat.le_of_ble_eq_true rfl) ?_
  refine g_putF (pc1 := 102) (v := .ref 412) (M' := M120) (R' := uR R123 401 24 (some 412)) d_Mod_init_99 rfl rfl ff_Mod_49 (fun _ => po_12_24 _) sh_401 (by decide) (fun _ => fvl_R_self) (fun _ q h => fvl_R_ne q h) (fun _ _ _ h => ent_neR h) ?_
  refine Wp.topR (fun R124 eR124 => ?_)
  refine g_aload_n (pc1 := 103) d_Mod_init_102 rfl 0 rfl ?_
  refine g_bipush (pc1 := 105) (v := 12) d_Mod_init_103 rfl (by decide) ?_
  refine g_newI (pc1 := 107) d_Mod_init_105 rfl ca_int sh_413 (fun i => ((Fz.wR (Fz.up (Fz.wR (Fz.up (Fz.wR (Fz.up (Fz.wR (Fz.up (Fz.wM (Fz.wR (Fz.up (Fz.wR (Fz.up (Fz.wR (Fz.up (Fz.wR (Fz.up (Fz.wR (Fz.up (Fz.wR (Fz.up (Fz.wR (Fz.up hF) (by decide) eR113)) (by decide) eR114)) (by decide) eR115)) (by decide) eR116)) (by decide) eR117)) (by decide) eR118)) (by decide) eR119) (by decide) eM120)) (by decide) eR121)) (by decide) eR122)) (by decide) eR123)) (by decide) eR124) _ (Nat.le_refl _) i).1) (by decide) (by decide) (by decide) (Nat.le_of_ble_eq_true rfl) (Nat.le_of_ble_eq_true rfl) ?_
  refine g_putF (pc1 := 110) (v := .ref 413) (M' := M120) (R' := uR R124 401 25 (some 413)) d_Mod_init_107 rfl rfl ff_Mod_52 (fun _ => po_12_25 _) sh_401 (by decide) (fun _ => fvl_R_self) (fun _ q h => fvl_R_ne q h) (fun _ _ _ h => ent_neR h) ?_
  refine Wp.topR (fun R125 eR125 => ?_)
  refine g_aload_n (pc1 := 111) d_Mod_init_110 rfl 0 rfl ?_
  refine g_bipush (pc1 := 113) (v := 36) d_Mod_init_111 rfl (by decide) ?_
  refine g_newI (pc1 := 115) d_Mod_init_113 rfl ca_int sh_414 (fun i => ((Fz.wR (Fz.up (Fz.wR (Fz.up (Fz.wR (Fz.up (Fz.wR (Fz.up (Fz.wR (Fz.up (Fz.wM (Fz.wR (Fz.up (Fz.wR (Fz.up (Fz.wR (Fz.up (Fz.wR (Fz.up (Fz.wR (Fz.up (Fz.wR (Fz.up (Fz.wR (Fz.up hF) (by decide) eR113)) (by decide) eR114)) (by decide) eR115)) (by decide) eR116)) (by decide) eR117)) (by decide) eR118)) (by decide) eR119) (by decide) eM120)) (by decide) eR121)) (by decide) eR122)) (by decide) eR123)) (by decide) eR124)) (by decide) eR125) _ (Nat.le_refl _) i).1) (by decide) (by decide) (by decide) (Nat.le_of_ble_eq_true rfl) (Nat.le_of_ble_eq_true rfl) ?_
  refine g_putF (pc1 := 118) (v := .ref 414) (M' := M120) (R' := uR R125 401 26 (some 414)) d_Mod_init_115 rfl rfl ff_Mod_55 (fun _ => po_12_26 _) sh_401 (by decide) (fun _ => fvl_R_self) (fun _ q h => fvl_R_ne q h) (fun _ _ _ h => ent_neR h) ?_
  refine Wp.topR (fun R126 eR126 => ?_)
  refine g_aload_n (pc1 := 119) d_Mod_init_118 rfl 0 rfl ?_
  refine g_iconst (pc1 := 120) (v := 2) d_Mod_init_119 rfl (by decide) ?_
  refine g_newI (pc1 := 122) d_Mod_init_120 rfl ca_int sh_415 (fun i => ((Fz.wR (Fz.up (Fz.wR (Fz.up (Fz.wR (Fz.up (Fz.wR (Fz.up (Fz.wR (Fz.up (Fz.wR (Fz.up (Fz.wM (Fz.wR (Fz.up (Fz.wR (Fz.up (Fz.wR (Fz.up (Fz.wR (Fz.up (Fz.wR (Fz.up (Fz.wR (Fz.up (Fz.wR (Fz.up hF) (by decide) eR113)) (by decide) eR114)) (by decide) eR115)) (by decide) eR116)) (by decide) eR117)) (by decide) eR118)) (by decide) eR119) (by decide) eM120)) (by decide) eR121)) (by decide) eR122)) (by decide) eR123)) (by decide) eR124)) (by decide) eR125)) (by decide) eR126) _ (Nat.le_refl _) i).1) (by decide) (by decide) (by decide) (Nat.le_of_ble_eq_true rfl) (Nat.le_of_ble_eq_true rfl) ?_
  refine g_putF (pc1 := 125) (v := .ref 415) (M' := M120) (R' := uR R126 401 27 (some 415)) d_Mod_init_122 rfl rfl ff_Mod_58 (fun _ => po_12_27 _) sh_401 (by decide) (fun _ => fvl_R_self) (fun _ q h => fvl_R_ne q h) (fun _ _ _ h => ent_neR h) ?_
  refine Wp.topR (fun R127 eR127 => ?_)
  refine g_aload_n (pc1 := 126) d_Mod_init_125 rfl 0 rfl ?_
  refine g_bipush (pc1 := 128) (v := 10) d_Mod_init_126 rfl (by decide) ?_
  refine g_newI (pc1 := 130) d_Mod_init_128 rfl ca_int sh_416 (fun i => ((Fz.wR (Fz.up (Fz.wR (Fz.up (Fz.wR (Fz.up (Fz.wR (Fz.up (Fz.wR (Fz.up (Fz.wR (Fz.up (Fz.wR (Fz.up (Fz.wM (Fz.wR (Fz.up (Fz.wR (Fz.up (Fz.wR (Fz.up (Fz.wR (Fz.up (Fz.wR (Fz.up (Fz.wR (Fz.up (Fz.wR (Fz.up hF) (by decide) eR113)) (by decide) eR114)) (by decide) eR115)) (by decide) eR116)) (by decide) eR117)) (by decide) eR118)) (by decide) eR119) (by decide) eM120)) (by decide) eR121)) (by decide) eR122)) (by decide) eR123)) (by decide) eR124)) (by decide) eR125)) (by decide) eR126)) (by decide) eR127) _ (Nat.le_refl _) i).1) (by decide) (by decide) (by decide) (Nat.le_of_ble_eq_true rfl) (Nat.le_of_ble_eq_true rfl) ?_
  refine g_putF (pc1 := 133) (v := .ref 416) (M' := M120) (R' := uR R127 401 28 (some 416)) d_Mod_init_130 rfl rfl ff_Mod_61 (fun _ => po_12_28 _) sh_401 (by decide) (fun _ => fvl_R_self) (fun _ q h => fvl_R_ne q h) (fun _ _ _ h => ent_neR h) ?_
  refine Wp.topR (fun R128 eR128 => ?_)
  refine g_aload_n (pc1 := 134) d_Mod_init_133 rfl 0 rfl ?_
  refine g_bipush (pc1 := 136) (v := 60) d_Mod_init_134 rfl (by decide) ?_
  refine g_newI (pc1 := 138) d_Mod_init_136 rfl ca_int sh_417 (fun i => ((Fz.wR (Fz.up (Fz.wR (Fz.up (Fz.wR (Fz.up (Fz.wR (Fz.up (Fz.wR (Fz.up (Fz.wR (Fz.up (Fz.wR (Fz.up (Fz.wR (Fz.up (Fz.wM (Fz.wR (Fz.up (Fz.wR (Fz.up (Fz.wR (Fz.up (Fz.wR (Fz.up (Fz.wR (Fz.up (Fz.wR (Fz.up (Fz.wR (Fz.up hF) (by decide) eR113)) (by decide) eR114)) (by decide) eR115)) (by decide) eR116)) (by decide) eR117)) (by decide) eR118)) (by decide) eR119) (by decide) eM120)) (by decide) eR121)) (by decide) eR122)) (by decide) eR123)) (by decide) eR124)) (by decide) eR125)) (by decide) eR126)) (by decide) eR127)) (by decide) eR128) _ (Nat.le_refl _) i).1) (by decide) (by decide) (by decide) (Nat.le_of_ble_eq_true rfl) (Nat.le_of_ble_eq_true rfl) ?_
  refine g_putF (pc1 := 141) (v := .ref 417) (M' := M120) (R' := uR R128 401 29 (some 417)) d_Mod_init_138 rfl rfl ff_Mod_64 (fun _ => po_12_29 _) sh_401 (by decide) (fun _ => fvl_R_self) (fun _ q h => fvl_R_ne q h) (fun _ _ _ h => ent_neR h) ?_
  refine Wp.topR (fun R129 eR129 => ?_)
  refine g_aload_n (pc1 := 142) d_Mod_init_141 rfl 0 rfl ?_
  refine g_iconst (pc1 := 143) (v := 2) d_Mod_init_142 rfl (by decide) ?_
  refine g_newI (pc1 := 145) d_Mod_init_143 rfl ca_int sh_418 (fun i => ((Fz.wR (Fz.up (Fz.wR (Fz.up (Fz.wR (Fz.up (Fz.wR (Fz.up (Fz.wR (Fz.up (Fz.wR (Fz.up (Fz.wR (Fz.up (Fz.wR (Fz.up (Fz.wR (Fz.up (Fz.wM (Fz.wR (Fz.up (Fz.wR (Fz.up (Fz.wR (Fz.up (Fz.wR (Fz.up (Fz.wR (Fz.up (Fz.wR (Fz.up (Fz.wR (Fz.up hF) (by decide) eR113)) (by decide) eR114)) (by decide) eR115)) (by decide) eR116)) (by decide) eR117)) (by decide) eR118)) (by decide) eR119) (by decide) eM120)) (by decide) eR121)) (by decide) eR122)) (by decide) eR123)) (by decide) eR124)) (by decide) eR125)) (by decide) eR126)) (by decide) eR127)) (by decide) eR128)) (by decide) eR129) _ (Nat.le_refl _) i).1) (by decide) (by decide) (by decide) (Nat.le_of_ble_eq_true rfl) (Nat.le_of_ble_eq_true rfl) ?_
  refine g_putF (pc1 := 148) (v := .ref 418) (M' := M120) (R' := uR R129 401 30 (some 418)) d_Mod_init_145 rfl rfl ff_Mod_67 (fun _ => po_12_30 _) sh_401 (by decide) (fun _ => fvl_R_self) (fun _ q h => fvl_R_ne q h) (fun _ _ _ h => ent_neR h) ?_
  refine Wp.topR (fun R130 eR130 => ?_)
  refine g_aload_n (pc1 := 149) d_Mod_init_148 rfl 0 rfl ?_
  refine g_bipush (pc1 := 151) (v := 8) d_Mod_init_149 rfl (by decide) ?_
  refine g_newI (pc1 := 153) d_Mod_init_151 rfl ca_int sh_419 (fun i => ((Fz.wR (Fz.up (Fz.wR (Fz.up (Fz.wR (Fz.up (Fz.wR (Fz.up (Fz.wR (Fz.up (Fz.wR (Fz.up (Fz.wR (Fz.up (Fz.wR (Fz.up (Fz.wR (Fz.up (Fz.wR (Fz.up (Fz.wM (Fz.wR (Fz.up (Fz.wR (Fz.up (Fz.wR (Fz.up (Fz.wR (Fz.up (Fz.wR (Fz.up (Fz.wR (Fz.up (Fz.wR (Fz.up hF) (by decide) eR113)) (by decide) eR114)) (by decide) eR115)) (by decide) eR116)) (by decide) eR117)) (by decide) eR118)) (by decide) eR119) (by decide) eM120)) (by decide) eR121)) (by decide) eR122)) (by decide) eR123)) (by decide) eR124)) (by decide) eR125)) (by decide) eR126)) (by decide) eR127)) (by decide) eR128)) (by decide) eR129)) (by decide) eR130) _ (Nat.le_refl _) i).1) (by decide) (by decide) (by decide) (Nat.le_of_ble_eq_true rfl) (Nat.le_of_ble_eq_true rfl) ?_
  refine g_putF (pc1 := 156) (v := .ref 419) (M' := M120) (R' := uR R130 401 31 (some 419)) d_Mod_init_153 rfl rfl ff_Mod_70 (fun _ => po_12_31 _) sh_401 (by decide) (fun _ => fvl_R_self) (fun _ q h => fvl_R_ne q h) (fun _ _ _ h => ent_neR h) ?_
  refine Wp.topR (fun R131 eR131 => ?_)
  refine g_aload_n (pc1 := 157) d_Mod_init_156 rfl 0 rfl ?_
  refine g_iconst (pc1 := 158) (v := 2) d_Mod_init_157 rfl (by decide) ?_
  refine g_newI (pc1 := 160) d_Mod_init_158 rfl ca_int sh_420 (fun i => ((Fz.wR (Fz.up (Fz.wR (Fz.up (Fz.wR (Fz.up (Fz.wR (Fz.up (Fz.wR (Fz.up (Fz.wR (Fz.up (Fz.wR (Fz.up (Fz.wR (Fz.up (Fz.wR (Fz.up (Fz.wR (Fz.up (Fz.wR (Fz.up (Fz.wM (Fz.wR (Fz.up (Fz.wR (Fz.up (Fz.wR (Fz.up (Fz.wR (Fz.up (Fz.wR (Fz.up (Fz.wR (Fz.up (Fz.wR (Fz.up hF) (by decide) eR113)) (by decide) eR114)) (by decide) eR115)) (by decide) eR116)) (by decide) eR117)) (by decide) eR118)) (by decide) eR119) (by decide) eM120)) (by decide) eR121)) (by decide) eR122)) (by decide) eR123)) (by decide) eR124)) (by decide) eR125)) (by decide) eR126)) (by decide) eR127)) (by decide) eR128)) (by decide) eR129)) (by decide) eR130)) (by decide) eR131) _ (Nat.le_refl _) i).1) (by decide) (by decide) (by decide) (Nat.le_of_ble_eq_true rfl) (Nat.le_of_ble_eq_true rfl) ?_
  refine g_putF (pc1 := 163) (v := .ref 420) (M' := M120) (R' := uR R131 401 32 (some 420)) d_Mod_init_160 rfl rfl ff_Mod_73 (fun _ => po_12_32 _) sh_401 (by decide) (fun _ => fvl_R_self) (fun _ q h => fvl_R_ne q h) (fun _ _ _ h => ent_neR h) ?_
  refine Wp.topR (fun R132 eR132 => ?_)
  refine g_aload_n (pc1 := 164) d_Mod_init_163 rfl 0 rfl ?_
  refine g_bipush (pc1 := 166) (v := 12) d_Mod_init_164 rfl (by decide) ?_
  refine g_newI (pc1 := 168) d_Mod_init_166 rfl ca_int sh_421 (fun i => ((Fz.wR (Fz.up (Fz.wR (Fz.up (Fz.wR (Fz.up (Fz.wR (Fz.up (Fz.wR (Fz.up (Fz.wR (Fz.up (Fz.wR (Fz.up (Fz.wR (Fz.up (Fz.wR (Fz.up (Fz.wR (Fz.up (Fz.wR (Fz.up (Fz.wR (Fz.up (Fz.wM (Fz.wR (Fz.up (Fz.wR (Fz.up (Fz.wR (Fz.up (Fz.wR (Fz.up (Fz.wR (Fz.up (Fz.wR (Fz.up (Fz.wR (Fz.up hF) (by decide) eR113)) (by decide) eR114)) (by decide) eR115)) (by decide) eR116)) (by decide) eR117)) (by decide) eR118)) (by decide) eR119) (by decide) eM120)) (by decide) eR121)) (by decide) eR122)) (by decide) eR123)) (by decide) eR124)) (by decide) eR125)) (by decide) eR126)) (by decide) eR127)) (by decide) eR128)) (by decide) eR129)) (by decide) eR130)) (by decide) eR131)) (by decide) eR132) _ (Nat.le_refl _) i).1) (by decide) (by decide) (by decide) (Nat.le_of_ble_eq_true rfl) (Nat.le_of_ble_eq_true rfl) ?_
  refine g_putF (pc1 := 171) (v := .ref 421) (M' := M120) (R' := uR R132 401 33 (some 421)) d_Mod_init_168 rfl rfl ff_Mod_76 (fun _ => po_12_33 _) sh_401 (by decide) (fun _ => fvl_R_self) (fun _ q h => fvl_R_ne q h) (fun _ _ _ h => ent_neR h) ?_
  refine Wp.topR (fun R133 eR133 => ?_)
  refine g_aload_n (pc1 := 172) d_Mod_init_171 rfl 0 rfl ?_
  refine g_bipush (pc1 := 174) (v := 12) d_Mod_init_172 rfl (by decide) ?_
  refine g_newI (pc1 := 176) d_Mod_init_174 rfl ca_int sh_422 (fun i => ((Fz.wR (Fz.up (Fz.wR (Fz.up (Fz.wR (Fz.up (Fz.wR (Fz.up (Fz.wR (Fz.up (Fz.wR (Fz.up (Fz.wR (Fz.up (Fz.wR (Fz.up (Fz.wR (Fz.up (Fz.wR (Fz.up (Fz.wR (Fz.up (Fz.wR (Fz.up (Fz.wR (Fz.up (Fz.wM (Fz.wR (Fz.up (Fz.wR (Fz.up (Fz.wR (Fz.up (Fz.wR (Fz.up (Fz.wR (Fz.up (Fz.wR (Fz.up (Fz.wR (Fz.up hF) (by decide) eR113)) (by decide) eR114)) (by decide) eR115)) (by decide) eR116)) (by decide) eR117)) (by decide) eR118)) (by decide) eR119) (by decide) eM120)) (by decide) eR121)) (by decide) eR122)) (by decide) eR123)) (by decide) eR124)) (by decide) eR125)) (by decide) eR126)) (by decide) eR127)) (by decide) eR128)) (by decide) eR129)) (by decide) eR130)) (by decide) eR131)) (by decide) eR132)) (by decide) eR133) _ (Nat.le_refl _) i).1) (by decide) (by decide) (by decide) (Nat.le_of_ble_eq_true rfl) (Nat.le_of_ble_eq_true rfl) ?_
  refine g_putF (pc1 := 179) (v := .ref 422) (M' := M120) (R' := uR R133 401 34 (some 422)) d_Mod_init_176 rfl rfl ff_Mod_79 (fun _ => po_12_34 _) sh_401 (by decide) (fun _ => fvl_R_self) (fun _ q h => fvl_R_ne q h) (fun _ _ _ h => ent_neR h) ?_
  refine Wp.topR (fun R134 eR134 => ?_)
  refine g_aload_n (pc1 := 180) d_Mod_init_179 rfl 0 rfl ?_
  refine g_iconst (pc1 := 181) (v := 2) d_Mod_init_180 rfl (by decide) ?_
  refine g_newI (pc1 := 183) d_Mod_init_181 rfl ca_int sh_423 (fun i => ((Fz.wR (Fz.up (Fz.wR (Fz.up (Fz.wR (Fz.up (Fz.wR (Fz.up (Fz.wR (Fz.up (Fz.wR (Fz.up (Fz.wR (Fz.up (Fz.wR (Fz.up (Fz.wR (Fz.up (Fz.wR (Fz.up (Fz.wR (Fz.up (Fz.wR (Fz.up (Fz.wR (Fz.up (Fz.wR (Fz.up (Fz.wM (Fz.wR (Fz.up (Fz.wR (Fz.up (Fz.wR (Fz.up (Fz.wR (Fz.up (Fz.wR (Fz.up (Fz.wR (Fz.up (Fz.wR (Fz.up hF) (by decide) eR113)) (by decide) eR114)) (by decide) eR115)) (by decide) eR116)) (by decide) eR117)) (by decide) eR118)) (by decide) eR119) (by decide) eM120)) (by decide) eR121)) (by decide) eR122)) (by decide) eR123)) (by decide) eR124)) (by decide) eR125)) (by decide) eR126)) (by decide) eR127)) (by decide) eR128)) (by decide) eR129)) (by decide) eR130)) (by decide) eR131)) (by decide) eR132)) (by decide) eR133)) (by decide) eR134) _ (Nat.le_refl _) i).1) (by decide) (by decide) (by decide) (Nat.le_of_ble_eq_true rfl) (Nat.le_of_ble_eq_true rfl) ?_
  refine g_putF (pc1 := 186) (v := .ref 423) (M' := M120) (R' := uR R134 401 35 (some 423)) d_Mod_init_183 rfl rfl ff_Mod_82 (fun _ => po_12_35 _) sh_401 (by decide) (fun _ => fvl_R_self) (fun _ q h => fvl_R_ne q h) (fun _ _ _ h => ent_neR h) ?_
  refine Wp.topR (fun R135 eR135 => ?_)
  refine g_aload_n (pc1 := 187) d_Mod_init_186 rfl 0 rfl ?_
  refine g_bipush (pc1 := 189) (v := 8) d_Mod_init_187 rfl (by decide) ?_
  refine g_newI (pc1 := 191) d_Mod_init_189 rfl ca_int sh_424 (fun i => ((Fz.wR (Fz.up (Fz.wR (Fz.up (Fz.wR (Fz.up (Fz.wR (Fz.up (Fz.wR (Fz.up (Fz.wR (Fz.up (Fz.wR (Fz.up (Fz.wR (Fz.up (Fz.wR (Fz.up (Fz.wR (Fz.up (Fz.wR (Fz.up (Fz.wR (Fz.up (Fz.wR (Fz.up (Fz.wR (Fz.up (Fz.wR (Fz.up (Fz.wM (Fz.wR (Fz.up (Fz.wR (Fz.up (Fz.wR (Fz.up (Fz.wR (Fz.up (Fz.wR (Fz.up (Fz.wR (Fz.up (Fz.wR (Fz.up hF) (by decide) eR113)) (by decide) eR114)) (by decide) eR115)) (by decide) eR116)) (by decide) eR117)) (by decide) eR118)) (by decide) eR119) (by decide) eM120)) (by decide) eR121)) (by decide) eR122)) (by decide) eR123)) (by decide) eR124)) (by decide) eR125)) (by decide) eR126)) (by decide) eR127)) (by decide) eR128)) (by decide) eR129)) (by decide) eR130)) (by decide) eR131)) (by decide) eR132)) (by decide) eR133)) (by decide) eR134)) (by decide) eR135) _ (Nat.le_refl _) i).1) (by decide) (by decide) (by decide) (Nat.le_of_ble_eq_true rfl) (Nat.le_of_ble_eq_true rfl) ?_
  refine g_putF (pc1 := 194) (v := .ref 424) (M' := M120) (R' := uR R135 401 36 (some 424)) d_Mod_init_191 rfl rfl ff_Mod_85 (fun _ => po_12_36 _) sh_401 (by decide) (fun _ => fvl_R_self) (fun _ q h => fvl_R_ne q h) (fun _ _ _ h => ent_neR h) ?_
  refine Wp.topR (fun R136 eR136 => ?_)
  refine g_aload_n (pc1 := 195) d_Mod_init_194 rfl 0 rfl ?_
  refine g_bipush (pc1 := 197) (v := 8) d_Mod_init_195 rfl (by decide) ?_
  refine g_newI (pc1 := 199) d_Mod_init_197 rfl ca_int sh_425 (fun i => ((Fz.wR (Fz.up (Fz.wR (Fz.up (Fz.wR (Fz.up (Fz.wR (Fz.up (Fz.wR (Fz.up (Fz.wR (Fz.up (Fz.wR (Fz.up (Fz.wR (Fz.up (Fz.wR (Fz.up (Fz.wR (Fz.up (Fz.wR (Fz.up (Fz.wR (Fz.up (Fz.wR (Fz.up (Fz.wR (Fz.up (Fz.wR (Fz.up (Fz.wR (Fz.up (Fz.wM (Fz.wR (Fz.up (Fz.wR (Fz.up (Fz.wR (Fz.up (Fz.wR (Fz.up (Fz.wR (Fz.up (Fz.wR (Fz.up (Fz.wR (Fz.up hF) (by decide) eR113)) (by decide) eR114)) (by decide) eR115)) (by decide) eR116)) (by decide) eR117)) (by decide) eR118)) (by decide) eR119) (by decide) eM120)) (by decide) eR121)) (by decide) eR122)) (by decide) eR123)) (by decide) eR124)) (by decide) eR125)) (by decide) eR126)) (by decide) eR127)) (by decide) eR128)) (by decide) eR129)) (by decide) eR130)) (by decide) eR131)) (by decide) eR132)) (by decide) eR133)) (by decide) eR134)) (by decide) eR135)) (by decide) eR136) _ (Nat.le_refl _) i).1) (by decide) (by decide) (by decide) (Nat.le_of_ble_eq_true rfl) (Nat.le_of_ble_eq_true rfl) ?_
  refine g_putF (pc1 := 202) (v := .ref 425) (M' := M120) (R' := uR R136 401 37 (some 425)) d_Mod_init_199 rfl rfl ff_Mod_88 (fun _ => po_12_37 _) sh_401 (by decide) (fun _ => fvl_R_self) (fun _ q h => fvl_R_ne q h) (fun _ _ _ h => ent_neR h) ?_
  refine Wp.topR (fun R137 eR137 => ?_)
  refine g_aload_n (pc1 := 203) d_Mod_init_202 rfl 0 rfl ?_
  refine g_sipush (pc1 := 206) (v := 260) d_Mod_init_203 rfl (by decide) ?_
  refine g_newZ (pc1 := 208) d_Mod_init_206 rfl ca_boolean sh_426 (fun i => ((Fz.wR (Fz.up (Fz.wR (Fz.up (Fz.wR (Fz.up (Fz.wR (Fz.up (Fz.wR (Fz.up (Fz.wR (Fz.up (Fz.wR (Fz.up (Fz.wR (Fz.up (Fz.wR (Fz.up (Fz.wR (Fz.up (Fz.wR (Fz.up (Fz.wR (Fz.up (Fz.wR (Fz.up (Fz.wR (Fz.up (Fz.wR (Fz.up (Fz.wR (Fz.up (Fz.wR (Fz.up (Fz.wM (Fz.wR (Fz.up (Fz.wR (Fz.up (Fz.wR (Fz.up (Fz.wR (Fz.up (Fz.wR (Fz.up (Fz.wR (Fz.up (Fz.wR (Fz.up hF) (by decide) eR113)) (by decide) eR114)) (by decide) eR115)) (by decide) eR116)) (by decide) eR117)) (by decide) eR118)) (by decide) eR119) (by decide) eM120)) (by decide) eR121)) (by decide) eR122)) (by decide) eR123)) (by decide) eR124)) (by decide) eR125)) (by decide) eR126)) (by decide) eR127)) (by decide) eR128)) (by decide) eR129)) (by decide) eR130)) (by decide) eR131)) (by decide) eR132)) (by decide) eR133)) (by decide) eR134)) (by decide) eR135)) (by decide) eR136)) (by decide) eR137) _ (Nat.le_refl _) i).1) (by decide) (by decide) (by decide) (Nat.le_of_ble_eq_true rfl) (Nat.le_of_ble_eq_true rfl) ?_
  refine g_putF (pc1 := 211) (v := .ref 426) (M' := M120) (R' := uR R137 401 39 (some 426)) d_Mod_init_208 rfl rfl ff_Mod_91 (fun _ => po_12_39 _) sh_401 (by decide) (fun _ => fvl_R_self) (fun _ q h => fvl_R_ne q h) (fun _ _ _ h => ent_neR h) ?_
  refine Wp.topR (fun R138 eR138 => ?_)
  refine g_aload_n (pc1 := 212) d_Mod_init_211 rfl 0 rfl ?_
  refine g_sipush (pc1 := 215) (v := 260) d_Mod_init_212 rfl (by decide) ?_
  refine g_newI (pc1 := 217) d_Mod_init_215 rfl ca_int sh_427 (fun i => ((Fz.wR (Fz.up (Fz.wR (Fz.up (Fz.wR (Fz.up (Fz.wR (Fz.up (Fz.wR (Fz.up (Fz.wR (Fz.up (Fz.wR (Fz.up (Fz.wR (Fz.up (Fz.wR (Fz.up (Fz.wR (Fz.up (Fz.wR (Fz.up (Fz.wR (Fz.up (Fz.wR (Fz.up (Fz.wR (Fz.up (Fz.wR (Fz.up (Fz.wR (Fz.up (Fz.wR (Fz.up (Fz.wR (Fz.up (Fz.wM (Fz.wR (Fz.up (Fz.wR (Fz.up (Fz.wR (Fz.up (Fz.wR (Fz.up (Fz.wR (Fz.up (Fz.wR (Fz.up (Fz.wR (Fz.up hF) (by decide) eR113)) (by decide) eR114)) (by decide) eR115)) (by decide) eR116)) (by decide) eR117)) (by decide) eR118)) (by decide) eR119) (by decide) eM120)) (by decide) eR121)) (by decide) eR122)) (by decide) eR123)) (by decide) eR124)) (by decide) eR125)) (by decide) eR126)) (by decide) eR127)) (by decide) eR128)) (by decide) eR129)) (by decide) eR130)) (by decide) eR131)) (by decide) eR132)) (by decide) eR133)) (by decide) eR134)) (by decide) eR135)) (by decide) eR136)) (by decide) eR137)) (by decide) eR138) _ (Nat.le_refl _) i).1) (by decide) (by decide) (by decide) (Nat.le_of_ble_eq_true rfl) (Nat.le_of_ble_eq_true rfl) ?_
  refine g_putF (pc1 := 220) (v := .ref 427) (M' := M120) (R' := uR R138 401 40 (some 427)) d_Mod_init_217 rfl rfl ff_Mod_95 (fun _ => po_12_40 _) sh_401 (by decide) (fun _ => fvl_R_self) (fun _ q h => fvl_R_ne q h) (fun _ _ _ h => ent_neR h) ?_
  refine Wp.topR (fun R139 eR139 => ?_)
  refine g_aload_n (pc1 := 221) d_Mod_init_220 rfl 0 rfl ?_
  refine g_sipush (pc1 := 224) (v := 260) d_Mod_init_221 rfl (by decide) ?_
  refine g_newI (pc1 := 226) d_Mod_init_224 rfl ca_int sh_428 (fun i => ((Fz.wR (Fz.up (Fz.wR (Fz.up (Fz.wR (Fz.up (Fz.wR (Fz.up (Fz.wR (Fz.up (Fz.wR (Fz.up (Fz.wR (Fz.up (Fz.wR (Fz.up (Fz.wR (Fz.up (Fz.wR (Fz.up (Fz.wR (Fz.up (Fz.wR (Fz.up (Fz.wR (Fz.up (Fz.wR (Fz.up (Fz.wR (Fz.up (Fz.wR (Fz.up (Fz.wR (Fz.up (Fz.wR (Fz.up (Fz.wR (Fz.up (Fz.wM (Fz.wR (Fz.up (Fz.wR (Fz.up (Fz.wR (Fz.up (Fz.wR (Fz.up (Fz.wR (Fz.up (Fz.wR (Fz.up (Fz.wR (Fz.up hF) (by decide) eR113)) (by decide) eR114)) (by decide) eR115)) (by decide) eR116)) (by decide) eR117)) (by decide) eR118)) (by decide) eR119) (by decide) eM120)) (by decide) eR121)) (by decide) eR122)) (by decide) eR123)) (by decide) eR124)) (by decide) eR125)) (by decide) eR126)) (by decide) eR127)) (by decide) eR128)) (by decide) eR129)) (by decide) eR130)) (by decide) eR131)) (by decide) eR132)) (by decide) eR133)) (by decide) eR134)) (by decide) eR135)) (by decide) eR136)) (by decide) eR137)) (by decide) eR138)) (by decide) eR139) _ (Nat.le_refl _) i).1) (by decide) (by decide) (by decide) (Nat.le_of_ble_eq_true rfl) (Nat.le_of_ble_eq_true rfl) ?_
  refine g_putF (pc1 := 229) (v := .ref 428) (M' := M120) (R' := uR R139 401 41 (some 428)) d_Mod_init_226 rfl rfl ff_Mod_98 (fun _ => po_12_41 _) sh_401 (by decide) (fun _ => fvl_R_self) (fun _ q h => fvl_R_ne q h) (fun _ _ _ h => ent_neR h) ?_
  refine Wp.topR (fun R140 eR140 => ?_)
  refine g_aload_n (pc1 := 230) d_Mod_init_229 rfl 0 rfl ?_
  refine g_sipush (pc1 := 233) (v := 260) d_Mod_init_230 rfl (by decide) ?_
  refine g_newI (pc1 := 235) d_Mod_init_233 rfl ca_int sh_429 (fun i => ((Fz.wR (Fz.up (Fz.wR (Fz.up (Fz.wR (Fz.up (Fz.wR (Fz.up (Fz.wR (Fz.up (Fz.wR (Fz.up (Fz.wR (Fz.up (Fz.wR (Fz.up (Fz.wR (Fz.up (Fz.wR (Fz.up (Fz.wR (Fz.up (Fz.wR (Fz.up (Fz.wR (Fz.up (Fz.wR (Fz.up (Fz.wR (Fz.up (Fz.wR (Fz.up (Fz.wR (Fz.up (Fz.wR (Fz.up (Fz.wR (Fz.up (Fz.wR (Fz.up (Fz.wM (Fz.wR (Fz.up (Fz.wR (Fz.up (Fz.wR (Fz.up (Fz.wR (Fz.up (Fz.wR (Fz.up (Fz.wR (Fz.up (Fz.wR (Fz.up hF) (by decide) eR113)) (by decide) eR114)) (by decide) eR115)) (by decide) eR116)) (by decide) eR117)) (by decide) eR118)) (by decide) eR119) (by decide) eM120)) (by decide) eR121)) (by decide) eR122)) (by decide) eR123)) (by decide) eR124)) (by decide) eR125)) (by decide) eR126)) (by decide) eR127)) (by decide) eR128)) (by decide) eR129)) (by decide) eR130)) (by decide) eR131)) (by decide) eR132)) (by decide) eR133)) (by decide) eR134)) (by decide) eR135)) (by decide) eR136)) (by decide) eR137)) (by decide) eR138)) (by decide) eR139)) (by decide) eR140) _ (Nat.le_refl _) i).1) (by decide) (by decide) (by decide) (Nat.le_of_ble_eq_true rfl) (Nat.le_of_ble_eq_true rfl) ?_
  refine g_putF (pc1 := 238) (v := .ref 429) (M' := M120) (R' := uR R140 401 42 (some 429)) d_Mod_init_235 rfl rfl ff_Mod_101 (fun _ => po_12_42 _) sh_401 (by decide) (fun _ => fvl_R_self) (fun _ q h => fvl_R_ne q h) (fun _ _ _ h => ent_neR h) ?_
  refine Wp.topR (fun R141 eR141 => ?_)
  refine g_aload_n (pc1 := 239) d_Mod_init_238 rfl 0 rfl ?_
  refine g_sipush (pc1 := 242) (v := 260) d_Mod_init_239 rfl (by decide) ?_
  refine g_newI (pc1 := 244) d_Mod_init_242 rfl ca_int sh_430 (fun i => ((Fz.wR (Fz.up (Fz.wR (Fz.up (Fz.wR (Fz.up (Fz.wR (Fz.up (Fz.wR (Fz.up (Fz.wR (Fz.up (Fz.wR (Fz.up (Fz.wR (Fz.up (Fz.wR (Fz.up (Fz.wR (Fz.up (Fz.wR (Fz.up (Fz.wR (Fz.up (Fz.wR (Fz.up (Fz.wR (Fz.up (Fz.wR (Fz.up (Fz.wR (Fz.up (Fz.wR (Fz.up (Fz.wR (Fz.up (Fz.wR (Fz.up (Fz.wR (Fz.up (Fz.wR (Fz.up (Fz.wM (Fz.wR (Fz.up (Fz.wR (Fz.up (Fz.wR (Fz.up (Fz.wR (Fz.up (Fz.wR (Fz.up (Fz.wR (Fz.up (Fz.wR (Fz.up hF) (by decide) eR113)) (by decide) eR114)) (by decide) eR115)) (by decide) eR116)) (by decide) eR117)) (by decide) eR118)) (by decide) eR119) (by decide) eM120)) (by decide) eR121)) (by decide) eR122)) (by decide) eR123)) (by decide) eR124)) (by decide) eR125)) (by decide) eR126)) (by decide) eR127)) (by decide) eR128)) (by decide) eR129)) (by decide) eR130)) (by decide) eR131)) (by decide) eR132)) (by decide) eR133)) (by decide) eR134)) (by decide) eR135)) (by decide) eR136)) (by decide) eR137)) (by decide) eR138)) (by decide) eR139)) (by decide) eR140)) (by decide) eR141) _ (Nat.le_refl _) i).1) (by decide) (by decide) (by decide) (Nat.le_of_ble_eq_true rfl) (Nat.le_of_ble_eq_true rfl) ?_
  refine g_putF (pc1 := 247) (v := .ref 430) (M' := M120) (R' := uR R141 401 43 (some 430)) d_Mod_init_244 rfl rfl ff_Mod_104 (fun _ => po_12_43 _) sh_401 (by decide) (fun _ => fvl_R_self) (fun _ q h => fvl_R_ne q h) (fun _ _ _ h => ent_neR h) ?_
  refine Wp.topR (fun R142 eR142 => ?_)
  refine g_aload_n (pc1 := 248) d_Mod_init_247 rfl 0 rfl ?_
  refine g_sipush (pc1 := 251) (v := 840) d_Mod_init_248 rfl (by decide) ?_
  refine g_newI (pc1 := 253) d_Mod_init_251 rfl ca_int sh_431 (fun i => ((Fz.wR (Fz.up (Fz.wR (Fz.up (Fz.wR (Fz.up (Fz.wR (Fz.up (Fz.wR (Fz.up (Fz.wR (Fz.up (Fz.wR (Fz.up (Fz.wR (Fz.up (Fz.wR (Fz.up (Fz.wR (Fz.up (Fz.wR (Fz.up (Fz.wR (Fz.up (Fz.wR (Fz.up (Fz.wR (Fz.up (Fz.wR (Fz.up (Fz.wR (Fz.up (Fz.wR (Fz.up (Fz.wR (Fz.up (Fz.wR (Fz.up (Fz.wR (Fz.up (Fz.wR (Fz.up (Fz.wR (Fz.up (Fz.wM (Fz.wR (Fz.up (Fz.wR (Fz.up (Fz.wR (Fz.up (Fz.wR (Fz.up (Fz.wR (Fz.up (Fz.wR (Fz.up (Fz.wR (Fz.up hF) (by decide) eR113)) (by decide) eR114)) (by decide) eR115)) (by decide) eR116)) (by decide) eR117)) (by decide) eR118)) (by decide) eR119) (by decide) eM120)) (by decide) eR121)) (by decide) eR122)) (by decide) eR123)) (by decide) eR124)) (by decide) eR125)) (by decide) eR126)) (by decide) eR127)) (by decide) eR128)) (by decide) eR129)) (by decide) eR130)) (by decide) eR131)) (by decide) eR132)) (by decide) eR133)) (by decide) eR134)) (by decide) eR135)) (by decide) eR136)) (by decide) eR137)) (by decide) eR138)) (by decide) eR139)) (by decide) eR140)) (by decide) eR141)) (by decide) eR142) _ (Nat.le_refl _) i).1) (by decide) (by decide) (by decide) (Nat.le_of_ble_eq_true rfl) (Nat.le_of_ble_eq_true rfl) ?_
  refine g_putF (pc1 := 256) (v := .ref 431) (M' := M120) (R' := uR R142 401 45 (some 431)) d_Mod_init_253 rfl rfl ff_Mod_107 (fun _ => po_12_45 _) sh_401 (by decide) (fun _ => fvl_R_self) (fun _ q h => fvl_R_ne q h) (fun _ _ _ h => ent_neR h) ?_
  refine Wp.topR (fun R143 eR143 => ?_)
  refine g_aload_n (pc1 := 257) d_Mod_init_256 rfl 0 rfl ?_
  refine g_sipush (pc1 := 260) (v := 840) d_Mod_init_257 rfl (by decide) ?_
  refine g_newI (pc1 := 262) d_Mod_init_260 rfl ca_int sh_432 (fun i => ((Fz.wR (Fz.up (Fz.wR (Fz.up (Fz.wR (Fz.up (Fz.wR (Fz.up (Fz.wR (Fz.up (Fz.wR (Fz.up (Fz.wR (Fz.up (Fz.wR (Fz.up (Fz.wR (Fz.up (Fz.wR (Fz.up (Fz.wR (Fz.up (Fz.wR (Fz.up (Fz.wR (Fz.up (Fz.wR (Fz.up (Fz.wR (Fz.up (Fz.wR (Fz.up (Fz.wR (Fz.up (Fz.wR (Fz.up (Fz.wR (Fz.up (Fz.wR (Fz.up (Fz.wR (Fz.up (Fz.wR (Fz.up (Fz.wR (Fz.up (Fz.wM (Fz.wR (Fz.up (Fz.wR (Fz.up (Fz.wR (Fz.up (Fz.wR (Fz.up (Fz.wR (Fz.up (Fz.wR (Fz.up (Fz.wR (Fz.up hF) (by decide) eR113)) (by decide) eR114)) (by decide) eR115)) (by decide) eR116)) (by decide) eR117)) (by decide) eR118)) (by decide) eR119) (by decide) eM120)) (by decide) eR121)) (by decide) eR122)) (by decide) eR123)) (by decide) eR124)) (by decide) eR125)) (by decide) eR126)) (by decide) eR127)) (by decide) eR128)) (by decide) eR129)) (by decide) eR130)) (by decide) eR131)) (by decide) eR132)) (by decide) eR133)) (by decide) eR134)) (by decide) eR135)) (by decide) eR136)) (by decide) eR137)) (by decide) eR138)) (by decide) eR139)) (by decide) eR140)) (by decide) eR141)) (by decide) eR142)) (by decide) eR143) _ (Nat.le_refl _) i).1) (by decide) (by decide) (by decide) (Nat.le_of_ble_eq_true rfl) (Nat.le_of_ble_eq_true rfl) ?_
  refine g_putF (pc1 := 265) (v := .ref 432) (M' := M120) (R' := uR R143 401 46 (some 432)) d_Mod_init_262 rfl rfl ff_Mod_110 (fun _ => po_12_46 _) sh_401 (by decide) (fun _ => fvl_R_self) (fun _ q h => fvl_R_ne q h) (fun _ _ _ h => ent_neR h) ?_
  refine Wp.topR (fun R144 eR144 => ?_)
  refine g_aload_n (pc1 := 266) d_Mod_init_265 rfl 0 rfl ?_
  refine g_bipush (pc1 := 268) (v := 64) d_Mod_init_266 rfl (by decide) ?_
  refine g_newI (pc1 := 270) d_Mod_init_268 rfl ca_int sh_433 (fun i => ((Fz.wR (Fz.up (Fz.wR (Fz.up (Fz.wR (Fz.up (Fz.wR (Fz.up (Fz.wR (Fz.up (Fz.wR (Fz.up (Fz.wR (Fz.up (Fz.wR (Fz.up (Fz.wR (Fz.up (Fz.wR (Fz.up (Fz.wR (Fz.up (Fz.wR (Fz.up (Fz.wR (Fz.up (Fz.wR (Fz.up (Fz.wR (Fz.up (Fz.wR (Fz.up (Fz.wR (Fz.up (Fz.wR (Fz.up (Fz.wR (Fz.up (Fz.wR (Fz.up (Fz.wR (Fz.up (Fz.wR (Fz.up (Fz.wR (Fz.up (Fz.wR (Fz.up (Fz.wM (Fz.wR (Fz.up (Fz.wR (Fz.up (Fz.wR (Fz.up (Fz.wR (Fz.up (Fz.wR (Fz.up (Fz.wR (Fz.up (Fz.wR (Fz.up hF) (by decide) eR113)) (by decide) eR114)) (by decide) eR115)) (by decide) eR116)) (by decide) eR117)) (by decide) eR118)) (by decide) eR119) (by decide) eM120)) (by decide) eR121)) (by decide) eR122)) (by decide) eR123)) (by decide) eR124)) (by decide) eR125)) (by decide) eR126)) (by decide) eR127)) (by decide) eR128)) (by decide) eR129)) (by decide) eR130)) (by decide) eR131)) (by decide) eR132)) (by decide) eR133)) (by decide) eR134)) (by decide) eR135)) (by decide) eR136)) (by decide) eR137)) (by decide) eR138)) (by decide) eR139)) (by decide) eR140)) (by decide) eR141)) (by decide) eR142)) (by decide) eR143)) (by decide) eR144) _ (Nat.le_refl _) i).1) (by decide) (by decide) (by decide) (Nat.le_of_ble_eq_true rfl) (Nat.le_of_ble_eq_true rfl) ?_
  refine g_putF (pc1 := 273) (v := .ref 433) (M' := M120) (R' := uR R144 401 47 (some 433)) d_Mod_init_270 rfl rfl ff_Mod_113 (fun _ => po_12_47 _) sh_401 (by decide) (fun _ => fvl_R_self) (fun _ q h => fvl_R_ne q h) (fun _ _ _ h => ent_neR h) ?_
  refine Wp.topR (fun R145 eR145 => ?_)
  refine g_aload_n (pc1 := 274) d_Mod_init_273 rfl 0 rfl ?_
  refine g_bipush (pc1 := 276) (v := 9) d_Mod_init_274 rfl (by decide) ?_
  refine g_newI (pc1 := 278) d_Mod_init_276 rfl ca_int sh_434 (fun i => ((Fz.wR (Fz.up (Fz.wR (Fz.up (Fz.wR (Fz.up (Fz.wR (Fz.up (Fz.wR (Fz.up (Fz.wR (Fz.up (Fz.wR (Fz.up (Fz.wR (Fz.up (Fz.wR (Fz.up (Fz.wR (Fz.up (Fz.wR (Fz.up (Fz.wR (Fz.up (Fz.wR (Fz.up (Fz.wR (Fz.up (Fz.wR (Fz.up (Fz.wR (Fz.up (Fz.wR (Fz.up (Fz.wR (Fz.up (Fz.wR (Fz.up (Fz.wR (Fz.up (Fz.wR (Fz.up (Fz.wR (Fz.up (Fz.wR (Fz.up (Fz.wR (Fz.up (Fz.wR (Fz.up (Fz.wM (Fz.wR (Fz.up (Fz.wR (Fz.up (Fz.wR (Fz.up (Fz.wR (Fz.up (Fz.wR (Fz.up (Fz.wR (Fz.up (Fz.wR (Fz.up hF) (by decide) eR113)) (by decide) eR114)) (by decide) eR115)) (by decide) eR116)) (by decide) eR117)) (by decide) eR118)) (by decide) eR119) (by decide) eM120)) (by decide) eR121)) (by decide) eR122)) (by decide) eR123)) (by decide) eR124)) (by decide) eR125)) (by decide) eR126)) (by decide) eR127)) (by decide) eR128)) (by decide) eR129)) (by decide) eR130)) (by decide) eR131)) (by decide) eR132)) (by decide) eR133)) (by decide) eR134)) (by decide) eR135)) (by decide) eR136)) (by decide) eR137)) (by decide) eR138)) (by decide) eR139)) (by decide) eR140)) (by decide) eR141)) (by decide) eR142)) (by decide) eR143)) (by decide) eR144)) (by decide) eR145) _ (Nat.le_refl _) i).1) (by decide) (by decide) (by decide) (Nat.le_of_ble_eq_true rfl) (Nat.le_of_ble_eq_true rfl) ?_
  refine g_putF (pc1 := 281) (v := .ref 434) (M' := M120) (R' := uR R145 401 49 (some 434)) d_Mod_init_278 rfl rfl ff_Mod_116 (fun _ => po_12_49 _) sh_401 (by decide) (fun _ => fvl_R_self) (fun _ q h => fvl_R_ne q h) (fun _ _ _ h => ent_neR h) ?_
  refine Wp.topR (fun R146 eR146 => ?_)
  refine g_aload_n (pc1 := 282) d_Mod_init_281 rfl 0 rfl ?_
  refine g_sipush (pc1 := 285) (v := 400) d_Mod_init_282 rfl (by decide) ?_
  refine g_newI (pc1 := 287) d_Mod_init_285 rfl ca_int sh_435 (fun i => ((Fz.wR (Fz.up (Fz.wR (Fz.up (Fz.wR (Fz.up (Fz.wR (Fz.up (Fz.wR (Fz.up (Fz.wR (Fz.up (Fz.wR (Fz.up (Fz.wR (Fz.up (Fz.wR (Fz.up (Fz.wR (Fz.up (Fz.wR (Fz.up (Fz.wR (Fz.up (Fz.wR (Fz.up (Fz.wR (Fz.up (Fz.wR (Fz.up (Fz.wR (Fz.up (Fz.wR (Fz.up (Fz.wR (Fz.up (Fz.wR (Fz.up (Fz.wR (Fz.up (Fz.wR (Fz.up (Fz.wR (Fz.up (Fz.wR (Fz.up (Fz.wR (Fz.up (Fz.wR (Fz.up (Fz.wR (Fz.up (Fz.wM (Fz.wR (Fz.up (Fz.wR (Fz.up (Fz.wR (Fz.up (Fz.wR (Fz.up (Fz.wR (Fz.up (Fz.wR (Fz.up (Fz.wR (Fz.up hF) (by decide) eR113)) (by decide) eR114)) (by decide) eR115)) (by decide) eR116)) (by decide) eR117)) (by decide) eR118)) (by decide) eR119) (by decide) eM120)) (by decide) eR121)) (by decide) eR122)) (by decide) eR123)) (by decide) eR124)) (by decide) eR125)) (by decide) eR126)) (by decide) eR127)) (by decide) eR128)) (by decide) eR129)) (by decide) eR130)) (by decide) eR131)) (by decide) eR132)) (by decide) eR133)) (by decide) eR134)) (by decide) eR135)) (by decide) eR136)) (by decide) eR137)) (by decide) eR138)) (by decide) eR139)) (by decide) eR140)) (by decide) eR141)) (by decide) eR142)) (by decide) eR143)) (by decide) eR144)) (by decide) eR145)) (by decide) eR146) _ (Nat.le_refl _) i).1) (by decide) (by decide) (by decide) (Nat.le_of_ble_eq_true rfl) (Nat.le_of_ble_eq_true rfl) ?_
  refine g_putF (pc1 := 290) (v := .ref 435) (M' := M120) (R' := uR R146 401 50 (some 435)) d_Mod_init_287 rfl rfl ff_Mod_119 (fun _ => po_12_50 _) sh_401 (by decide) (fun _ => fvl_R_self) (fun _ q h => fvl_R_ne q h) (fun _ _ _ h => ent_neR h) ?_
  refine Wp.topR (fun R147 eR147 => ?_)
  refine g_aload_n (pc1 := 291) d_Mod_init_290 rfl 0 rfl ?_
  refine g_bipush (pc1 := 293) (v := 38) d_Mod_init_291 rfl (by decide) ?_
  refine g_newI (pc1 := 295) d_Mod_init_293 rfl ca_int sh_436 (fun i => ((Fz.wR (Fz.up (Fz.wR (Fz.up (Fz.wR (Fz.up (Fz.wR (Fz.up (Fz.wR (Fz.up (Fz.wR (Fz.up (Fz.wR (Fz.up (Fz.wR (Fz.up (Fz.wR (Fz.up (Fz.wR (Fz.up (Fz.wR (Fz.up (Fz.wR (Fz.up (Fz.wR (Fz.up (Fz.wR (Fz.up (Fz.wR (Fz.up (Fz.wR (Fz.up (Fz.wR (Fz.up (Fz.wR (Fz.up (Fz.wR (Fz.up (Fz.wR (Fz.up (Fz.wR (Fz.up (Fz.wR (Fz.up (Fz.wR (Fz.up (Fz.wR (Fz.up (Fz.wR (Fz.up (Fz.wR (Fz.up (Fz.wR (Fz.up (Fz.wM (Fz.wR (Fz.up (Fz.wR (Fz.up (Fz.wR (Fz.up (Fz.wR (Fz.up (Fz.wR (Fz.up (Fz.wR (Fz.up (Fz.wR (Fz.up hF) (by decide) eR113)) (by decide) eR114)) (by decide) eR115)) (by decide) eR116)) (by decide) eR117)) (by decide) eR118)) (by decide) eR119) (by decide) eM120)) (by decide) eR121)) (by decide) eR122)) (by decide) eR123)) (by decide) eR124)) (by decide) eR125)) (by decide) eR126)) (by decide) eR127)) (by decide) eR128)) (by decide) eR129)) (by decide) eR130)) (by decide) eR131)) (by decide) eR132)) (by decide) eR133)) (by decide) eR134)) (by decide) eR135)) (by decide) eR136)) (by decide) eR137)) (by decide) eR138)) (by decide) eR139)) (by decide) eR140)) (by decide) eR141)) (by decide) eR142)) (by decide) eR143)) (by decide) eR144)) (by decide) eR145)) (by decide) eR146)) (by decide) eR147) _ (Nat.le_refl _) i).1) (by decide) (by decide) (by decide) (Nat.le_of_ble_eq_true rfl) (Nat.le_of_ble_eq_true rfl) ?_
  refine g_putF (pc1 := 298) (v := .ref 436) (M' := M120) (R' := uR R147 401 52 (some 436)) d_Mod_init_295 rfl rfl ff_Mod_122 (fun _ => po_12_52 _) sh_401 (by decide) (fun _ => fvl_R_self) (fun _ q h => fvl_R_ne q h) (fun _ _ _ h => ent_neR h) ?_
  refine Wp.topR (fun R148 eR148 => ?_)
  refine g_aload_n (pc1 := 299) d_Mod_init_298 rfl 0 rfl ?_
  refine g_bipush (pc1 := 301) (v := 38) d_Mod_init_299 rfl (by decide) ?_
  refine g_newI (pc1 := 303) d_Mod_init_301 rfl ca_int sh_437 (fun i => ((Fz.wR (Fz.up (Fz.wR (Fz.up (Fz.wR (Fz.up (Fz.wR (Fz.up (Fz.wR (Fz.up (Fz.wR (Fz.up (Fz.wR (Fz.up (Fz.wR (Fz.up (Fz.wR (Fz.up (Fz.wR (Fz.up (Fz.wR (Fz.up (Fz.wR (Fz.up (Fz.wR (Fz.up (Fz.wR (Fz.up (Fz.wR (Fz.up (Fz.wR (Fz.up (Fz.wR (Fz.up (Fz.wR (Fz.up (Fz.wR (Fz.up (Fz.wR (Fz.up (Fz.wR (Fz.up (Fz.wR (Fz.up (Fz.wR (Fz.up (Fz.wR (Fz.up (Fz.wR (Fz.up (Fz.wR (Fz.up (Fz.wR (Fz.up (Fz.wR (Fz.up (Fz.wM (Fz.wR (Fz.up (Fz.wR (Fz.up (Fz.wR (Fz.up (Fz.wR (Fz.up (Fz.wR (Fz.up (Fz.wR (Fz.up (Fz.wR (Fz.up hF) (by decide) eR113)) (by decide) eR114)) (by decide) eR115)) (by decide) eR116)) (by decide) eR117)) (by decide) eR118)) (by decide) eR119) (by decide) eM120)) (by decide) eR121)) (by decide) eR122)) (by decide) eR123)) (by decide) eR124)) (by decide) eR125)) (by decide) eR126)) (by decide) eR127)) (by decide) eR128)) (by decide) eR129)) (by decide) eR130)) (by decide) eR131)) (by decide) eR132)) (by decide) eR133)) (by decide) eR134)) (by decide) eR135)) (by decide) eR136)) (by decide) eR137)) (by decide) eR138)) (by decide) eR139)) (by decide) eR140)) (by decide) eR141)) (by decide) eR142)) (by decide) eR143)) (by decide) eR144)) (by decide) eR145)) (by decide) eR146)) (by decide) eR147)) (by decide) eR148) _ (Nat.le_refl _) i).1) (by decide) (by decide) (by decide) (Nat.le_of_ble_eq_true rfl) (Nat.le_of_ble_eq_true rfl) ?_
  refine g_putF (pc1 := 306) (v := .ref 437) (M' := M120) (R' := uR R148 401 53 (some 437)) d_Mod_init_303 rfl rfl ff_Mod_125 (fun _ => po_12_53 _) sh_401 (by decide) (fun _ => fvl_R_self) (fun _ q h => fvl_R_ne q h) (fun _ _ _ h => ent_neR h) ?_
  refine Wp.topR (fun R149 eR149 => ?_)
  refine g_aload_n (pc1 := 307) d_Mod_init_306 rfl 0 rfl ?_
  refine g_bipush (pc1 := 309) (v := 6) d_Mod_init_307 rfl (by decide) ?_
  refine g_newI (pc1 := 311) d_Mod_init_309 rfl ca_int sh_438 (fun i => ((Fz.wR (Fz.up (Fz.wR (Fz.up (Fz.wR (Fz.up (Fz.wR (Fz.up (Fz.wR (Fz.up (Fz.wR (Fz.up (Fz.wR (Fz.up (Fz.wR (Fz.up (Fz.wR (Fz.up (Fz.wR (Fz.up (Fz.wR (Fz.up (Fz.wR (Fz.up (Fz.wR (Fz.up (Fz.wR (Fz.up (Fz.wR (Fz.up (Fz.wR (Fz.up (Fz.wR (Fz.up (Fz.wR (Fz.up (Fz.wR (Fz.up (Fz.wR (Fz.up (Fz.wR (Fz.up (Fz.wR (Fz.up (Fz.wR (Fz.up (Fz.wR (Fz.up (Fz.wR (Fz.up (Fz.wR (Fz.up (Fz.wR (Fz.up (Fz.wR (Fz.up (Fz.wR (Fz.up (Fz.wM (Fz.wR (Fz.up (Fz.wR (Fz.up (Fz.wR (Fz.up (Fz.wR (Fz.up (Fz.wR (Fz.up (Fz.wR (Fz.up (Fz.wR (Fz.up hF) (by decide) eR113)) (by decide) eR114)) (by decide) eR115)) (by decide) eR116)) (by decide) eR117)) (by decide) eR118)) (by decide) eR119) (by decide) eM120)) (by decide) eR121)) (by decide) eR122)) (by decide) eR123)) (by decide) eR124)) (by decide) eR125)) (by decide) eR126)) (by decide) eR127)) (by decide) eR128)) (by decide) eR129)) (by decide) eR130)) (by decide) eR131)) (by decide) eR132)) (by decide) eR133)) (by decide) eR134)) (by decide) eR135)) (by decide) eR136)) (by decide) eR137)) (by decide) eR138)) (by decide) eR139)) (by decide) eR140)) (by decide) eR141)) (by decide) eR142)) (by decide) eR143)) (by decide) eR144)) (by decide) eR145)) (by decide) eR146)) (by decide) eR147)) (by decide) eR148)) (by decide) eR149) _ (Nat.le_refl _) i).1) (by decide) (by decide) (by decide) (Nat.le_of_ble_eq_true rfl) (Nat.le_of_ble_eq_true rfl) ?_
  refine g_putF (pc1 := 314) (v := .ref 438) (M' := M120) (R' := uR R149 401 55 (some 438)) d_Mod_init_311 rfl rfl ff_Mod_128 (fun _ => po_12_55 _) sh_401 (by decide) (fun _ => fvl_R_self) (fun _ q h => fvl_R_ne q h) (fun _ _ _ h => ent_neR h) ?_
  refine Wp.topR (fun R150 eR150 => ?_)
  refine g_aload_n (pc1 := 315) d_Mod_init_314 rfl 0 rfl ?_
  refine g_bipush (pc1 := 317) (v := 6) d_Mod_init_315 rfl (by decide) ?_
  refine g_newI (pc1 := 319) d_Mod_init_317 rfl ca_int sh_439 (fun i => ((Fz.wR (Fz.up (Fz.wR (Fz.up (Fz.wR (Fz.up (Fz.wR (Fz.up (Fz.wR (Fz.up (Fz.wR (Fz.up (Fz.wR (Fz.up (Fz.wR (Fz.up (Fz.wR (Fz.up (Fz.wR (Fz.up (Fz.wR (Fz.up (Fz.wR (Fz.up (Fz.wR (Fz.up (Fz.wR (Fz.up (Fz.wR (Fz.up (Fz.wR (Fz.up (Fz.wR (Fz.up (Fz.wR (Fz.up (Fz.wR (Fz.up (Fz.wR (Fz.up (Fz.wR (Fz.up (Fz.wR (Fz.up (Fz.wR (Fz.up (Fz.wR (Fz.up (Fz.wR (Fz.up (Fz.wR (Fz.up (Fz.wR (Fz.up (Fz.wR (Fz.up (Fz.wR (Fz.up (Fz.wR (Fz.up (Fz.wM (Fz.wR (Fz.up (Fz.wR (Fz.up (Fz.wR (Fz.up (Fz.wR (Fz.up (Fz.wR (Fz.up (Fz.wR (Fz.up (Fz.wR (Fz.up hF) (by decide) eR113)) (by decide) eR114)) (by decide) eR115)) (by decide) eR116)) (by decide) eR117)) (by decide) eR118)) (by decide) eR119) (by decide) eM120)) (by decide) eR121)) (by decide) eR122)) (by decide) eR123)) (by decide) eR124)) (by decide) eR125)) (by decide) eR126)) (by decide) eR127)) (by decide) eR128)) (by decide) eR129)) (by decide) eR130)) (by decide) eR131)) (by decide) eR132)) (by decide) eR133)) (by decide) eR134)) (by decide) eR135)) (by decide) eR136)) (by decide) eR137)) (by decide) eR138)) (by decide) eR139)) (by decide) eR140)) (by decide) eR141)) (by decide) eR142)) (by decide) eR143)) (by decide) eR144)) (by decide) eR145)) (by decide) eR146)) (by decide) eR147)) (by decide) eR148)) (by decide) eR149)) (by decide) eR150) _ (Nat.le_refl _) i).1) (by decide) (by decide) (by decide) (Nat.le_of_ble_eq_true rfl) (Nat.le_of_ble_eq_true rfl) ?_
  refine g_putF (pc1 := 322) (v := .ref 439) (M' := M120) (R' := uR R150 401 56 (some 439)) d_Mod_init_319 rfl rfl ff_Mod_131 (fun _ => po_12_56 _) sh_401 (by decide) (fun _ => fvl_R_self) (fun _ q h => fvl_R_ne q h) (fun _ _ _ h => ent_neR h) ?_
  refine Wp.topR (fun R151 eR151 => ?_)
  refine g_aload_n (pc1 := 323) d_Mod_init_322 rfl 0 rfl ?_
  refine g_sipush (pc1 := 326) (v := 1520) d_Mod_init_323 rfl (by decide) ?_
  refine g_newI (pc1 := 328) d_Mod_init_326 rfl ca_int sh_440 (fun i => ((Fz.wR (Fz.up (Fz.wR (Fz.up (Fz.wR (Fz.up (Fz.wR (Fz.up (Fz.wR (Fz.up (Fz.wR (Fz.up (Fz.wR (Fz.up (Fz.wR (Fz.up (Fz.wR (Fz.up (Fz.wR (Fz.up (Fz.wR (Fz.up (Fz.wR (Fz.up (Fz.wR (Fz.up (Fz.wR (Fz.up (Fz.wR (Fz.up (Fz.wR (Fz.up (Fz.wR (Fz.up (Fz.wR (Fz.up (Fz.wR (Fz.up (Fz.wR (Fz.up (Fz.wR (Fz.up (Fz.wR (Fz.up (Fz.wR (Fz.up (Fz.wR (Fz.up (Fz.wR (Fz.up (Fz.wR (Fz.up (Fz.wR (Fz.up (Fz.wR (Fz.up (Fz.wR (Fz.up (Fz.wR (Fz.up (Fz.wR (Fz.up (Fz.wM (Fz.wR (Fz.up (Fz.wR (Fz.up (Fz.wR (Fz.up (Fz.wR (Fz.up (Fz.wR (Fz.up (Fz.wR (Fz.up (Fz.wR (Fz.up hF) (by decide) eR113)) (by decide) eR114)) (by decide) eR115)) (by decide) eR116)) (by decide) eR117)) (by decide) eR118)) (by decide) eR119) (by decide) eM120)) (by decide) eR121)) (by decide) eR122)) (by decide) eR123)) (by decide) eR124)) (by decide) eR125)) (by decide) eR126)) (by decide) eR127)) (by decide) eR128)) (by decide) eR129)) (by decide) eR130)) (by decide) eR131)) (by decide) eR132)) (by decide) eR133)) (by decide) eR134)) (by decide) eR135)) (by decide) eR136)) (by decide) eR137)) (by decide) eR138)) (by decide) eR139)) (by decide) eR140)) (by decide) eR141)) (by decide) eR142)) (by decide) eR143)) (by decide) eR144)) (by decide) eR145)) (by decide) eR146)) (by decide) eR147)) (by decide) eR148)) (by decide) eR149)) (by decide) eR150)) (by decide) eR151) _ (Nat.le_refl _) i).1) (by decide) (by decide) (by decide) (Nat.le_of_ble_eq_true rfl) (Nat.le_of_ble_eq_true rfl) ?_
  refine g_putF (pc1 := 331) (v := .ref 440) (M' := M120) (R' := uR R151 401 58 (some 440)) d_Mod_init_328 rfl rfl ff_Mod_134 (fun _ => po_12_58 _) sh_401 (by decide) (fun _ => fvl_R_self) (fun _ q h => fvl_R_ne q h) (fun _ _ _ h => ent_neR h) ?_
  refine Wp.topR (fun R152 eR152 => ?_)
  refine g_aload_n (pc1 := 332) d_Mod_init_331 rfl 0 rfl ?_
  refine g_bipush (pc1 := 334) (v := 20) d_Mod_init_332 rfl (by decide) ?_
  refine g_newI (pc1 := 336) d_Mod_init_334 rfl ca_int sh_441 (fun i => ((Fz.wR (Fz.up (Fz.wR (Fz.up (Fz.wR (Fz.up (Fz.wR (Fz.up (Fz.wR (Fz.up (Fz.wR (Fz.up (Fz.wR (Fz.up (Fz.wR (Fz.up (Fz.wR (Fz.up (Fz.wR (Fz.up (Fz.wR (Fz.up (Fz.wR (Fz.up (Fz.wR (Fz.up (Fz.wR (Fz.up (Fz.wR (Fz.up (Fz.wR (Fz.up (Fz.wR (Fz.up (Fz.wR (Fz.up (Fz.wR (Fz.up (Fz.wR (Fz.up (Fz.wR (Fz.up (Fz.wR (Fz.up (Fz.wR (Fz.up (Fz.wR (Fz.up (Fz.wR (Fz.up (Fz.wR (Fz.up (Fz.wR (Fz.up (Fz.wR (Fz.up (Fz.wR (Fz.up (Fz.wR (Fz.up (Fz.wR (Fz.up (Fz.wR (Fz.up (Fz.wM (Fz.wR (Fz.up (Fz.wR (Fz.up (Fz.wR (Fz.up (Fz.wR (Fz.up (Fz.wR (Fz.up (Fz.wR (Fz.up (Fz.wR (Fz.up hF) (by decide) eR113)) (by decide) eR114)) (by decide) eR115)) (by decide) eR116)) (by decide) eR117)) (by decide) eR118)) (by decide) eR119) (by decide) eM120)) (by decide) eR121)) (by decide) eR122)) (by decide) eR123)) (by decide) eR124)) (by decide) eR125)) (by decide) eR126)) (by decide) eR127)) (by decide) eR128)) (by decide) eR129)) (by decide) eR130)) (by decide) eR131)) (by decide) eR132)) (by decide) eR133)) (by decide) eR134)) (by decide) eR135)) (by decide) eR136)) (by decide) eR137)) (by decide) eR138)) (by decide) eR139)) (by decide) eR140)) (by decide) eR141)) (by decide) eR142)) (by decide) eR143)) (by decide) eR144)) (by decide) eR145)) (by decide) eR146)) (by decide) eR147)) (by decide) eR148)) (by decide) eR149)) (by decide) eR150)) (by decide) eR151)) (by decide) eR152) _ (Nat.le_refl _) i).1) (by decide) (by decide) (by decide) (Nat.le_of_ble_eq_true rfl) (Nat.le_of_ble_eq_true rfl) ?_
  refine g_putF (pc1 := 339) (v := .ref 441) (M' := M120) (R' := uR R152 401 65 (some 441)) d_Mod_init_336 rfl rfl ff_Mod_137 (fun _ => po_12_65 _) sh_401 (by decide) (fun _ => fvl_R_self) (fun _ q h => fvl_R_ne q h) (fun _ _ _ h => ent_neR h) ?_
  refine Wp.topR (fun R153 eR153 => ?_)
  refine g_aload_n (pc1 := 340) d_Mod_init_339 rfl 0 rfl ?_
  refine g_bipush (pc1 := 342) (v := 20) d_Mod_init_340 rfl (by decide) ?_
  refine g_newI (pc1 := 344) d_Mod_init_342 rfl ca_int sh_442 (fun i => ((Fz.wR (Fz.up (Fz.wR (Fz.up (Fz.wR (Fz.up (Fz.wR (Fz.up (Fz.wR (Fz.up (Fz.wR (Fz.up (Fz.wR (Fz.up (Fz.wR (Fz.up (Fz.wR (Fz.up (Fz.wR (Fz.up (Fz.wR (Fz.up (Fz.wR (Fz.up (Fz.wR (Fz.up (Fz.wR (Fz.up (Fz.wR (Fz.up (Fz.wR (Fz.up (Fz.wR (Fz.up (Fz.wR (Fz.up (Fz.wR (Fz.up (Fz.wR (Fz.up (Fz.wR (Fz.up (Fz.wR (Fz.up (Fz.wR (Fz.up (Fz.wR (Fz.up (Fz.wR (Fz.up (Fz.wR (Fz.up (Fz.wR (Fz.up (Fz.wR (Fz.up (Fz.wR (Fz.up (Fz.wR (Fz.up (Fz.wR (Fz.up (Fz.wR (Fz.up (Fz.wR (Fz.up (Fz.wM (Fz.wR (Fz.up (Fz.wR (Fz.up (Fz.wR (Fz.up (Fz.wR (Fz.up (Fz.wR (Fz.up (Fz.wR (Fz.up (Fz.wR (Fz.up hF) (by decide) eR113)) (by decide) eR114)) (by decide) eR115)) (by decide) eR116)) (by decide) eR117)) (by decide) eR118)) (by decide) eR119) (by decide) eM120)) (by decide) eR121)) (by decide) eR122)) (by decide) eR123)) (by decide) eR124)) (by decide) eR125)) (by decide) eR126)) (by decide) eR127)) (by decide) eR128)) (by decide) eR129)) (by decide) eR130)) (by decide) eR131)) (by decide) eR132)) (by decide) eR133)) (by decide) eR134)) (by decide) eR135)) (by decide) eR136)) (by decide) eR137)) (by decide) eR138)) (by decide) eR139)) (by decide) eR140)) (by decide) eR141)) (by decide) eR142)) (by decide) eR143)) (by decide) eR144)) (by decide) eR145)) (by decide) eR146)) (by decide) eR147)) (by decide) eR148)) (by decide) eR149)) (by decide) eR150)) (by decide) eR151)) (by decide) eR152)) (by decide) eR153) _ (Nat.le_refl _) i).1) (by decide) (by decide) (by decide) (Nat.le_of_ble_eq_true rfl) (Nat.le_of_ble_eq_true rfl) ?_
  refine g_putF (pc1 := 347) (v := .ref 442) (M' := M120) (R' := uR R153 401 66 (some 442)) d_Mod_init_344 rfl rfl ff_Mod_140 (fun _ => po_12_66 _) sh_401 (by decide) (fun _ => fvl_R_self) (fun _ q h => fvl_R_ne q h) (fun _ _ _ h => ent_neR h) ?_
  refine Wp.topR (fun R154 eR154 => ?_)
  refine g_aload_n (pc1 := 348) d_Mod_init_347 rfl 0 rfl ?_
  refine g_bipush (pc1 := 350) (v := 20) d_Mod_init_348 rfl (by decide) ?_
  refine g_newI (pc1 := 352) d_Mod_init_350 rfl ca_int sh_443 (fun i => ((Fz.wR (Fz.up (Fz.wR (Fz.up (Fz.wR (Fz.up (Fz.wR (Fz.up (Fz.wR (Fz.up (Fz.wR (Fz.up (Fz.wR (Fz.up (Fz.wR (Fz.up (Fz.wR (Fz.up (Fz.wR (Fz.up (Fz.wR (Fz.up (Fz.wR (Fz.up (Fz.wR (Fz.up (Fz.wR (Fz.up (Fz.wR (Fz.up (Fz.wR (Fz.up (Fz.wR (Fz.up (Fz.wR (Fz.up (Fz.wR (Fz.up (Fz.wR (Fz.up (Fz.wR (Fz.up (Fz.wR (Fz.up (Fz.wR (Fz.up (Fz.wR (Fz.up (Fz.wR (Fz.up (Fz.wR (Fz.up (Fz.wR (Fz.up (Fz.wR (Fz.up (Fz.wR (Fz.up (Fz.wR (Fz.up (Fz.wR (Fz.up (Fz.wR (Fz.up (Fz.wR (Fz.up (Fz.wR (Fz.up (Fz.wM (Fz.wR (Fz.up (Fz.wR (Fz.up (Fz.wR (Fz.up (Fz.wR (Fz.up (Fz.wR (Fz.up (Fz.wR (Fz.up (Fz.wR (Fz.up hF) (by decide) eR113)) (by decide) eR114)) (by decide) eR115)) (by decide) eR116)) (by decide) eR117)) (by decide) eR118)) (by decide) eR119) (by decide) eM120)) (by decide) eR121)) (by decide) eR122)) (by decide) eR123)) (by decide) eR124)) (by decide) eR125)) (by decide) eR126)) (by decide) eR127)) (by decide) eR128)) (by decide) eR129)) (by decide) eR130)) (by decide) eR131)) (by decide) eR132)) (by decide) eR133)) (by decide) eR134)) (by decide) eR135)) (by decide) eR136)) (by decide) eR137)) (by decide) eR138)) (by decide) eR139)) (by decide) eR140)) (by decide) eR141)) (by decide) eR142)) (by decide) eR143)) (by decide) eR144)) (by decide) eR145)) (by decide) eR146)) (by decide) eR147)) (by decide) eR148)) (by decide) eR149)) (by decide) eR150)) (by decide) eR151)) (by decide) eR152)) (by decide) eR153)) (by decide) eR154) _ (Nat.le_refl _) i).1) (by decide) (by decide) (by decide) (Nat.le_of_ble_eq_true rfl) (Nat.le_of_ble_eq_true rfl) ?_
  refine g_putF (pc1 := 355) (v := .ref 443) (M' := M120) (R' := uR R154 401 67 (some 443)) d_Mod_init_352 rfl rfl ff_Mod_143 (fun _ => po_12_67 _) sh_401 (by decide) (fun _ => fvl_R_self) (fun _ q h => fvl_R_ne q h) (fun _ _ _ h => ent_neR h) ?_
  refine Wp.topR (fun R155 eR155 => ?_)
  refine g_aload_n (pc1 := 356) d_Mod_init_355 rfl 0 rfl ?_
  refine g_sipush (pc1 := 359) (v := 3000) d_Mod_init_356 rfl (by decide) ?_
  refine g_newI (pc1 := 361) d_Mod_init_359 rfl ca_int sh_444 (fun i => ((Fz.wR (Fz.up (Fz.wR (Fz.up (Fz.wR (Fz.up (Fz.wR (Fz.up (Fz.wR (Fz.up (Fz.wR (Fz.up (Fz.wR (Fz.up (Fz.wR (Fz.up (Fz.wR (Fz.up (Fz.wR (Fz.up (Fz.wR (Fz.up (Fz.wR (Fz.up (Fz.wR (Fz.up (Fz.wR (Fz.up (Fz.wR (Fz.up (Fz.wR (Fz.up (Fz.wR (Fz.up (Fz.wR (Fz.up (Fz.wR (Fz.up (Fz.wR (Fz.up (Fz.wR (Fz.up (Fz.wR (Fz.up (Fz.wR (Fz.up (Fz.wR (Fz.up (Fz.wR (Fz.up (Fz.wR (Fz.up (Fz.wR (Fz.up (Fz.wR (Fz.up (Fz.wR (Fz.up (Fz.wR (Fz.up (Fz.wR (Fz.up (Fz.wR (Fz.up (Fz.wR (Fz.up (Fz.wR (Fz.up (Fz.wR (Fz.up (Fz.wM (Fz.wR (Fz.up (Fz.wR (Fz.up (Fz.wR (Fz.up (Fz.wR (Fz.up (Fz.wR (Fz.up (Fz.wR (Fz.up (Fz.wR (Fz.up hF) (by decide) eR113)) (by decide) eR114)) (by decide) eR115)) (by decide) eR116)) (by decide) eR117)) (by decide) eR118)) (by decide) eR119) (by decide) eM120)) (by decide) eR121)) (by decide) eR122)) (by decide) eR123)) (by decide) eR124)) (by decide) eR125)) (by decide) eR126)) (by decide) eR127)) (by decide) eR128)) (by decide) eR129)) (by decide) eR130)) (by decide) eR131)) (by decide) eR132)) (by decide) eR133)) (by decide) eR134)) (by decide) eR135)) (by decide) eR136)) (by decide) eR137)) (by decide) eR138)) (by decide) eR139)) (by decide) eR140)) (by decide) eR141)) (by decide) eR142)) (by decide) eR143)) (by decide) eR144)) (by decide) eR145)) (by decide) eR146)) (by decide) eR147)) (by decide) eR148)) (by decide) eR149)) (by decide) eR150)) (by decide) eR151)) (by decide) eR152)) (by decide) eR153)) (by decide) eR154)) (by decide) eR155) _ (Nat.le_refl _) i).1) (by decide) (by decide) (by decide) (Nat.le_of_ble_eq_true rfl) (Nat.le_of_ble_eq_true rfl) ?_
  refine g_putF (pc1 := 364) (v := .ref 444) (M' := M120) (R' := uR R155 401 68 (some 444)) d_Mod_init_361 rfl rfl ff_Mod_146 (fun _ => po_12_68 _) sh_401 (by decide) (fun _ => fvl_R_self) (fun _ q h => fvl_R_ne q h) (fun _ _ _ h => ent_neR h) ?_
  refine Wp.topR (fun R156 eR156 => ?_)
  refine g_aload_n (pc1 := 365) d_Mod_init_364 rfl 0 rfl ?_
  refine g_iconst (pc1 := 366) (v := 3) d_Mod_init_365 rfl (by decide) ?_
  refine g_newZ (pc1 := 368) d_Mod_init_366 rfl ca_boolean sh_445 (fun i => ((Fz.wR (Fz.up (Fz.wR (Fz.up (Fz.wR (Fz.up (Fz.wR (Fz.up (Fz.wR (Fz.up (Fz.wR (Fz.up (Fz.wR (Fz.up (Fz.wR (Fz.up (Fz.wR (Fz.up (Fz.wR (Fz.up (Fz.wR (Fz.up (Fz.wR (Fz.up (Fz.wR (Fz.up (Fz.wR (Fz.up (Fz.wR (Fz.up (Fz.wR (Fz.up (Fz.wR (Fz.up (Fz.wR (Fz.up (Fz.wR (Fz.up (Fz.wR (Fz.up (Fz.wR (Fz.up (Fz.wR (Fz.up (Fz.wR (Fz.up (Fz.wR (Fz.up (Fz.wR (Fz.up (Fz.wR (Fz.up (Fz.wR (Fz.up (Fz.wR (Fz.up (Fz.wR (Fz.up (Fz.wR (Fz.up (Fz.wR (Fz.up (Fz.wR (Fz.up (Fz.wR (Fz.up (Fz.wR (Fz.up (Fz.wR (Fz.up (Fz.wR (Fz.up (Fz.wM (Fz.wR (Fz.up (Fz.wR (Fz.up (Fz.wR (Fz.up (Fz.wR (Fz.up (Fz.wR (Fz.up (Fz.wR (Fz.up (Fz.wR (Fz.up hF) (by decide) eR113)) (by decide) eR114)) (by decide) eR115)) (by decide) eR116)) (by decide) eR117)) (by decide) eR118)) (by decide) eR119) (by decide) eM120)) (by decide) eR121)) (by decide) eR122)) (by decide) eR123)) (by decide) eR124)) (by decide) eR125)) (by decide) eR126)) (by decide) eR127)) (by decide) eR128)) (by decide) eR129)) (by decide) eR130)) (by decide) eR131)) (by decide) eR132)) (by decide) eR133)) (by decide) eR134)) (by decide) eR135)) (by decide) eR136)) (by decide) eR137)) (by decide) eR138)) (by decide) eR139)) (by decide) eR140)) (by decide) eR141)) (by decide) eR142)) (by decide) eR143)) (by decide) eR144)) (by decide) eR145)) (by decide) eR146)) (by decide) eR147)) (by decide) eR148)) (by decide) eR149)) (by decide) eR150)) (by decide) eR151)) (by decide) eR152)) (by decide) eR153)) (by decide) eR154)) (by decide) eR155)) (by decide) eR156) _ (Nat.le_refl _) i).1) (by decide) (by decide) (by decide) (Nat.le_of_ble_eq_true rfl) (Nat.le_of_ble_eq_true rfl) ?_
  refine g_putF (pc1 := 371) (v := .ref 445) (M' := M120) (R' := uR R156 401 69 (some 445)) d_Mod_init_368 rfl rfl ff_Mod_149 (fun _ => po_12_69 _) sh_401 (by decide) (fun _ => fvl_R_self) (fun _ q h => fvl_R_ne q h) (fun _ _ _ h => ent_neR h) ?_
  refine Wp.topR (fun R157 eR157 => ?_)
  refine g_aload_n (pc1 := 372) d_Mod_init_371 rfl 0 rfl ?_
  refine g_bipush (pc1 := 374) (v := 114) d_Mod_init_372 rfl (by decide) ?_
  refine g_newI (pc1 := 376) d_Mod_init_374 rfl ca_int sh_446 (fun i => ((Fz.wR (Fz.up (Fz.wR (Fz.up (Fz.wR (Fz.up (Fz.wR (Fz.up (Fz.wR (Fz.up (Fz.wR (Fz.up (Fz.wR (Fz.up (Fz.wR (Fz.up (Fz.wR (Fz.up (Fz.wR (Fz.up (Fz.wR (Fz.up (Fz.wR (Fz.up (Fz.wR (Fz.up (Fz.wR (Fz.up (Fz.wR (Fz.up (Fz.wR (Fz.up (Fz.wR (Fz.up (Fz.wR (Fz.up (Fz.wR (Fz.up (Fz.wR (Fz.up (Fz.wR (Fz.up (Fz.wR (Fz.up (Fz.wR (Fz.up (Fz.wR (Fz.up (Fz.wR (Fz.up (Fz.wR (Fz.up (Fz.wR (Fz.up (Fz.wR (Fz.up (Fz.wR (Fz.up (Fz.wR (Fz.up (Fz.wR (Fz.up (Fz.wR (Fz.up (Fz.wR (Fz.up (Fz.wR (Fz.up (Fz.wR (Fz.up (Fz.wR (Fz.up (Fz.wR (Fz.up (Fz.wM (Fz.wR (Fz.up (Fz.wR (Fz.up (Fz.wR (Fz.up (Fz.wR (Fz.up (Fz.wR (Fz.up (Fz.wR (Fz.up (Fz.wR (Fz.up hF) (by decide) eR113)) (by decide) eR114)) (by decide) eR115)) (by decide) eR116)) (by decide) eR117)) (by decide) eR118)) (by decide) eR119) (by decide) eM120)) (by decide) eR121)) (by decide) eR122)) (by decide) eR123)) (by decide) eR124)) (by decide) eR125)) (by decide) eR126)) (by decide) eR127)) (by decide) eR128)) (by decide) eR129)) (by decide) eR130)) (by decide) eR131)) (by decide) eR132)) (by decide) eR133)) (by decide) eR134)) (by decide) eR135)) (by decide) eR136)) (by decide) eR137)) (by decide) eR138)) (by decide) eR139)) (by decide) eR140)) (by decide) eR141)) (by decide) eR142)) (by decide) eR143)) (by decide) eR144)) (by decide) eR145)) (by decide) eR146)) (by decide) eR147)) (by decide) eR148)) (by decide) eR149)) (by decide) eR150)) (by decide) eR151)) (by decide) eR152)) (by decide) eR153)) (by decide) eR154)) (by decide) eR155)) (by decide) eR156)) (by decide) eR157) _ (Nat.le_refl _) i).1) (by decide) (by decide) (by decide) (Nat.le_of_ble_eq_true rfl) (Nat.le_of_ble_eq_true rfl) ?_
  refine g_putF (pc1 := 379) (v := .ref 446) (M' := M120) (R' := uR R157 401 70 (some 446)) d_Mod_init_376 rfl rfl ff_Mod_152 (fun _ => po_12_70 _) sh_401 (by decide) (fun _ => fvl_R_self) (fun _ q h => fvl_R_ne q h) (fun _ _ _ h => ent_neR h) ?_
  refine Wp.topR (fun R158 eR158 => ?_)
  refine Wp.eqR (R' := rf 12) (by have e : R158 = kR_Mod_init R := (by subst_vars; rfl); rw [e]; exact hR) (by decide) ?_
  refine g_aload_n (pc1 := 380) d_Mod_init_379 rfl 0 rfl ?_
  refine g_iconst (pc1 := 381) (v := nI 0) d_Mod_init_380 rfl (by decide) ?_
  refine g_callV (E' := (0, 0, 447)) (pc1 := 384) (As := [.int (nI 0)]) (rest := []) d_Mod_init_381 rfl mo_Mod_155 mi_Mod_plain mv_Mod_plain rfl sh_401 (by decide) (by decide) rfl rfl (Nat.le_of_ble_eq_true rfl) ⟨Nat.le_of_ble_eq_true rfl, Nat.le_of_ble_eq_true rfl⟩ rfl ?_
  refine x_Mod_plain_0 ?_
  dsimp only [psh]
  refine Wp.topM (fun M159 eM159 => ?_)
  refine g_aload_n (pc1 := 385) d_Mod_init_384 rfl 0 rfl ?_
  refine g_getr (pc1 := 388) d_Mod_init_385 rfl ⟨_, fo_Mod_34⟩ sh_401 (by decide) (rf_401_9 12) ?_
  refine g_iconst (pc1 := 389) (v := nI 0) d_Mod_init_388 rfl (by decide) ?_
  refine g_bipush (pc1 := 391) (v := nI 102) d_Mod_init_389 rfl (by decide) ?_
  refine g_bipush (pc1 := 393) (v := nI 111) d_Mod_init_391 rfl (by decide) ?_
  refine g_bipush (pc1 := 395) (v := nI 111) d_Mod_init_393 rfl (by decide) ?_
  refine g_bipush (pc1 := 397) (v := nI 100) d_Mod_init_395 rfl (by decide) ?_
  refine g_iconst (pc1 := 398) (v := nI 0) d_Mod_init_397 rfl (by decide) ?_
  refine g_iconst (pc1 := 399) (v := nI 0) d_Mod_init_398 rfl (by decide) ?_
  refine g_iconst (pc1 := 400) (v := nI 0) d_Mod_init_399 rfl (by decide) ?_
  refine g_callS (E' := (0, 0, 447)) (pc1 := 403) (As := [.int (nI 102), .int (nI 111), .int (nI 111), .int (nI 100), .int (nI 0), .int (nI 0), .int (nI 0)]) (rest := [.int (nI 0), .ref 408]) d_Mod_init_400 rfl mo_Mod_159 ms_Mod_word (by decide) rfl rfl (Nat.le_of_ble_eq_true rfl) ⟨Nat.le_of_ble_eq_true rfl, Nat.le_of_ble_eq_true rfl⟩ rfl ?_
  refine x_Mod_word ?_
  dsimp only [psh]
  refine Wp.vall (y := 129442) (by decide +kernel) ?_
  refine g_last (pc1 := 404) d_Mod_init_403 rfl sh_408 (by decide) (vp_in_nI (n := 0) (by omega) (by decide)) ?_
  rw [nI_clamp (n := 0) (by omega)]
  refine Wp.topL (fun L160 eL160 => ?_)
  refine g_aload_n (pc1 := 405) d_Mod_init_404 rfl 0 rfl ?_
  refine g_getr (pc1 := 408) d_Mod_init_405 rfl ⟨_, fo_Mod_34⟩ sh_401 (by decide) (rf_401_9 12) ?_
  refine g_iconst (pc1 := 409) (v := nI 1) d_Mod_init_408 rfl (by decide) ?_
  refine g_bipush (pc1 := 411) (v := nI 100) d_Mod_init_409 rfl (by decide) ?_
  refine g_bipush (pc1 := 413) (v := nI 105) d_Mod_init_411 rfl (by decide) ?_
  refine g_bipush (pc1 := 415) (v := nI 115) d_Mod_init_413 rfl (by decide) ?_
  refine g_bipush (pc1 := 417) (v := nI 104) d_Mod_init_415 rfl (by decide) ?_
  refine g_iconst (pc1 := 418) (v := nI 0) d_Mod_init_417 rfl (by decide) ?_
  refine g_iconst (pc1 := 419) (v := nI 0) d_Mod_init_418 rfl (by decide) ?_
  refine g_iconst (pc1 := 420) (v := nI 0) d_Mod_init_419 rfl (by decide) ?_
  refine g_callS (E' := (0, 0, 447)) (pc1 := 423) (As := [.int (nI 100), .int (nI 105), .int (nI 115), .int (nI 104), .int (nI 0), .int (nI 0), .int (nI 0)]) (rest := [.int (nI 1), .ref 408]) d_Mod_init_420 rfl mo_Mod_159 ms_Mod_word (by decide) rfl rfl (Nat.le_of_ble_eq_true rfl) ⟨Nat.le_of_ble_eq_true rfl, Nat.le_of_ble_eq_true rfl⟩ rfl ?_
  refine x_Mod_word ?_
  dsimp only [psh]
  refine Wp.vall (y := 85814) (by decide +kernel) ?_
  refine g_last (pc1 := 424) d_Mod_init_423 rfl sh_408 (by decide) (vp_in_nI (n := 1) (by omega) (by decide)) ?_
  rw [nI_clamp (n := 1) (by omega)]
  refine Wp.topL (fun L161 eL161 => ?_)
  refine g_aload_n (pc1 := 425) d_Mod_init_424 rfl 0 rfl ?_
  refine g_getr (pc1 := 428) d_Mod_init_425 rfl ⟨_, fo_Mod_34⟩ sh_401 (by decide) (rf_401_9 12) ?_
  refine g_iconst (pc1 := 429) (v := nI 2) d_Mod_init_428 rfl (by decide) ?_
  refine g_bipush (pc1 := 431) (v := nI 103) d_Mod_init_429 rfl (by decide) ?_
  refine g_bipush (pc1 := 433) (v := nI 117) d_Mod_init_431 rfl (by decide) ?_
  refine g_bipush (pc1 := 435) (v := nI 101) d_Mod_init_433 rfl (by decide) ?_
  refine g_bipush (pc1 := 437) (v := nI 115) d_Mod_init_435 rfl (by decide) ?_
  refine g_bipush (pc1 := 439) (v := nI 116) d_Mod_init_437 rfl (by decide) ?_
  refine g_iconst (pc1 := 440) (v := nI 0) d_Mod_init_439 rfl (by decide) ?_
  refine g_iconst (pc1 := 441) (v := nI 0) d_Mod_init_440 rfl (by decide) ?_
  refine g_callS (E' := (0, 0, 447)) (pc1 := 444) (As := [.int (nI 103), .int (nI 117), .int (nI 101), .int (nI 115), .int (nI 116), .int (nI 0), .int (nI 0)]) (rest := [.int (nI 2), .ref 408]) d_Mod_init_441 rfl mo_Mod_159 ms_Mod_word (by decide) rfl rfl (Nat.le_of_ble_eq_true rfl) ⟨Nat.le_of_ble_eq_true rfl, Nat.le_of_ble_eq_true rfl⟩ rfl ?_
  refine x_Mod_word ?_
  dsimp only [psh]
  refine Wp.vall (y := 4137608) (by decide +kernel) ?_
  refine g_last (pc1 := 445) d_Mod_init_444 rfl sh_408 (by decide) (vp_in_nI (n := 2) (by omega) (by decide)) ?_
  rw [nI_clamp (n := 2) (by omega)]
  refine Wp.topL (fun L162 eL162 => ?_)
  refine g_aload_n (pc1 := 446) d_Mod_init_445 rfl 0 rfl ?_
  refine g_getr (pc1 := 449) d_Mod_init_446 rfl ⟨_, fo_Mod_34⟩ sh_401 (by decide) (rf_401_9 12) ?_
  refine g_iconst (pc1 := 450) (v := nI 3) d_Mod_init_449 rfl (by decide) ?_
  refine g_bipush (pc1 := 452) (v := nI 100) d_Mod_init_450 rfl (by decide) ?_
  refine g_bipush (pc1 := 454) (v := nI 101) d_Mod_init_452 rfl (by decide) ?_
  refine g_bipush (pc1 := 456) (v := nI 101) d_Mod_init_454 rfl (by decide) ?_
  refine g_bipush (pc1 := 458) (v := nI 100) d_Mod_init_456 rfl (by decide) ?_
  refine g_iconst (pc1 := 459) (v := nI 0) d_Mod_init_458 rfl (by decide) ?_
  refine g_iconst (pc1 := 460) (v := nI 0) d_Mod_init_459 rfl (by decide) ?_
  refine g_iconst (pc1 := 461) (v := nI 0) d_Mod_init_460 rfl (by decide) ?_
  refine g_callS (E' := (0, 0, 447)) (pc1 := 464) (As := [.int (nI 100), .int (nI 101), .int (nI 101), .int (nI 100), .int (nI 0), .int (nI 0), .int (nI 0)]) (rest := [.int (nI 3), .ref 408]) d_Mod_init_461 rfl mo_Mod_159 ms_Mod_word (by decide) rfl rfl (Nat.le_of_ble_eq_true rfl) ⟨Nat.le_of_ble_eq_true rfl, Nat.le_of_ble_eq_true rfl⟩ rfl ?_
  refine x_Mod_word ?_
  dsimp only [psh]
  refine Wp.vall (y := 82516) (by decide +kernel) ?_
  refine g_last (pc1 := 465) d_Mod_init_464 rfl sh_408 (by decide) (vp_in_nI (n := 3) (by omega) (by decide)) ?_
  rw [nI_clamp (n := 3) (by omega)]
  refine Wp.topL (fun L163 eL163 => ?_)
  refine g_aload_n (pc1 := 466) d_Mod_init_465 rfl 0 rfl ?_
  refine g_getr (pc1 := 469) d_Mod_init_466 rfl ⟨_, fo_Mod_34⟩ sh_401 (by decide) (rf_401_9 12) ?_
  refine g_iconst (pc1 := 470) (v := nI 4) d_Mod_init_469 rfl (by decide) ?_
  refine g_bipush (pc1 := 472) (v := nI 102) d_Mod_init_470 rfl (by decide) ?_
  refine g_bipush (pc1 := 474) (v := nI 111) d_Mod_init_472 rfl (by decide) ?_
  refine g_bipush (pc1 := 476) (v := nI 114) d_Mod_init_474 rfl (by decide) ?_
  refine g_bipush (pc1 := 478) (v := nI 99) d_Mod_init_476 rfl (by decide) ?_
  refine g_bipush (pc1 := 480) (v := nI 101) d_Mod_init_478 rfl (by decide) ?_
  refine g_iconst (pc1 := 481) (v := nI 0) d_Mod_init_480 rfl (by decide) ?_
  refine g_iconst (pc1 := 482) (v := nI 0) d_Mod_init_481 rfl (by decide) ?_
  refine g_callS (E' := (0, 0, 447)) (pc1 := 485) (As := [.int (nI 102), .int (nI 111), .int (nI 114), .int (nI 99), .int (nI 101), .int (nI 0), .int (nI 0)]) (rest := [.int (nI 4), .ref 408]) d_Mod_init_482 rfl mo_Mod_159 ms_Mod_word (by decide) rfl rfl (Nat.le_of_ble_eq_true rfl) ⟨Nat.le_of_ble_eq_true rfl, Nat.le_of_ble_eq_true rfl⟩ rfl ?_
  refine x_Mod_word ?_
  dsimp only [psh]
  refine Wp.vall (y := 3497099) (by decide +kernel) ?_
  refine g_last (pc1 := 486) d_Mod_init_485 rfl sh_408 (by decide) (vp_in_nI (n := 4) (by omega) (by decide)) ?_
  rw [nI_clamp (n := 4) (by omega)]
  refine Wp.topL (fun L164 eL164 => ?_)
  refine g_aload_n (pc1 := 487) d_Mod_init_486 rfl 0 rfl ?_
  refine g_getr (pc1 := 490) d_Mod_init_487 rfl ⟨_, fo_Mod_34⟩ sh_401 (by decide) (rf_401_9 12) ?_
  refine g_iconst (pc1 := 491) (v := nI 5) d_Mod_init_490 rfl (by decide) ?_
  refine g_bipush (pc1 := 493) (v := nI 98) d_Mod_init_491 rfl (by decide) ?_
  refine g_bipush (pc1 := 495) (v := nI 105) d_Mod_init_493 rfl (by decide) ?_
  refine g_bipush (pc1 := 497) (v := nI 110) d_Mod_init_495 rfl (by decide) ?_
  refine g_bipush (pc1 := 499) (v := nI 100) d_Mod_init_497 rfl (by decide) ?_
  refine g_bipush (pc1 := 501) (v := nI 115) d_Mod_init_499 rfl (by decide) ?_
  refine g_iconst (pc1 := 502) (v := nI 0) d_Mod_init_501 rfl (by decide) ?_
  refine g_iconst (pc1 := 503) (v := nI 0) d_Mod_init_502 rfl (by decide) ?_
  refine g_callS (E' := (0, 0, 447)) (pc1 := 506) (As := [.int (nI 98), .int (nI 105), .int (nI 110), .int (nI 100), .int (nI 115), .int (nI 0), .int (nI 0)]) (rest := [.int (nI 5), .ref 408]) d_Mod_init_503 rfl mo_Mod_159 ms_Mod_word (by decide) rfl rfl (Nat.le_of_ble_eq_true rfl) ⟨Nat.le_of_ble_eq_true rfl, Nat.le_of_ble_eq_true rfl⟩ rfl ?_
  refine x_Mod_word ?_
  dsimp only [psh]
  refine Wp.vall (y := 1250362) (by decide +kernel) ?_
  refine g_last (pc1 := 507) d_Mod_init_506 rfl sh_408 (by decide) (vp_in_nI (n := 5) (by omega) (by decide)) ?_
  rw [nI_clamp (n := 5) (by omega)]
  refine Wp.topL (fun L165 eL165 => ?_)
  refine g_aload_n (pc1 := 508) d_Mod_init_507 rfl 0 rfl ?_
  refine g_getr (pc1 := 511) d_Mod_init_508 rfl ⟨_, fo_Mod_34⟩ sh_401 (by decide) (rf_401_9 12) ?_
  refine g_bipush (pc1 := 513) (v := nI 6) d_Mod_init_511 rfl (by decide) ?_
  refine g_bipush (pc1 := 515) (v := nI 102) d_Mod_init_513 rfl (by decide) ?_
  refine g_bipush (pc1 := 517) (v := nI 105) d_Mod_init_515 rfl (by decide) ?_
  refine g_bipush (pc1 := 519) (v := nI 108) d_Mod_init_517 rfl (by decide) ?_
  refine g_bipush (pc1 := 521) (v := nI 108) d_Mod_init_519 rfl (by decide) ?_
  refine g_bipush (pc1 := 523) (v := nI 115) d_Mod_init_521 rfl (by decide) ?_
  refine g_iconst (pc1 := 524) (v := nI 0) d_Mod_init_523 rfl (by decide) ?_
  refine g_iconst (pc1 := 525) (v := nI 0) d_Mod_init_524 rfl (by decide) ?_
  refine g_callS (E' := (0, 0, 447)) (pc1 := 528) (As := [.int (nI 102), .int (nI 105), .int (nI 108), .int (nI 108), .int (nI 115), .int (nI 0), .int (nI 0)]) (rest := [.int (nI 6), .ref 408]) d_Mod_init_525 rfl mo_Mod_159 ms_Mod_word (by decide) rfl rfl (Nat.le_of_ble_eq_true rfl) ⟨Nat.le_of_ble_eq_true rfl, Nat.le_of_ble_eq_true rfl⟩ rfl ?_
  refine x_Mod_word ?_
  dsimp only [psh]
  refine Wp.vall (y := 3374884) (by decide +kernel) ?_
  refine g_last (pc1 := 529) d_Mod_init_528 rfl sh_408 (by decide) (vp_in_nI (n := 6) (by omega) (by decide)) ?_
  rw [nI_clamp (n := 6) (by omega)]
  refine Wp.topL (fun L166 eL166 => ?_)
  refine g_aload_n (pc1 := 530) d_Mod_init_529 rfl 0 rfl ?_
  refine g_getr (pc1 := 533) d_Mod_init_530 rfl ⟨_, fo_Mod_34⟩ sh_401 (by decide) (rf_401_9 12) ?_
  refine g_bipush (pc1 := 535) (v := nI 7) d_Mod_init_533 rfl (by decide) ?_
  refine g_bipush (pc1 := 537) (v := nI 115) d_Mod_init_535 rfl (by decide) ?_
  refine g_bipush (pc1 := 539) (v := nI 108) d_Mod_init_537 rfl (by decide) ?_
  refine g_bipush (pc1 := 541) (v := nI 105) d_Mod_init_539 rfl (by decide) ?_
  refine g_bipush (pc1 := 543) (v := nI 112) d_Mod_init_541 rfl (by decide) ?_
  refine g_bipush (pc1 := 545) (v := nI 115) d_Mod_init_543 rfl (by decide) ?_
  refine g_iconst (pc1 := 546) (v := nI 0) d_Mod_init_545 rfl (by decide) ?_
  refine g_iconst (pc1 := 547) (v := nI 0) d_Mod_init_546 rfl (by decide) ?_
  refine g_callS (E' := (0, 0, 447)) (pc1 := 550) (As := [.int (nI 115), .int (nI 108), .int (nI 105), .int (nI 112), .int (nI 115), .int (nI 0), .int (nI 0)]) (rest := [.int (nI 7), .ref 408]) d_Mod_init_547 rfl mo_Mod_159 ms_Mod_word (by decide) rfl rfl (Nat.le_of_ble_eq_true rfl) ⟨Nat.le_of_ble_eq_true rfl, Nat.le_of_ble_eq_true rfl⟩ rfl ?_
  refine x_Mod_word ?_
  dsimp only [psh]
  refine Wp.vall (y := 10340587) (by decide +kernel) ?_
  refine g_last (pc1 := 551) d_Mod_init_550 rfl sh_408 (by decide) (vp_in_nI (n := 7) (by omega) (by decide)) ?_
  rw [nI_clamp (n := 7) (by omega)]
  refine Wp.topL (fun L167 eL167 => ?_)
  refine g_aload_n (pc1 := 552) d_Mod_init_551 rfl 0 rfl ?_
  refine g_getr (pc1 := 555) d_Mod_init_552 rfl ⟨_, fo_Mod_34⟩ sh_401 (by decide) (rf_401_9 12) ?_
  refine g_bipush (pc1 := 557) (v := nI 8) d_Mod_init_555 rfl (by decide) ?_
  refine g_bipush (pc1 := 559) (v := nI 115) d_Mod_init_557 rfl (by decide) ?_
  refine g_bipush (pc1 := 561) (v := nI 101) d_Mod_init_559 rfl (by decide) ?_
  refine g_bipush (pc1 := 563) (v := nI 101) d_Mod_init_561 rfl (by decide) ?_
  refine g_bipush (pc1 := 565) (v := nI 100) d_Mod_init_563 rfl (by decide) ?_
  refine g_iconst (pc1 := 566) (v := nI 0) d_Mod_init_565 rfl (by decide) ?_
  refine g_iconst (pc1 := 567) (v := nI 0) d_Mod_init_566 rfl (by decide) ?_
  refine g_iconst (pc1 := 568) (v := nI 0) d_Mod_init_567 rfl (by decide) ?_
  refine g_callS (E' := (0, 0, 447)) (pc1 := 571) (As := [.int (nI 115), .int (nI 101), .int (nI 101), .int (nI 100), .int (nI 0), .int (nI 0), .int (nI 0)]) (rest := [.int (nI 8), .ref 408]) d_Mod_init_568 rfl mo_Mod_159 ms_Mod_word (by decide) rfl rfl (Nat.le_of_ble_eq_true rfl) ⟨Nat.le_of_ble_eq_true rfl, Nat.le_of_ble_eq_true rfl⟩ rfl ?_
  refine x_Mod_word ?_
  dsimp only [psh]
  refine Wp.vall (y := 377761) (by decide +kernel) ?_
  refine g_last (pc1 := 572) d_Mod_init_571 rfl sh_408 (by decide) (vp_in_nI (n := 8) (by omega) (by decide)) ?_
  rw [nI_clamp (n := 8) (by omega)]
  refine Wp.topL (fun L168 eL168 => ?_)
  refine g_aload_n (pc1 := 573) d_Mod_init_572 rfl 0 rfl ?_
  refine g_getr (pc1 := 576) d_Mod_init_573 rfl ⟨_, fo_Mod_34⟩ sh_401 (by decide) (rf_401_9 12) ?_
  refine g_bipush (pc1 := 578) (v := nI 9) d_Mod_init_576 rfl (by decide) ?_
  refine g_bipush (pc1 := 580) (v := nI 105) d_Mod_init_578 rfl (by decide) ?_
  refine g_bipush (pc1 := 582) (v := nI 102) d_Mod_init_580 rfl (by decide) ?_
  refine g_iconst (pc1 := 583) (v := nI 0) d_Mod_init_582 rfl (by decide) ?_
  refine g_iconst (pc1 := 584) (v := nI 0) d_Mod_init_583 rfl (by decide) ?_
  refine g_iconst (pc1 := 585) (v := nI 0) d_Mod_init_584 rfl (by decide) ?_
  refine g_iconst (pc1 := 586) (v := nI 0) d_Mod_init_585 rfl (by decide) ?_
  refine g_iconst (pc1 := 587) (v := nI 0) d_Mod_init_586 rfl (by decide) ?_
  refine g_callS (E' := (0, 0, 447)) (pc1 := 590) (As := [.int (nI 105), .int (nI 102), .int (nI 0), .int (nI 0), .int (nI 0), .int (nI 0), .int (nI 0)]) (rest := [.int (nI 9), .ref 408]) d_Mod_init_587 rfl mo_Mod_159 ms_Mod_word (by decide) rfl rfl (Nat.le_of_ble_eq_true rfl) ⟨Nat.le_of_ble_eq_true rfl, Nat.le_of_ble_eq_true rfl⟩ rfl ?_
  refine x_Mod_word ?_
  dsimp only [psh]
  refine Wp.vall (y := 249) (by decide +kernel) ?_
  refine g_last (pc1 := 591) d_Mod_init_590 rfl sh_408 (by decide) (vp_in_nI (n := 9) (by omega) (by decide)) ?_
  rw [nI_clamp (n := 9) (by omega)]
  refine Wp.topL (fun L169 eL169 => ?_)
  refine g_aload_n (pc1 := 592) d_Mod_init_591 rfl 0 rfl ?_
  refine g_getr (pc1 := 595) d_Mod_init_592 rfl ⟨_, fo_Mod_34⟩ sh_401 (by decide) (rf_401_9 12) ?_
  refine g_bipush (pc1 := 597) (v := nI 10) d_Mod_init_595 rfl (by decide) ?_
  refine g_bipush (pc1 := 599) (v := nI 116) d_Mod_init_597 rfl (by decide) ?_
  refine g_bipush (pc1 := 601) (v := nI 104) d_Mod_init_599 rfl (by decide) ?_
  refine g_bipush (pc1 := 603) (v := nI 101) d_Mod_init_601 rfl (by decide) ?_
  refine g_bipush (pc1 := 605) (v := nI 110) d_Mod_init_603 rfl (by decide) ?_
  refine g_iconst (pc1 := 606) (v := nI 0) d_Mod_init_605 rfl (by decide) ?_
  refine g_iconst (pc1 := 607) (v := nI 0) d_Mod_init_606 rfl (by decide) ?_
  refine g_iconst (pc1 := 608) (v := nI 0) d_Mod_init_607 rfl (by decide) ?_
  refine g_callS (E' := (0, 0, 447)) (pc1 := 611) (As := [.int (nI 116), .int (nI 104), .int (nI 101), .int (nI 110), .int (nI 0), .int (nI 0), .int (nI 0)]) (rest := [.int (nI 10), .ref 408]) d_Mod_init_608 rfl mo_Mod_159 ms_Mod_word (by decide) rfl rfl (Nat.le_of_ble_eq_true rfl) ⟨Nat.le_of_ble_eq_true rfl, Nat.le_of_ble_eq_true rfl⟩ rfl ?_
  refine x_Mod_word ?_
  dsimp only [psh]
  refine Wp.vall (y := 399641) (by decide +kernel) ?_
  refine g_last (pc1 := 612) d_Mod_init_611 rfl sh_408 (by decide) (vp_in_nI (n := 10) (by omega) (by decide)) ?_
  rw [nI_clamp (n := 10) (by omega)]
  refine Wp.topL (fun L170 eL170 => ?_)
  refine g_aload_n (pc1 := 613) d_Mod_init_612 rfl 0 rfl ?_
  refine g_getr (pc1 := 616) d_Mod_init_613 rfl ⟨_, fo_Mod_34⟩ sh_401 (by decide) (rf_401_9 12) ?_
  refine g_bipush (pc1 := 618) (v := nI 11) d_Mod_init_616 rfl (by decide) ?_
  refine g_bipush (pc1 := 620) (v := nI 101) d_Mod_init_618 rfl (by decide) ?_
  refine g_bipush (pc1 := 622) (v := nI 108) d_Mod_init_620 rfl (by decide) ?_
  refine g_bipush (pc1 := 624) (v := nI 115) d_Mod_init_622 rfl (by decide) ?_
  refine g_bipush (pc1 := 626) (v := nI 101) d_Mod_init_624 rfl (by decide) ?_
  refine g_iconst (pc1 := 627) (v := nI 0) d_Mod_init_626 rfl (by decide) ?_
  refine g_iconst (pc1 := 628) (v := nI 0) d_Mod_init_627 rfl (by decide) ?_
  refine g_iconst (pc1 := 629) (v := nI 0) d_Mod_init_628 rfl (by decide) ?_
  refine g_callS (E' := (0, 0, 447)) (pc1 := 632) (As := [.int (nI 101), .int (nI 108), .int (nI 115), .int (nI 101), .int (nI 0), .int (nI 0), .int (nI 0)]) (rest := [.int (nI 11), .ref 408]) d_Mod_init_629 rfl mo_Mod_159 ms_Mod_word (by decide) rfl rfl (Nat.le_of_ble_eq_true rfl) ⟨Nat.le_of_ble_eq_true rfl, Nat.le_of_ble_eq_true rfl⟩ rfl ?_
  refine x_Mod_word ?_
  dsimp only [psh]
  refine Wp.vall (y := 107681) (by decide +kernel) ?_
  refine g_last (pc1 := 633) d_Mod_init_632 rfl sh_408 (by decide) (vp_in_nI (n := 11) (by omega) (by decide)) ?_
  rw [nI_clamp (n := 11) (by omega)]
  refine Wp.topL (fun L171 eL171 => ?_)
  refine g_aload_n (pc1 := 634) d_Mod_init_633 rfl 0 rfl ?_
  refine g_getr (pc1 := 637) d_Mod_init_634 rfl ⟨_, fo_Mod_34⟩ sh_401 (by decide) (rf_401_9 12) ?_
  refine g_bipush (pc1 := 639) (v := nI 12) d_Mod_init_637 rfl (by decide) ?_
  refine g_bipush (pc1 := 641) (v := nI 115) d_Mod_init_639 rfl (by decide) ?_
  refine g_bipush (pc1 := 643) (v := nI 117) d_Mod_init_641 rfl (by decide) ?_
  refine g_bipush (pc1 := 645) (v := nI 109) d_Mod_init_643 rfl (by decide) ?_
  refine g_iconst (pc1 := 646) (v := nI 0) d_Mod_init_645 rfl (by decide) ?_
  refine g_iconst (pc1 := 647) (v := nI 0) d_Mod_init_646 rfl (by decide) ?_
  refine g_iconst (pc1 := 648) (v := nI 0) d_Mod_init_647 rfl (by decide) ?_
  refine g_iconst (pc1 := 649) (v := nI 0) d_Mod_init_648 rfl (by decide) ?_
  refine g_callS (E' := (0, 0, 447)) (pc1 := 652) (As := [.int (nI 115), .int (nI 117), .int (nI 109), .int (nI 0), .int (nI 0), .int (nI 0), .int (nI 0)]) (rest := [.int (nI 12), .ref 408]) d_Mod_init_649 rfl mo_Mod_159 ms_Mod_word (by decide) rfl rfl (Nat.le_of_ble_eq_true rfl) ⟨Nat.le_of_ble_eq_true rfl, Nat.le_of_ble_eq_true rfl⟩ rfl ?_
  refine x_Mod_word ?_
  dsimp only [psh]
  refine Wp.vall (y := 14431) (by decide +kernel) ?_
  refine g_last (pc1 := 653) d_Mod_init_652 rfl sh_408 (by decide) (vp_in_nI (n := 12) (by omega) (by decide)) ?_
  rw [nI_clamp (n := 12) (by omega)]
  refine Wp.topL (fun L172 eL172 => ?_)
  refine g_aload_n (pc1 := 654) d_Mod_init_653 rfl 0 rfl ?_
  refine g_getr (pc1 := 657) d_Mod_init_654 rfl ⟨_, fo_Mod_34⟩ sh_401 (by decide) (rf_401_9 12) ?_
  refine g_bipush (pc1 := 659) (v := nI 13) d_Mod_init_657 rfl (by decide) ?_
  refine g_bipush (pc1 := 661) (v := nI 104) d_Mod_init_659 rfl (by decide) ?_
  refine g_bipush (pc1 := 663) (v := nI 101) d_Mod_init_661 rfl (by decide) ?_
  refine g_bipush (pc1 := 665) (v := nI 97) d_Mod_init_663 rfl (by decide) ?_
  refine g_bipush (pc1 := 667) (v := nI 116) d_Mod_init_665 rfl (by decide) ?_
  refine g_iconst (pc1 := 668) (v := nI 0) d_Mod_init_667 rfl (by decide) ?_
  refine g_iconst (pc1 := 669) (v := nI 0) d_Mod_init_668 rfl (by decide) ?_
  refine g_iconst (pc1 := 670) (v := nI 0) d_Mod_init_669 rfl (by decide) ?_
  refine g_callS (E' := (0, 0, 447)) (pc1 := 673) (As := [.int (nI 104), .int (nI 101), .int (nI 97), .int (nI 116), .int (nI 0), .int (nI 0), .int (nI 0)]) (rest := [.int (nI 13), .ref 408]) d_Mod_init_670 rfl mo_Mod_159 ms_Mod_word (by decide) rfl rfl (Nat.le_of_ble_eq_true rfl) ⟨Nat.le_of_ble_eq_true rfl, Nat.le_of_ble_eq_true rfl⟩ rfl ?_
  refine x_Mod_word ?_
  dsimp only [psh]
  refine Wp.vall (y := 161156) (by decide +kernel) ?_
  refine g_last (pc1 := 674) d_Mod_init_673 rfl sh_408 (by decide) (vp_in_nI (n := 13) (by omega) (by decide)) ?_
  rw [nI_clamp (n := 13) (by omega)]
  refine Wp.topL (fun L173 eL173 => ?_)
  refine g_aload_n (pc1 := 675) d_Mod_init_674 rfl 0 rfl ?_
  refine g_getr (pc1 := 678) d_Mod_init_675 rfl ⟨_, fo_Mod_34⟩ sh_401 (by decide) (rf_401_9 12) ?_
  refine g_bipush (pc1 := 680) (v := nI 14) d_Mod_init_678 rfl (by decide) ?_
  refine g_bipush (pc1 := 682) (v := nI 107) d_Mod_init_680 rfl (by decide) ?_
  refine g_bipush (pc1 := 684) (v := nI 105) d_Mod_init_682 rfl (by decide) ?_
  refine g_bipush (pc1 := 686) (v := nI 110) d_Mod_init_684 rfl (by decide) ?_
  refine g_bipush (pc1 := 688) (v := nI 100) d_Mod_init_686 rfl (by decide) ?_
  refine g_iconst (pc1 := 689) (v := nI 0) d_Mod_init_688 rfl (by decide) ?_
  refine g_iconst (pc1 := 690) (v := nI 0) d_Mod_init_689 rfl (by decide) ?_
  refine g_iconst (pc1 := 691) (v := nI 0) d_Mod_init_690 rfl (by decide) ?_
  refine g_callS (E' := (0, 0, 447)) (pc1 := 694) (As := [.int (nI 107), .int (nI 105), .int (nI 110), .int (nI 100), .int (nI 0), .int (nI 0), .int (nI 0)]) (rest := [.int (nI 14), .ref 408]) d_Mod_init_691 rfl mo_Mod_159 ms_Mod_word (by decide) rfl rfl (Nat.le_of_ble_eq_true rfl) ⟨Nat.le_of_ble_eq_true rfl, Nat.le_of_ble_eq_true rfl⟩ rfl ?_
  refine x_Mod_word ?_
  dsimp only [psh]
  refine Wp.vall (y := 223456) (by decide +kernel) ?_
  refine g_last (pc1 := 695) d_Mod_init_694 rfl sh_408 (by decide) (vp_in_nI (n := 14) (by omega) (by decide)) ?_
  rw [nI_clamp (n := 14) (by omega)]
  refine Wp.topL (fun L174 eL174 => ?_)
  refine g_aload_n (pc1 := 696) d_Mod_init_695 rfl 0 rfl ?_
  refine g_getr (pc1 := 699) d_Mod_init_696 rfl ⟨_, fo_Mod_34⟩ sh_401 (by decide) (rf_401_9 12) ?_
  refine g_bipush (pc1 := 701) (v := nI 15) d_Mod_init_699 rfl (by decide) ?_
  refine g_bipush (pc1 := 703) (v := nI 109) d_Mod_init_701 rfl (by decide) ?_
  refine g_bipush (pc1 := 705) (v := nI 97) d_Mod_init_703 rfl (by decide) ?_
  refine g_bipush (pc1 := 707) (v := nI 110) d_Mod_init_705 rfl (by decide) ?_
  refine g_bipush (pc1 := 709) (v := nI 121) d_Mod_init_707 rfl (by decide) ?_
  refine g_iconst (pc1 := 710) (v := nI 0) d_Mod_init_709 rfl (by decide) ?_
  refine g_iconst (pc1 := 711) (v := nI 0) d_Mod_init_710 rfl (by decide) ?_
  refine g_iconst (pc1 := 712) (v := nI 0) d_Mod_init_711 rfl (by decide) ?_
  refine g_callS (E' := (0, 0, 447)) (pc1 := 715) (As := [.int (nI 109), .int (nI 97), .int (nI 110), .int (nI 121), .int (nI 0), .int (nI 0), .int (nI 0)]) (rest := [.int (nI 15), .ref 408]) d_Mod_init_712 rfl mo_Mod_159 ms_Mod_word (by decide) rfl rfl (Nat.le_of_ble_eq_true rfl) ⟨Nat.le_of_ble_eq_true rfl, Nat.le_of_ble_eq_true rfl⟩ rfl ?_
  refine x_Mod_word ?_
  dsimp only [psh]
  refine Wp.vall (y := 257011) (by decide +kernel) ?_
  refine g_last (pc1 := 716) d_Mod_init_715 rfl sh_408 (by decide) (vp_in_nI (n := 15) (by omega) (by decide)) ?_
  rw [nI_clamp (n := 15) (by omega)]
  refine Wp.topL (fun L175 eL175 => ?_)
  refine g_aload_n (pc1 := 717) d_Mod_init_716 rfl 0 rfl ?_
  refine g_getr (pc1 := 720) d_Mod_init_717 rfl ⟨_, fo_Mod_34⟩ sh_401 (by decide) (rf_401_9 12) ?_
  refine g_bipush (pc1 := 722) (v := nI 16) d_Mod_init_720 rfl (by decide) ?_
  refine g_bipush (pc1 := 724) (v := nI 100) d_Mod_init_722 rfl (by decide) ?_
  refine g_bipush (pc1 := 726) (v := nI 97) d_Mod_init_724 rfl (by decide) ?_
  refine g_bipush (pc1 := 728) (v := nI 121) d_Mod_init_726 rfl (by decide) ?_
  refine g_iconst (pc1 := 729) (v := nI 0) d_Mod_init_728 rfl (by decide) ?_
  refine g_iconst (pc1 := 730) (v := nI 0) d_Mod_init_729 rfl (by decide) ?_
  refine g_iconst (pc1 := 731) (v := nI 0) d_Mod_init_730 rfl (by decide) ?_
  refine g_iconst (pc1 := 732) (v := nI 0) d_Mod_init_731 rfl (by decide) ?_
  refine g_callS (E' := (0, 0, 447)) (pc1 := 735) (As := [.int (nI 100), .int (nI 97), .int (nI 121), .int (nI 0), .int (nI 0), .int (nI 0), .int (nI 0)]) (rest := [.int (nI 16), .ref 408]) d_Mod_init_732 rfl mo_Mod_159 ms_Mod_word (by decide) rfl rfl (Nat.le_of_ble_eq_true rfl) ⟨Nat.le_of_ble_eq_true rfl, Nat.le_of_ble_eq_true rfl⟩ rfl ?_
  refine x_Mod_word ?_
  dsimp only [psh]
  refine Wp.vall (y := 2968) (by decide +kernel) ?_
  refine g_last (pc1 := 736) d_Mod_init_735 rfl sh_408 (by decide) (vp_in_nI (n := 16) (by omega) (by decide)) ?_
  rw [nI_clamp (n := 16) (by omega)]
  refine Wp.topL (fun L176 eL176 => ?_)
  refine g_aload_n (pc1 := 737) d_Mod_init_736 rfl 0 rfl ?_
  refine g_getr (pc1 := 740) d_Mod_init_737 rfl ⟨_, fo_Mod_34⟩ sh_401 (by decide) (rf_401_9 12) ?_
  refine g_bipush (pc1 := 742) (v := nI 17) d_Mod_init_740 rfl (by decide) ?_
  refine g_bipush (pc1 := 744) (v := nI 112) d_Mod_init_742 rfl (by decide) ?_
  refine g_bipush (pc1 := 746) (v := nI 97) d_Mod_init_744 rfl (by decide) ?_
  refine g_bipush (pc1 := 748) (v := nI 108) d_Mod_init_746 rfl (by decide) ?_
  refine g_bipush (pc1 := 750) (v := nI 97) d_Mod_init_748 rfl (by decide) ?_
  refine g_bipush (pc1 := 752) (v := nI 116) d_Mod_init_750 rfl (by decide) ?_
  refine g_bipush (pc1 := 754) (v := nI 101) d_Mod_init_752 rfl (by decide) ?_
  refine g_iconst (pc1 := 755) (v := nI 0) d_Mod_init_754 rfl (by decide) ?_
  refine g_callS (E' := (0, 0, 447)) (pc1 := 758) (As := [.int (nI 112), .int (nI 97), .int (nI 108), .int (nI 97), .int (nI 116), .int (nI 101), .int (nI 0)]) (rest := [.int (nI 17), .ref 408]) d_Mod_init_755 rfl mo_Mod_159 ms_Mod_word (by decide) rfl rfl (Nat.le_of_ble_eq_true rfl) ⟨Nat.le_of_ble_eq_true rfl, Nat.le_of_ble_eq_true rfl⟩ rfl ?_
  refine x_Mod_word ?_
  dsimp only [psh]
  refine Wp.vall (y := 230351423) (by decide +kernel) ?_
  refine g_last (pc1 := 759) d_Mod_init_758 rfl sh_408 (by decide) (vp_in_nI (n := 17) (by omega) (by decide)) ?_
  rw [nI_clamp (n := 17) (by omega)]
  refine Wp.topL (fun L177 eL177 => ?_)
  refine g_aload_n (pc1 := 760) d_Mod_init_759 rfl 0 rfl ?_
  refine g_getr (pc1 := 763) d_Mod_init_760 rfl ⟨_, fo_Mod_34⟩ sh_401 (by decide) (rf_401_9 12) ?_
  refine g_bipush (pc1 := 765) (v := nI 18) d_Mod_init_763 rfl (by decide) ?_
  refine g_bipush (pc1 := 767) (v := nI 97) d_Mod_init_765 rfl (by decide) ?_
  refine g_bipush (pc1 := 769) (v := nI 103) d_Mod_init_767 rfl (by decide) ?_
  refine g_bipush (pc1 := 771) (v := nI 111) d_Mod_init_769 rfl (by decide) ?_
  refine g_iconst (pc1 := 772) (v := nI 0) d_Mod_init_771 rfl (by decide) ?_
  refine g_iconst (pc1 := 773) (v := nI 0) d_Mod_init_772 rfl (by decide) ?_
  refine g_iconst (pc1 := 774) (v := nI 0) d_Mod_init_773 rfl (by decide) ?_
  refine g_iconst (pc1 := 775) (v := nI 0) d_Mod_init_774 rfl (by decide) ?_
  refine g_callS (E' := (0, 0, 447)) (pc1 := 778) (As := [.int (nI 97), .int (nI 103), .int (nI 111), .int (nI 0), .int (nI 0), .int (nI 0), .int (nI 0)]) (rest := [.int (nI 18), .ref 408]) d_Mod_init_775 rfl mo_Mod_159 ms_Mod_word (by decide) rfl rfl (Nat.le_of_ble_eq_true rfl) ⟨Nat.le_of_ble_eq_true rfl, Nat.le_of_ble_eq_true rfl⟩ rfl ?_
  refine x_Mod_word ?_
  dsimp only [psh]
  refine Wp.vall (y := 933) (by decide +kernel) ?_
  refine g_last (pc1 := 779) d_Mod_init_778 rfl sh_408 (by decide) (vp_in_nI (n := 18) (by omega) (by decide)) ?_
  rw [nI_clamp (n := 18) (by omega)]
  refine Wp.topL (fun L178 eL178 => ?_)
  refine g_aload_n (pc1 := 780) d_Mod_init_779 rfl 0 rfl ?_
  refine g_getr (pc1 := 783) d_Mod_init_780 rfl ⟨_, fo_Mod_34⟩ sh_401 (by decide) (rf_401_9 12) ?_
  refine g_bipush (pc1 := 785) (v := nI 19) d_Mod_init_783 rfl (by decide) ?_
  refine g_bipush (pc1 := 787) (v := nI 115) d_Mod_init_785 rfl (by decide) ?_
  refine g_bipush (pc1 := 789) (v := nI 116) d_Mod_init_787 rfl (by decide) ?_
  refine g_bipush (pc1 := 791) (v := nI 111) d_Mod_init_789 rfl (by decide) ?_
  refine g_bipush (pc1 := 793) (v := nI 99) d_Mod_init_791 rfl (by decide) ?_
  refine g_bipush (pc1 := 795) (v := nI 107) d_Mod_init_793 rfl (by decide) ?_
  refine g_iconst (pc1 := 796) (v := nI 0) d_Mod_init_795 rfl (by decide) ?_
  refine g_iconst (pc1 := 797) (v := nI 0) d_Mod_init_796 rfl (by decide) ?_
  refine g_callS (E' := (0, 0, 447)) (pc1 := 800) (As := [.int (nI 115), .int (nI 116), .int (nI 111), .int (nI 99), .int (nI 107), .int (nI 0), .int (nI 0)]) (rest := [.int (nI 19), .ref 408]) d_Mod_init_797 rfl mo_Mod_159 ms_Mod_word (by decide) rfl rfl (Nat.le_of_ble_eq_true rfl) ⟨Nat.le_of_ble_eq_true rfl, Nat.le_of_ble_eq_true rfl⟩ rfl ?_
  refine x_Mod_word ?_
  dsimp only [psh]
  refine Wp.vall (y := 10502066) (by decide +kernel) ?_
  refine g_last (pc1 := 801) d_Mod_init_800 rfl sh_408 (by decide) (vp_in_nI (n := 19) (by omega) (by decide)) ?_
  rw [nI_clamp (n := 19) (by omega)]
  refine Wp.topL (fun L179 eL179 => ?_)
  refine g_aload_n (pc1 := 802) d_Mod_init_801 rfl 0 rfl ?_
  refine g_getr (pc1 := 805) d_Mod_init_802 rfl ⟨_, fo_Mod_34⟩ sh_401 (by decide) (rf_401_9 12) ?_
  refine g_bipush (pc1 := 807) (v := nI 20) d_Mod_init_805 rfl (by decide) ?_
  refine g_bipush (pc1 := 809) (v := nI 112) d_Mod_init_807 rfl (by decide) ?_
  refine g_bipush (pc1 := 811) (v := nI 114) d_Mod_init_809 rfl (by decide) ?_
  refine g_bipush (pc1 := 813) (v := nI 105) d_Mod_init_811 rfl (by decide) ?_
  refine g_bipush (pc1 := 815) (v := nI 99) d_Mod_init_813 rfl (by decide) ?_
  refine g_bipush (pc1 := 817) (v := nI 101) d_Mod_init_815 rfl (by decide) ?_
  refine g_iconst (pc1 := 818) (v := nI 0) d_Mod_init_817 rfl (by decide) ?_
  refine g_iconst (pc1 := 819) (v := nI 0) d_Mod_init_818 rfl (by decide) ?_
  refine g_callS (E' := (0, 0, 447)) (pc1 := 822) (As := [.int (nI 112), .int (nI 114), .int (nI 105), .int (nI 99), .int (nI 101), .int (nI 0), .int (nI 0)]) (rest := [.int (nI 20), .ref 408]) d_Mod_init_819 rfl mo_Mod_159 ms_Mod_word (by decide) rfl rfl (Nat.le_of_ble_eq_true rfl) ⟨Nat.le_of_ble_eq_true rfl, Nat.le_of_ble_eq_true rfl⟩ rfl ?_
  refine x_Mod_word ?_
  dsimp only [psh]
  refine Wp.vall (y := 8863997) (by decide +kernel) ?_
  refine g_last (pc1 := 823) d_Mod_init_822 rfl sh_408 (by decide) (vp_in_nI (n := 20) (by omega) (by decide)) ?_
  rw [nI_clamp (n := 20) (by omega)]
  refine Wp.topL (fun L180 eL180 => ?_)
  refine g_aload_n (pc1 := 824) d_Mod_init_823 rfl 0 rfl ?_
  refine g_callV (E' := (0, 0, 447)) (pc1 := 827) (As := []) (rest := []) d_Mod_init_824 rfl mo_Mod_163 mi_Mod_begins mv_Mod_begins rfl sh_401 (by decide) (by decide) rfl rfl (Nat.le_of_ble_eq_true rfl) ⟨Nat.le_of_ble_eq_true rfl, Nat.le_of_ble_eq_true rfl⟩ rfl ?_
  refine x_Mod_begins (lv := 0) (F := 0) (by rw [eM159, eM120]; exact (hF0 401 (Nat.le_refl _) 18).1) (by decide) (by rw [eM159]; rfl) (by decide) ?_
  dsimp only [psh]
  refine Wp.topM (fun M181 eM181 => ?_)
  refine g_aload_n (pc1 := 828) d_Mod_init_827 rfl 0 rfl ?_
  refine g_callV (E' := (0, 0, 447)) (pc1 := 831) (As := []) (rest := []) d_Mod_init_828 rfl mo_Mod_166 mi_Mod_keepsRow mv_Mod_keepsRow rfl sh_401 (by decide) (by decide) rfl rfl (Nat.le_of_ble_eq_true rfl) ⟨Nat.le_of_ble_eq_true rfl, Nat.le_of_ble_eq_true rfl⟩ rfl ?_
  refine x_Mod_keepsRow ?_
  dsimp only [psh]
  refine Wp.topM (fun M182 eM182 => ?_)
  refine g_return rfl d_Mod_init_831 rfl ?_
  subst_vars
  exact hQ
end MG3x1
section MG3x2
set_option maxRecDepth 100000
def upR : List (Nat × Nat × Nat) → gR → gR
  | [], R => R
  | (a, j, x) :: t, R => upR t (uR R a j (some x))
def lstR : List (Nat × Nat × Nat) := [(1, 0, 2), (0, 0, 1), (4, 0, 5), (4, 1, 6), (4, 2, 7), (4, 3, 8), (3, 0, 4), (3, 6, 9), (3, 7, 10), (3, 9, 11), (0, 1, 3), (12, 5, 13), (12, 6, 14), (12, 7, 15), (12, 8, 16), (12, 9, 17), (12, 10, 18), (12, 11, 19), (12, 12, 20), (21, 0, 22), (21, 2, 23), (21, 3, 24), (12, 13, 21), (25, 0, 26), (25, 2, 27), (25, 3, 28), (12, 14, 25), (29, 0, 30), (29, 2, 31), (29, 3, 32), (12, 15, 29), (33, 0, 34), (33, 2, 35), (33, 3, 36), (12, 16, 33), (12, 17, 37), (0, 2, 12), (38, 5, 39), (38, 6, 40), (38, 7, 41), (38, 8, 42), (38, 9, 43), (38, 10, 44), (38, 11, 45), (38, 12, 46), (47, 0, 48), (47, 2, 49), (47, 3, 50), (38, 13, 47), (51, 0, 52), (51, 2, 53), (51, 3, 54), (38, 14, 51), (55, 0, 56), (55, 2, 57), (55, 3, 58), (38, 15, 55), (59, 0, 60), (59, 2, 61), (59, 3, 62), (38, 16, 59), (38, 17, 63), (0, 3, 38), (64, 4, 65), (64, 5, 66), (64, 6, 67), (64, 7, 68), (64, 8, 69), (64, 9, 70), (0, 4, 64), (71, 4, 72), (71, 5, 73), (71, 6, 74), (71, 7, 75), (71, 8, 76), (71, 9, 77), (0, 5, 71), (78, 0, 79), (80, 4, 81), (80, 5, 82), (80, 6, 83), (80, 7, 84), (80, 8, 85), (80, 9, 86), (79, 0, 80), (87, 4, 88), (87, 5, 89), (87, 6, 90), (87, 7, 91), (87, 8, 92), (87, 9, 93), (79, 1, 87), (94, 4, 95), (94, 5, 96), (94, 6, 97), (94, 7, 98), (94, 8, 99), (94, 9, 100), (79, 2, 94), (101, 4, 102), (101, 5, 103), (101, 6, 104), (101, 7, 105), (101, 8, 106), (101, 9, 107), (79, 3, 101), (108, 4, 109), (108, 5, 110), (108, 6, 111), (108, 7, 112), (108, 8, 113), (108, 9, 114), (79, 4, 108), (115, 4, 116), (115, 5, 117), (115, 6, 118), (115, 7, 119), (115, 8, 120), (115, 9, 121), (79, 5, 115), (122, 4, 123), (122, 5, 124), (122, 6, 125), (122, 7, 126), (122, 8, 127), (122, 9, 128), (79, 6, 122), (129, 4, 130), (129, 5, 131), (129, 6, 132), (129, 7, 133), (129, 8, 134), (129, 9, 135), (79, 7, 129), (136, 4, 137), (136, 5, 138), (136, 6, 139), (136, 7, 140), (136, 8, 141), (136, 9, 142), (79, 8, 136), (143, 4, 144), (143, 5, 145), (143, 6, 146), (143, 7, 147), (143, 8, 148), (143, 9, 149), (79, 9, 143), (150, 4, 151), (150, 5, 152), (150, 6, 153), (150, 7, 154), (150, 8, 155), (150, 9, 156), (79, 10, 150), (157, 4, 158), (157, 5, 159), (157, 6, 160), (157, 7, 161), (157, 8, 162), (157, 9, 163), (79, 11, 157), (164, 4, 165), (164, 5, 166), (164, 6, 167), (164, 7, 168), (164, 8, 169), (164, 9, 170), (79, 12, 164), (171, 4, 172), (171, 5, 173), (171, 6, 174), (171, 7, 175), (171, 8, 176), (171, 9, 177), (79, 13, 171), (178, 4, 179), (178, 5, 180), (178, 6, 181), (178, 7, 182), (178, 8, 183), (178, 9, 184), (79, 14, 178), (185, 4, 186), (185, 5, 187), (185, 6, 188), (185, 7, 189), (185, 8, 190), (185, 9, 191), (79, 15, 185), (192, 4, 193), (192, 5, 194), (192, 6, 195), (192, 7, 196), (192, 8, 197), (192, 9, 198), (79, 16, 192), (199, 4, 200), (199, 5, 201), (199, 6, 202), (199, 7, 203), (199, 8, 204), (199, 9, 205), (79, 17, 199), (206, 4, 207), (206, 5, 208), (206, 6, 209), (206, 7, 210), (206, 8, 211), (206, 9, 212), (79, 18, 206), (213, 4, 214), (213, 5, 215), (213, 6, 216), (213, 7, 217), (213, 8, 218), (213, 9, 219), (79, 19, 213), (220, 4, 221), (220, 5, 222), (220, 6, 223), (220, 7, 224), (220, 8, 225), (220, 9, 226), (79, 20, 220), (227, 4, 228), (227, 5, 229), (227, 6, 230), (227, 7, 231), (227, 8, 232), (227, 9, 233), (79, 21, 227), (234, 4, 235), (234, 5, 236), (234, 6, 237), (234, 7, 238), (234, 8, 239), (234, 9, 240), (79, 22, 234), (241, 4, 242), (241, 5, 243), (241, 6, 244), (241, 7, 245), (241, 8, 246), (241, 9, 247), (79, 23, 241), (248, 4, 249), (248, 5, 250), (248, 6, 251), (248, 7, 252), (248, 8, 253), (248, 9, 254), (79, 24, 248), (255, 4, 256), (255, 5, 257), (255, 6, 258), (255, 7, 259), (255, 8, 260), (255, 9, 261), (79, 25, 255), (262, 4, 263), (262, 5, 264), (262, 6, 265), (262, 7, 266), (262, 8, 267), (262, 9, 268), (79, 26, 262), (269, 4, 270), (269, 5, 271), (269, 6, 272), (269, 7, 273), (269, 8, 274), (269, 9, 275), (79, 27, 269), (276, 4, 277), (276, 5, 278), (276, 6, 279), (276, 7, 280), (276, 8, 281), (276, 9, 282), (79, 28, 276), (283, 4, 284), (283, 5, 285), (283, 6, 286), (283, 7, 287), (283, 8, 288), (283, 9, 289), (79, 29, 283), (290, 4, 291), (290, 5, 292), (290, 6, 293), (290, 7, 294), (290, 8, 295), (290, 9, 296), (79, 30, 290), (297, 4, 298), (297, 5, 299), (297, 6, 300), (297, 7, 301), (297, 8, 302), (297, 9, 303), (79, 31, 297), (304, 4, 305), (304, 5, 306), (304, 6, 307), (304, 7, 308), (304, 8, 309), (304, 9, 310), (79, 32, 304), (311, 4, 312), (311, 5, 313), (311, 6, 314), (311, 7, 315), (311, 8, 316), (311, 9, 317), (79, 33, 311), (318, 4, 319), (318, 5, 320), (318, 6, 321), (318, 7, 322), (318, 8, 323), (318, 9, 324), (79, 34, 318), (325, 4, 326), (325, 5, 327), (325, 6, 328), (325, 7, 329), (325, 8, 330), (325, 9, 331), (79, 35, 325), (332, 4, 333), (332, 5, 334), (332, 6, 335), (332, 7, 336), (332, 8, 337), (332, 9, 338), (79, 36, 332), (339, 4, 340), (339, 5, 341), (339, 6, 342), (339, 7, 343), (339, 8, 344), (339, 9, 345), (79, 37, 339), (346, 4, 347), (346, 5, 348), (346, 6, 349), (346, 7, 350), (346, 8, 351), (346, 9, 352), (79, 38, 346), (353, 4, 354), (353, 5, 355), (353, 6, 356), (353, 7, 357), (353, 8, 358), (353, 9, 359), (79, 39, 353), (0, 6, 78), (360, 0, 361), (362, 4, 363), (362, 5, 364), (362, 6, 365), (362, 7, 366), (362, 8, 367), (362, 9, 368), (361, 0, 362), (369, 4, 370), (369, 5, 371), (369, 6, 372), (369, 7, 373), (369, 8, 374), (369, 9, 375), (361, 1, 369), (376, 4, 377), (376, 5, 378), (376, 6, 379), (376, 7, 380), (376, 8, 381), (376, 9, 382), (361, 2, 376), (0, 7, 360), (383, 0, 384), (383, 1, 385), (383, 2, 386), (383, 4, 387), (383, 5, 388), (383, 6, 389), (383, 8, 390), (0, 8, 383), (391, 0, 392), (391, 1, 393), (391, 2, 394), (391, 5, 395), (0, 9, 391), (396, 0, 397), (396, 1, 398), (396, 2, 399), (396, 3, 400), (0, 10, 396), (401, 1, 402), (401, 3, 403), (401, 5, 404), (401, 6, 405), (401, 7, 406), (401, 8, 407), (401, 9, 408), (401, 21, 409), (401, 22, 410), (401, 23, 411), (401, 24, 412), (401, 25, 413), (401, 26, 414), (401, 27, 415), (401, 28, 416), (401, 29, 417), (401, 30, 418), (401, 31, 419), (401, 32, 420), (401, 33, 421), (401, 34, 422), (401, 35, 423), (401, 36, 424), (401, 37, 425), (401, 39, 426), (401, 40, 427), (401, 41, 428), (401, 42, 429), (401, 43, 430), (401, 45, 431), (401, 46, 432), (401, 47, 433), (401, 49, 434), (401, 50, 435), (401, 52, 436), (401, 53, 437), (401, 55, 438), (401, 56, 439), (401, 58, 440), (401, 65, 441), (401, 66, 442), (401, 67, 443), (401, 68, 444), (401, 69, 445), (401, 70, 446)]
def R00 : gR := fun _ _ => none
theorem kR_start : kR_Mod_init (kR_Main_init R00) = upR lstR R00 := rfl
theorem upR_none {c j : Nat} : ∀ (t : List (Nat × Nat × Nat)) (R : gR), (∀ u ∈ t, ¬ (u.1 = c ∧ u.2.1 = j)) → upR t R c j = R c j
  | [], R, _ => rfl
  | (a, i, x) :: t, R, h => by
    show upR t (uR R a i (some x)) c j = R c j
    rw [upR_none t _ (fun u hu => h u (List.mem_cons_of_mem _ hu)), uR_at, if_neg]
    intro q
    exact h (a, i, x) (List.mem_cons_self ..) ⟨q.1.symm, q.2.symm⟩
theorem lst_79 : ∀ u ∈ lstR, (u.1 = 79 → u.2.1 < 40) ∧ (u.1 = 361 → u.2.1 < 3) := by decide +kernel
theorem R_obj : ∀ a, a < 447 → (SH a).1 = 0 → ∀ q ∈ fks (SH a).2, q.1 ≠ 0 → q.1 ≠ 2 → upR lstR R00 a q.2 = rf 12 a q.2 := by decide +kernel
theorem R_5 : ∀ a, a < 447 → (SH a).1 = 5 → a = 79 ∨ a = 361 := by decide +kernel
theorem R_79 : ∀ j, j < 40 → upR lstR R00 79 j = rf 12 79 j := by decide +kernel
theorem R_361 : ∀ j, j < 3 → upR lstR R00 361 j = rf 12 361 j := by decide +kernel
theorem rf_none {a j : Nat} (h0 : a ≠ 0) (h : (rft.getD a []).length ≤ j) : rf 12 a j = none := by
  unfold rf
  rw [if_neg (fun q => h0 q.1), if_neg (fun q => h0 q.1), List.getD_eq_getElem?_getD (i := j), List.getElem?_eq_none h]
  rfl
theorem R_start : sameR 447 (kR_Mod_init (kR_Main_init R00)) (rf 12) := by
  rw [kR_start]
  intro a ha
  refine ⟨fun ci hs q hq h1 h2 => R_obj a ha (by rw [hs]) q (by rw [hs]; exact hq) h1 h2, fun hs j => ?_⟩
  rcases R_5 a ha hs with rfl | rfl
  · rcases Nat.lt_or_ge j 40 with h | h
    · exact R_79 j h
    · rw [upR_none _ _ (fun u hu q => absurd ((lst_79 u hu).1 q.1) (by omega)), rf_none (by decide) (Nat.le_trans (by decide +kernel) h)]
      rfl
  · rcases Nat.lt_or_ge j 3 with h | h
    · exact R_361 j h
    · rw [upR_none _ _ (fun u hu q => absurd ((lst_79 u hu).2 q.1) (by omega)), rf_none (by decide) (Nat.le_trans (by decide +kernel) h)]
      rfl
end MG3x2
section MG3x3
/-! methods as functions: loops, steps -/
def lpK {α : Type} (body : α → α) (bot : α) : Nat → α
  | 0 => bot
  | n + 1 => body (lpK body bot n)
def FU : Nat := 8589934592
def nmM {τ : Type} (v : gM) (f : gM → Option τ) : Option τ := f v
def nmL {τ : Type} (v : gL) (f : gL → Option τ) : Option τ := f v
def nmI {τ : Type} (v : Int32) (f : Int32 → Option τ) : Option τ := f v
def nmJ {τ : Type} (v : Int64) (f : Int64 → Option τ) : Option τ := f v
def bI {α β : Type} (o : Option α) (f : α → Option β) : Option β := match o with
  | some a => f a
  | none => none
theorem bnd {α β : Type} {o : Option α} {f : α → Option β} {r : β} (h : bI o f = some r) : ∃ q, o = some q ∧ f q = some r := by
  cases o with
  | none => cases h
  | some a => exact ⟨a, rfl, h⟩
def bI2 {α β γ : Type} (o : Option (α × β)) (f : α → β → Option γ) : Option γ := match o with
  | some (a, b) => f a b
  | none => none
def bI3 {α β γ δ : Type} (o : Option (α × β × γ)) (f : α → β → γ → Option δ) : Option δ := match o with
  | some (a, b, c) => f a b c
  | none => none
def bI4 {α β γ δ ε : Type} (o : Option (α × β × γ × δ)) (f : α → β → γ → δ → Option ε) : Option ε := match o with
  | some (a, b, c, d) => f a b c d
  | none => none
theorem bnd2 {α β γ : Type} {o : Option (α × β)} {f : α → β → Option γ} {r : γ} (h : bI2 o f = some r) : ∃ a b, o = some (a, b) ∧ f a b = some r := by
  cases o with
  | none => cases h
  | some q => exact ⟨q.1, q.2, rfl, h⟩
theorem bnd3 {α β γ δ : Type} {o : Option (α × β × γ)} {f : α → β → γ → Option δ} {r : δ} (h : bI3 o f = some r) : ∃ a b c, o = some (a, b, c) ∧ f a b c = some r := by
  cases o with
  | none => cases h
  | some q => exact ⟨q.1, q.2.1, q.2.2, rfl, h⟩
theorem bnd4 {α β γ δ ε : Type} {o : Option (α × β × γ × δ)} {f : α → β → γ → δ → Option ε} {r : ε} (h : bI4 o f = some r) : ∃ a b c d, o = some (a, b, c, d) ∧ f a b c d = some r := by
  cases o with
  | none => cases h
  | some q => exact ⟨q.1, q.2.1, q.2.2.1, q.2.2.2, rfl, h⟩
theorem itp {τ : Type} {c : Prop} [Decidable c] {a b : Option τ} {r : τ} (h : (if c then a else b) = some r) (hc : c) : a = some r := by rw [if_pos hc] at h; exact h
theorem itn {τ : Type} {c : Prop} [Decidable c] {a b : Option τ} {r : τ} (h : (if c then a else b) = some r) (hc : ¬ c) : b = some r := by rw [if_neg hc] at h; exact h
theorem gdn {τ : Type} {c : Prop} [Decidable c] {b : Option τ} {r : τ} (h : (if c then none else b) = some r) : ¬ c ∧ b = some r := by
  by_cases hc : c
  · rw [if_pos hc] at h; cases h
  · rw [if_neg hc] at h; exact ⟨hc, h⟩
theorem gdp {τ : Type} {c : Prop} [Decidable c] {b : Option τ} {r : τ} (h : (if c then b else none) = some r) : c ∧ b = some r := by
  by_cases hc : c
  · rw [if_pos hc] at h; exact ⟨hc, h⟩
  · rw [if_neg hc] at h; cases h
theorem ltI {τ : Type} {v : Int32} {f : Int32 → Option τ} {r : τ} (h : nmI v f = some r) : ∃ x, x = v ∧ f x = some r := ⟨v, rfl, h⟩
theorem rfA_79 (ld : Nat) {i : Int32} (h : vp_in i 40) : isSt (80 + 7 * i.toNatClampNeg) ∧ rf ld 79 i.toNatClampNeg = some (80 + 7 * i.toNatClampNeg) := by
  have hi : i.toNatClampNeg < 40 := Nat.not_le.mp fun q => h (Or.inr q)
  exact (by decide +kernel : ∀ j, j < 40 → (80 + 7 * j) ∈ lSt ∧ rfd ((rft.getD 79 []).getD j 0) = some (80 + 7 * j)) _ hi
theorem rfA_361 (ld : Nat) {i : Int32} (h : vp_in i 3) : isSt (362 + 7 * i.toNatClampNeg) ∧ rf ld 361 i.toNatClampNeg = some (362 + 7 * i.toNatClampNeg) := by
  have hi : i.toNatClampNeg < 3 := Nat.not_le.mp fun q => h (Or.inr q)
  exact (by decide +kernel : ∀ j, j < 3 → (362 + 7 * j) ∈ lSt ∧ rfd ((rft.getD 361 []).getD j 0) = some (362 + 7 * j)) _ hi
theorem rf_sw {ld : Nat} (h : isLa ld) : uR (uR (rf ld) 0 2 (some (50 - ld))) 0 3 (some ld) = rf (50 - ld) := by
  have hl : 50 - (50 - ld) = ld := (by decide +kernel : ∀ x ∈ lLa, 50 - (50 - x) = x) ld h
  funext c j
  rw [uR_at, uR_at]
  unfold rf
  by_cases h3 : c = 0 ∧ j = 3
  · rw [if_pos h3, if_neg (fun q => by omega), if_pos h3, hl]
  · rw [if_neg h3]
    by_cases h2 : c = 0 ∧ j = 2
    · rw [if_pos h2, if_pos h2]
    · rw [if_neg h2, if_neg h2, if_neg h3, if_neg h2, if_neg h3]
section RULES9
variable {l : Launch} {Y : gY} {E : Nat × Nat × Nat} {n k z pc pc1 : Nat} {lv lv' : List (Nat × Value)} {st : List Value} {M : gM} {L : gL} {R : gR} {Q : Option Value → gM → gL → gR → Prop} {τ : Type} {r : τ}
theorem Wp.eqRR {R' : gR} (h : R = R') (kk : Wp l Y E n k z pc lv st M L R' Q) : Wp l Y E n k z pc lv st M L R Q := by rw [h]; exact kk
theorem Wp.lM {v : gM} {f : gM → Option τ} (h : nmM v f = some r) (kk : ∀ M1, f M1 = some r → Wp l Y E n k z pc lv st M1 L R Q) : Wp l Y E n k z pc lv st v L R Q := kk v h
theorem Wp.lL {v : gL} {f : gL → Option τ} (h : nmL v f = some r) (kk : ∀ L1, f L1 = some r → Wp l Y E n k z pc lv st M L1 R Q) : Wp l Y E n k z pc lv st M v R Q := kk v h
theorem Wp.lI {v : Int32} {f : Int32 → Option τ} (h : nmI v f = some r) (kk : ∀ x, f x = some r → Wp l Y E n k z pc lv (.int x :: st) M L R Q) : Wp l Y E n k z pc lv (.int v :: st) M L R Q := kk v h
theorem Wp.lJ {v : Int64} {f : Int64 → Option τ} (h : nmJ v f = some r) (kk : ∀ x, f x = some r → Wp l Y E n k z pc lv (.long x :: st) M L R Q) : Wp l Y E n k z pc lv (.long v :: st) M L R Q := kk v h
end RULES9
end MG3x3
