def J_Mod_isPot_70 (M : gM) : Option (Int32 × gM) :=
  bI (F_Mod_potMany M) (fun r3 => bI (F_Mod_in r3 1 6) (fun r5 => (if r5 = 0 ∨ r5 = 1 then some (r5, M) else none)))
set_option maxHeartbeats 4000000 in
set_option maxRecDepth 20000 in
theorem j_Mod_isPot_70 {l : Launch} {ld : Nat} {Q : Option Value → gM → gL → gR → Prop} (hld : isLa ld)   {q : Int32 × gM} {M : gM} {L : gL} (hQ : Q (some (.int q.1)) q.2 L (rf ld))    (h : J_Mod_isPot_70 M = some q) : Wp l y_Mod_isPot (0, 0, 447) 447 0 0 70 [(0, .ref 401)] [] M L (rf ld) Q := by
  unfold J_Mod_isPot_70 at h
  refine g_aload_n (pc1 := 71) d_Mod_isPot_70 rfl 0 rfl ?_
  refine g_callV0 (pc1 := 74) (As := []) (rest := []) d_Mod_isPot_71 rfl mo_Mod_339 mi_Mod_potMany mv_Mod_potMany rfl sh_401 (by decide) (by decide) rfl rfl (Nat.le_of_ble_eq_true rfl) ?_
  obtain ⟨r3, hq2, h⟩ := bnd h
  refine f_Mod_potMany hld  hq2 ?_
  dsimp only [psh]
  refine g_iconst (pc1 := 75) (v := 1) d_Mod_isPot_74 rfl (by decide) ?_
  refine g_bipush (pc1 := 77) (v := 6) d_Mod_isPot_75 rfl (by decide) ?_
  refine g_callS0 (pc1 := 80) (As := [.int r3, .int 1, .int 6]) (rest := []) d_Mod_isPot_77 rfl mo_Mod_316 ms_Mod_in (by decide) rfl rfl (Nat.le_of_ble_eq_true rfl) ?_
  obtain ⟨r5, hq4, h⟩ := bnd h
  refine f_Mod_in hld  hq4 ?_
  dsimp only [psh]
  obtain ⟨g6, h⟩ := gdp h
  refine g_ireturn (Or.inr ⟨rfl, nar01 g6⟩) d_Mod_isPot_80 rfl ?_
  cases h; exact hQ
def J_Mod_isPot_64 (K2 : Int32 → gM → Option (Int32 × gM)) (v1 : Int32) (v2 : Int32) (M : gM) : Option (Int32 × gM) :=
  nmI (v2 + 1) (fun x14 => K2 x14 M)
set_option maxHeartbeats 4000000 in
set_option maxRecDepth 20000 in
theorem j_Mod_isPot_64 {l : Launch} {ld : Nat} {Q : Option Value → gM → gL → gR → Prop} (hld : isLa ld)   {q : Int32 × gM} {M : gM} {L : gL} (hQ : Q (some (.int q.1)) q.2 L (rf ld)) {K2 : Int32 → gM → Option (Int32 × gM)} {v1 : Int32} {v2 : Int32} (hK2 : ∀ (w2 : Int32) (M : gM), K2 w2 M = some q → Wp l y_Mod_isPot (0, 0, 447) 447 0 0 2 [(0, .ref 401), (1, .int v1), (2, .int w2)] [] M L (rf ld) Q) (h : J_Mod_isPot_64 K2 v1 v2 M = some q) : Wp l y_Mod_isPot (0, 0, 447) 447 0 0 64 [(0, .ref 401), (1, .int v1), (2, .int v2)] [] M L (rf ld) Q := by
  unfold J_Mod_isPot_64 at h
  obtain ⟨x14, ex14, h⟩ := ltI h
  refine g_iinc (pc1 := 67) (v := x14) (lv' := [(0, .ref 401), (1, .int v1), (2, .int x14)]) d_Mod_isPot_64 rfl 2 rfl (by rw [ex14]; rfl) (by decide) [1, 2, 0] rfl ?_
  refine g_goto (tgt := 2) d_Mod_isPot_67 (by decide) ?_
  exact hK2 x14 M h
def B_Mod_isPot_2 (v1 : Int32) (K2 : Int32 → gM → Option (Int32 × gM)) : Int32 → gM → Option (Int32 × gM) := fun v2 M =>
  (if 6 ≤ v2 then J_Mod_isPot_70 M else bI (F_Mod_sevens (5 - v2)) (fun r8 => (if r8 = 0 then none else (if (v2 : Int32) < 0 ∨ 6 ≤ (v2 : Int32).toNatClampNeg then none else nmM (uM M 438 (v2 : Int32).toNatClampNeg ((v1 / r8) - (v1 / r8) / 7 * 7)) (fun M11 => (if (v2 : Int32) < 0 ∨ 6 ≤ (v2 : Int32).toNatClampNeg then none else (if (M11 438 (v2 : Int32).toNatClampNeg) ≤ 0 then J_Mod_isPot_64 K2 v1 v2 M11 else (if ((M11 401 18) : Int32) < 0 ∨ 2 ≤ ((M11 401 18) : Int32).toNatClampNeg then none else (if (M11 411 ((M11 401 18) : Int32).toNatClampNeg) ≤ v2 then some (0, M11) else (if (v2 : Int32) < 0 ∨ 6 ≤ (v2 : Int32).toNatClampNeg then none else (if (v2 : Int32) < 0 ∨ 38 ≤ (v2 : Int32).toNatClampNeg then none else (if (M11 438 (v2 : Int32).toNatClampNeg) ≤ (M11 437 (v2 : Int32).toNatClampNeg) then J_Mod_isPot_64 K2 v1 v2 M11 else some (0, M11)))))))))))))
def H_Mod_isPot_2 (v1 : Int32) : Nat → Int32 → gM → Option (Int32 × gM) := lpK (B_Mod_isPot_2 v1) (fun _ _ => none)
set_option maxHeartbeats 4000000 in
set_option maxRecDepth 20000 in
theorem h_Mod_isPot_2 {l : Launch} {ld : Nat} {Q : Option Value → gM → gL → gR → Prop} (hld : isLa ld)   {q : Int32 × gM} {L : gL} (hQ : Q (some (.int q.1)) q.2 L (rf ld))  {v1 : Int32}  : ∀ (f : Nat) (v2 : Int32) (M : gM), H_Mod_isPot_2 v1 f v2 M = some q → Wp l y_Mod_isPot (0, 0, 447) 447 0 0 2 [(0, .ref 401), (1, .int v1), (2, .int v2)] [] M L (rf ld) Q := by
  intro f
  induction f with
  | zero => intro v2 M h; cases h
  | succ f hK2 =>
    intro v2 M h
    replace h : B_Mod_isPot_2 v1 (H_Mod_isPot_2 v1 f) v2 M = some q := h
    unfold B_Mod_isPot_2 at h
    refine g_iload_n (pc1 := 3) d_Mod_isPot_2 rfl 2 rfl ?_
    refine g_bipush (pc1 := 5) (v := 6) d_Mod_isPot_3 rfl (by decide) ?_
    refine g_icmp_ge (pc1 := 8) (tgt := 70) d_Mod_isPot_5 (by decide) rfl (fun c1 => ?_) (fun c1 => ?_)
    · replace h := itp h c1
      refine Wp.loc (lv' := [(0, .ref 401)]) [0] rfl ?_
      exact j_Mod_isPot_70 hld  hQ  h
    · replace h := itn h c1
      refine g_aload_n (pc1 := 9) d_Mod_isPot_8 rfl 0 rfl ?_
      refine g_getr (pc1 := 12) d_Mod_isPot_9 rfl ⟨_, fo_Mod_128⟩ sh_401 (by decide) (rf_401_55 ld) ?_
      refine g_iload_n (pc1 := 13) d_Mod_isPot_12 rfl 2 rfl ?_
      refine g_iload_n (pc1 := 14) d_Mod_isPot_13 rfl 1 rfl ?_
      refine g_iconst (pc1 := 15) (v := 5) d_Mod_isPot_14 rfl (by decide) ?_
      refine g_iload_n (pc1 := 16) d_Mod_isPot_15 rfl 2 rfl ?_
      refine g_isub (pc1 := 17) d_Mod_isPot_16 rfl ?_
      refine g_callS0 (pc1 := 20) (As := [.int (5 - v2)]) (rest := [.int v1, .int v2, .ref 438]) d_Mod_isPot_17 rfl mo_Mod_401 ms_Mod_sevens (by decide) rfl rfl (Nat.le_of_ble_eq_true rfl) ?_
      obtain ⟨r8, hq7, h⟩ := bnd h
      refine f_Mod_sevens hld  hq7 ?_
      dsimp only [psh]
      obtain ⟨g9, h⟩ := gdn h
      refine g_idiv (pc1 := 21) d_Mod_isPot_20 rfl g9 ?_
      refine g_bipush (pc1 := 23) (v := 7) d_Mod_isPot_21 rfl (by decide) ?_
      refine g_irem (pc1 := 24) d_Mod_isPot_23 rfl (by decide) ?_
      obtain ⟨g10, h⟩ := gdn h
      refine g_iast (pc1 := 25) d_Mod_isPot_24 rfl sh_438 (by decide) g10 ?_
      refine Wp.lM h (fun M11 h => ?_)
      refine g_aload_n (pc1 := 26) d_Mod_isPot_25 rfl 0 rfl ?_
      refine g_getr (pc1 := 29) d_Mod_isPot_26 rfl ⟨_, fo_Mod_128⟩ sh_401 (by decide) (rf_401_55 ld) ?_
      refine g_iload_n (pc1 := 30) d_Mod_isPot_29 rfl 2 rfl ?_
      obtain ⟨g12, h⟩ := gdn h
      refine g_iald (pc1 := 31) d_Mod_isPot_30 rfl sh_438 (by decide) g12 ?_
      refine g_if_le (pc1 := 34) (tgt := 64) d_Mod_isPot_31 (by decide) rfl (fun c13 => ?_) (fun c13 => ?_)
      · replace h := itp h c13
        exact j_Mod_isPot_64 hld  hQ hK2 h
      · replace h := itn h c13
        refine g_iload_n (pc1 := 35) d_Mod_isPot_34 rfl 2 rfl ?_
        refine g_aload_n (pc1 := 36) d_Mod_isPot_35 rfl 0 rfl ?_
        refine g_getr (pc1 := 39) d_Mod_isPot_36 rfl ⟨_, fo_Mod_46⟩ sh_401 (by decide) (rf_401_23 ld) ?_
        refine g_aload_n (pc1 := 40) d_Mod_isPot_39 rfl 0 rfl ?_
        refine g_geti (pc1 := 43) d_Mod_isPot_40 rfl ⟨_, fo_Mod_236⟩ sh_401 (by decide) ?_
        obtain ⟨g15, h⟩ := gdn h
        refine g_iald (pc1 := 44) d_Mod_isPot_43 rfl sh_411 (by decide) g15 ?_
        refine g_icmp_ge (pc1 := 47) (tgt := 62) d_Mod_isPot_44 (by decide) rfl (fun c16 => ?_) (fun c16 => ?_)
        · replace h := itp h c16
          refine g_iconst (pc1 := 63) (v := 0) d_Mod_isPot_62 rfl (by decide) ?_
          refine g_ireturn (Or.inr ⟨rfl, rfl⟩) d_Mod_isPot_63 rfl ?_
          cases h; exact hQ
        · replace h := itn h c16
          refine g_aload_n (pc1 := 48) d_Mod_isPot_47 rfl 0 rfl ?_
          refine g_getr (pc1 := 51) d_Mod_isPot_48 rfl ⟨_, fo_Mod_128⟩ sh_401 (by decide) (rf_401_55 ld) ?_
          refine g_iload_n (pc1 := 52) d_Mod_isPot_51 rfl 2 rfl ?_
          obtain ⟨g17, h⟩ := gdn h
          refine g_iald (pc1 := 53) d_Mod_isPot_52 rfl sh_438 (by decide) g17 ?_
          refine g_aload_n (pc1 := 54) d_Mod_isPot_53 rfl 0 rfl ?_
          refine g_getr (pc1 := 57) d_Mod_isPot_54 rfl ⟨_, fo_Mod_125⟩ sh_401 (by decide) (rf_401_53 ld) ?_
          refine g_iload_n (pc1 := 58) d_Mod_isPot_57 rfl 2 rfl ?_
          obtain ⟨g18, h⟩ := gdn h
          refine g_iald (pc1 := 59) d_Mod_isPot_58 rfl sh_437 (by decide) g18 ?_
          refine g_icmp_le (pc1 := 62) (tgt := 64) d_Mod_isPot_59 (by decide) rfl (fun c19 => ?_) (fun c19 => ?_)
          · replace h := itp h c19
            exact j_Mod_isPot_64 hld  hQ hK2 h
          · replace h := itn h c19
            refine g_iconst (pc1 := 63) (v := 0) d_Mod_isPot_62 rfl (by decide) ?_
            refine g_ireturn (Or.inr ⟨rfl, rfl⟩) d_Mod_isPot_63 rfl ?_
            cases h; exact hQ
def F_Mod_isPot (p1 : Int32) (M : gM) : Option (Int32 × gM) :=
  H_Mod_isPot_2 p1 FU 0 M
set_option maxHeartbeats 4000000 in
set_option maxRecDepth 20000 in
theorem f_Mod_isPot {l : Launch} {ld : Nat} {M : gM} {L : gL} {Q : Option Value → gM → gL → gR → Prop} (hld : isLa ld) {p1 : Int32}  {q : Int32 × gM} (h : F_Mod_isPot p1 M = some q) (hQ : Q (some (.int q.1)) q.2 L (rf ld)) : Tm l y_Mod_isPot (0, 0, 447) 447 [.ref 401, .int p1] M L (rf ld) Q := by
  refine Tm.of (by decide) (Nat.le_of_ble_eq_true rfl) ?_
  show Wp l y_Mod_isPot (0, 0, 447) 447 0 0 0 [(0, .ref 401), (1, .int p1)] [] M L (rf ld) Q
  unfold F_Mod_isPot at h
  refine g_iconst (pc1 := 1) (v := 0) d_Mod_isPot_0 rfl (by decide) ?_
  refine g_istore_n (pc1 := 2) (lv' := [(0, .ref 401), (1, .int p1), (2, .int 0)]) d_Mod_isPot_1 rfl rfl (by decide) [1, 2, 0] rfl ?_
  exact h_Mod_isPot_2 hld  hQ  _ 0 M h

def J_Mod_lawTells_84 (v2 : Int32) (M : gM) : Option (Int32 × gM) :=
  (if (v2 : Int32) < 0 ∨ 260 ≤ (v2 : Int32).toNatClampNeg then none else (if (v2 : Int32) < 0 ∨ 260 ≤ (v2 : Int32).toNatClampNeg then none else bI2 (F_Mod_termOf (M 429 (v2 : Int32).toNatClampNeg) (M 430 (v2 : Int32).toNatClampNeg) M) (fun r11 M12 => (if (b01 (M12 401 51)) = 0 then some (r11, M12) else some (0, M12)))))
set_option maxHeartbeats 4000000 in
set_option maxRecDepth 20000 in
theorem j_Mod_lawTells_84 {l : Launch} {ld : Nat} {Q : Option Value → gM → gL → gR → Prop} (hld : isLa ld)   {q : Int32 × gM} {M : gM} {L : gL} (hQ : Q (some (.int q.1)) q.2 L (rf ld))  {v2 : Int32}  (h : J_Mod_lawTells_84 v2 M = some q) : Wp l y_Mod_lawTells (0, 0, 447) 447 0 0 84 [(0, .ref 401), (2, .int v2)] [] M L (rf ld) Q := by
  unfold J_Mod_lawTells_84 at h
  refine g_aload_n (pc1 := 85) d_Mod_lawTells_84 rfl 0 rfl ?_
  refine g_aload_n (pc1 := 86) d_Mod_lawTells_85 rfl 0 rfl ?_
  refine g_getr (pc1 := 89) d_Mod_lawTells_86 rfl ⟨_, fo_Mod_101⟩ sh_401 (by decide) (rf_401_42 ld) ?_
  refine g_iload_n (pc1 := 90) d_Mod_lawTells_89 rfl 1 rfl ?_
  obtain ⟨g8, h⟩ := gdn h
  refine g_iald (pc1 := 91) d_Mod_lawTells_90 rfl sh_429 (by decide) g8 ?_
  refine g_aload_n (pc1 := 92) d_Mod_lawTells_91 rfl 0 rfl ?_
  refine g_getr (pc1 := 95) d_Mod_lawTells_92 rfl ⟨_, fo_Mod_104⟩ sh_401 (by decide) (rf_401_43 ld) ?_
  refine g_iload_n (pc1 := 96) d_Mod_lawTells_95 rfl 1 rfl ?_
  obtain ⟨g9, h⟩ := gdn h
  refine g_iald (pc1 := 97) d_Mod_lawTells_96 rfl sh_430 (by decide) g9 ?_
  refine g_callV0 (pc1 := 100) (As := [.int (M 429 (v2 : Int32).toNatClampNeg), .int (M 430 (v2 : Int32).toNatClampNeg)]) (rest := []) d_Mod_lawTells_97 rfl mo_Mod_333 mi_Mod_termOf mv_Mod_termOf rfl sh_401 (by decide) (by decide) rfl rfl (Nat.le_of_ble_eq_true rfl) ?_
  obtain ⟨r11, M12, hq10, h⟩ := bnd2 h
  refine f_Mod_termOf hld  hq10 ?_
  dsimp only [psh]
  refine g_istore_n (pc1 := 101) (lv' := [(0, .ref 401), (2, .int v2), (3, .int r11)]) d_Mod_lawTells_100 rfl rfl (by decide) [1, 2, 0] rfl ?_
  refine g_aload_n (pc1 := 102) d_Mod_lawTells_101 rfl 0 rfl ?_
  refine g_getz (pc1 := 105) d_Mod_lawTells_102 rfl ⟨_, fo_Mod_312⟩ sh_401 (by decide) ?_
  refine g_if_eq (pc1 := 108) (tgt := 112) d_Mod_lawTells_105 (by decide) rfl (fun c13 => ?_) (fun c13 => ?_)
  · replace h := itp h c13
    refine g_iload_n (pc1 := 113) d_Mod_lawTells_112 rfl 2 rfl ?_
    refine g_ireturn (Or.inl rfl) d_Mod_lawTells_113 rfl ?_
    cases h; exact hQ
  · replace h := itn h c13
    refine g_iconst (pc1 := 109) (v := 0) d_Mod_lawTells_108 rfl (by decide) ?_
    refine g_goto (tgt := 113) d_Mod_lawTells_109 (by decide) ?_
    refine g_ireturn (Or.inl rfl) d_Mod_lawTells_113 rfl ?_
    cases h; exact hQ
def B_Mod_lawTells_12 (v1 : Int32) (K12 : Int32 → gM → Option (Int32 × gM)) : Int32 → gM → Option (Int32 × gM) := fun v2 M =>
  (if (v1 : Int32) < 0 ∨ 8 ≤ (v1 : Int32).toNatClampNeg then none else (if (M 425 (v1 : Int32).toNatClampNeg) ≤ v2 then some (0, M) else (if (v2 : Int32) < 0 ∨ 260 ≤ (v2 : Int32).toNatClampNeg then none else (if (M 426 (v2 : Int32).toNatClampNeg) = 0 then J_Mod_lawTells_84 v2 M else (if (v2 : Int32) < 0 ∨ 260 ≤ (v2 : Int32).toNatClampNeg then none else (if (v2 : Int32) < 0 ∨ 260 ≤ (v2 : Int32).toNatClampNeg then none else bI2 (F_Mod_termOf (M 427 (v2 : Int32).toNatClampNeg) (M 428 (v2 : Int32).toNatClampNeg) M) (fun r17 M18 => (if (v2 : Int32) < 0 ∨ 260 ≤ (v2 : Int32).toNatClampNeg then none else (if (v2 : Int32) < 0 ∨ 260 ≤ (v2 : Int32).toNatClampNeg then none else bI2 (F_Mod_termOf (M18 428 (v2 : Int32).toNatClampNeg) (M18 429 (v2 : Int32).toNatClampNeg) M18) (fun r22 M23 => (if (b01 (M23 401 51)) = 0 then (if r17 < r22 then J_Mod_lawTells_84 v2 M23 else nmI (v2 + 1) (fun x26 => K12 x26 M23)) else some (0, M23))))))))))))
def H_Mod_lawTells_12 (v1 : Int32) : Nat → Int32 → gM → Option (Int32 × gM) := lpK (B_Mod_lawTells_12 v1) (fun _ _ => none)
set_option maxHeartbeats 4000000 in
set_option maxRecDepth 20000 in
theorem h_Mod_lawTells_12 {l : Launch} {ld : Nat} {Q : Option Value → gM → gL → gR → Prop} (hld : isLa ld)   {q : Int32 × gM} {L : gL} (hQ : Q (some (.int q.1)) q.2 L (rf ld))  {v1 : Int32}  : ∀ (f : Nat) (v2 : Int32) (M : gM), H_Mod_lawTells_12 v1 f v2 M = some q → Wp l y_Mod_lawTells (0, 0, 447) 447 0 0 12 [(0, .ref 401), (1, .int v1), (2, .int v2)] [] M L (rf ld) Q := by
  intro f
  induction f with
  | zero => intro v2 M h; cases h
  | succ f hK12 =>
    intro v2 M h
    replace h : B_Mod_lawTells_12 v1 (H_Mod_lawTells_12 v1 f) v2 M = some q := h
    unfold B_Mod_lawTells_12 at h
    refine g_iload_n (pc1 := 13) d_Mod_lawTells_12 rfl 2 rfl ?_
    refine g_aload_n (pc1 := 14) d_Mod_lawTells_13 rfl 0 rfl ?_
    refine g_getr (pc1 := 17) d_Mod_lawTells_14 rfl ⟨_, fo_Mod_88⟩ sh_401 (by decide) (rf_401_37 ld) ?_
    refine g_iload_n (pc1 := 18) d_Mod_lawTells_17 rfl 1 rfl ?_
    obtain ⟨g4, h⟩ := gdn h
    refine g_iald (pc1 := 19) d_Mod_lawTells_18 rfl sh_425 (by decide) g4 ?_
    refine g_icmp_ge (pc1 := 22) (tgt := 120) d_Mod_lawTells_19 (by decide) rfl (fun c5 => ?_) (fun c5 => ?_)
    · replace h := itp h c5
      refine g_iconst (pc1 := 121) (v := 0) d_Mod_lawTells_120 rfl (by decide) ?_
      refine g_ireturn (Or.inl rfl) d_Mod_lawTells_121 rfl ?_
      cases h; exact hQ
    · replace h := itn h c5
      refine g_aload_n (pc1 := 23) d_Mod_lawTells_22 rfl 0 rfl ?_
      refine g_getr (pc1 := 26) d_Mod_lawTells_23 rfl ⟨_, fo_Mod_91⟩ sh_401 (by decide) (rf_401_39 ld) ?_
      refine g_iload_n (pc1 := 27) d_Mod_lawTells_26 rfl 2 rfl ?_
      obtain ⟨g6, h⟩ := gdn h
      refine g_zald (pc1 := 28) d_Mod_lawTells_27 rfl sh_426 (by decide) g6 ?_
      refine g_if_eq (pc1 := 31) (tgt := 84) d_Mod_lawTells_28 (by decide) rfl (fun c7 => ?_) (fun c7 => ?_)
      · replace h := itp h c7
        refine Wp.loc (lv' := [(0, .ref 401), (2, .int v2)]) [0, 2] rfl ?_
        exact j_Mod_lawTells_84 hld  hQ  h
      · replace h := itn h c7
        refine g_aload_n (pc1 := 32) d_Mod_lawTells_31 rfl 0 rfl ?_
        refine g_aload_n (pc1 := 33) d_Mod_lawTells_32 rfl 0 rfl ?_
        refine g_getr (pc1 := 36) d_Mod_lawTells_33 rfl ⟨_, fo_Mod_95⟩ sh_401 (by decide) (rf_401_40 ld) ?_
        refine g_iload_n (pc1 := 37) d_Mod_lawTells_36 rfl 2 rfl ?_
        obtain ⟨g14, h⟩ := gdn h
        refine g_iald (pc1 := 38) d_Mod_lawTells_37 rfl sh_427 (by decide) g14 ?_
        refine g_aload_n (pc1 := 39) d_Mod_lawTells_38 rfl 0 rfl ?_
        refine g_getr (pc1 := 42) d_Mod_lawTells_39 rfl ⟨_, fo_Mod_98⟩ sh_401 (by decide) (rf_401_41 ld) ?_
        refine g_iload_n (pc1 := 43) d_Mod_lawTells_42 rfl 2 rfl ?_
        obtain ⟨g15, h⟩ := gdn h
        refine g_iald (pc1 := 44) d_Mod_lawTells_43 rfl sh_428 (by decide) g15 ?_
        refine g_callV0 (pc1 := 47) (As := [.int (M 427 (v2 : Int32).toNatClampNeg), .int (M 428 (v2 : Int32).toNatClampNeg)]) (rest := []) d_Mod_lawTells_44 rfl mo_Mod_333 mi_Mod_termOf mv_Mod_termOf rfl sh_401 (by decide) (by decide) rfl rfl (Nat.le_of_ble_eq_true rfl) ?_
        obtain ⟨r17, M18, hq16, h⟩ := bnd2 h
        refine f_Mod_termOf hld  hq16 ?_
        dsimp only [psh]
        refine g_istore_n (pc1 := 48) (lv' := [(0, .ref 401), (1, .int v1), (2, .int v2), (3, .int r17)]) d_Mod_lawTells_47 rfl rfl (by decide) [1, 2, 3, 0] rfl ?_
        refine g_aload_n (pc1 := 49) d_Mod_lawTells_48 rfl 0 rfl ?_
        refine g_aload_n (pc1 := 50) d_Mod_lawTells_49 rfl 0 rfl ?_
        refine g_getr (pc1 := 53) d_Mod_lawTells_50 rfl ⟨_, fo_Mod_98⟩ sh_401 (by decide) (rf_401_41 ld) ?_
        refine g_iload_n (pc1 := 54) d_Mod_lawTells_53 rfl 2 rfl ?_
        obtain ⟨g19, h⟩ := gdn h
        refine g_iald (pc1 := 55) d_Mod_lawTells_54 rfl sh_428 (by decide) g19 ?_
        refine g_aload_n (pc1 := 56) d_Mod_lawTells_55 rfl 0 rfl ?_
        refine g_getr (pc1 := 59) d_Mod_lawTells_56 rfl ⟨_, fo_Mod_101⟩ sh_401 (by decide) (rf_401_42 ld) ?_
        refine g_iload_n (pc1 := 60) d_Mod_lawTells_59 rfl 2 rfl ?_
        obtain ⟨g20, h⟩ := gdn h
        refine g_iald (pc1 := 61) d_Mod_lawTells_60 rfl sh_429 (by decide) g20 ?_
        refine g_callV0 (pc1 := 64) (As := [.int (M18 428 (v2 : Int32).toNatClampNeg), .int (M18 429 (v2 : Int32).toNatClampNeg)]) (rest := []) d_Mod_lawTells_61 rfl mo_Mod_333 mi_Mod_termOf mv_Mod_termOf rfl sh_401 (by decide) (by decide) rfl rfl (Nat.le_of_ble_eq_true rfl) ?_
        obtain ⟨r22, M23, hq21, h⟩ := bnd2 h
        refine f_Mod_termOf hld  hq21 ?_
        dsimp only [psh]
        refine g_istore (pc1 := 66) (lv' := [(0, .ref 401), (1, .int v1), (2, .int v2), (3, .int r17), (4, .int r22)]) d_Mod_lawTells_64 rfl (by decide) [1, 2, 3, 4, 0] rfl ?_
        refine g_aload_n (pc1 := 67) d_Mod_lawTells_66 rfl 0 rfl ?_
        refine g_getz (pc1 := 70) d_Mod_lawTells_67 rfl ⟨_, fo_Mod_312⟩ sh_401 (by decide) ?_
        refine g_if_eq (pc1 := 73) (tgt := 75) d_Mod_lawTells_70 (by decide) rfl (fun c24 => ?_) (fun c24 => ?_)
        · replace h := itp h c24
          refine g_iload_n (pc1 := 76) d_Mod_lawTells_75 rfl 3 rfl ?_
          refine g_iload (pc1 := 78) d_Mod_lawTells_76 rfl 4 rfl ?_
          refine g_icmp_lt (pc1 := 81) (tgt := 84) d_Mod_lawTells_78 (by decide) rfl (fun c25 => ?_) (fun c25 => ?_)
          · replace h := itp h c25
            refine Wp.loc (lv' := [(0, .ref 401), (2, .int v2)]) [0, 2] rfl ?_
            exact j_Mod_lawTells_84 hld  hQ  h
          · replace h := itn h c25
            refine g_goto (tgt := 114) d_Mod_lawTells_81 (by decide) ?_
            obtain ⟨x26, ex26, h⟩ := ltI h
            refine g_iinc (pc1 := 117) (v := x26) (lv' := [(0, .ref 401), (1, .int v1), (2, .int x26), (3, .int r17), (4, .int r22)]) d_Mod_lawTells_114 rfl 2 rfl (by rw [ex26]; rfl) (by decide) [1, 2, 0, 3, 4] rfl ?_
            refine g_goto (tgt := 12) d_Mod_lawTells_117 (by decide) ?_
            refine Wp.loc (lv' := [(0, .ref 401), (1, .int v1), (2, .int x26)]) [0, 1, 2] rfl ?_
            exact hK12 x26 M23 h
        · replace h := itn h c24
          refine g_iconst (pc1 := 74) (v := 0) d_Mod_lawTells_73 rfl (by decide) ?_
          refine g_ireturn (Or.inl rfl) d_Mod_lawTells_74 rfl ?_
          cases h; exact hQ
def F_Mod_lawTells (p1 : Int32) (M : gM) : Option (Int32 × gM) :=
  nmM (uM M 401 51 0) (fun M1 => (if (p1 : Int32) < 0 ∨ 8 ≤ (p1 : Int32).toNatClampNeg then none else nmI (M1 424 (p1 : Int32).toNatClampNeg) (fun x3 => H_Mod_lawTells_12 p1 FU x3 M1)))
set_option maxHeartbeats 4000000 in
set_option maxRecDepth 20000 in
theorem f_Mod_lawTells {l : Launch} {ld : Nat} {M : gM} {L : gL} {Q : Option Value → gM → gL → gR → Prop} (hld : isLa ld) {p1 : Int32}  {q : Int32 × gM} (h : F_Mod_lawTells p1 M = some q) (hQ : Q (some (.int q.1)) q.2 L (rf ld)) : Tm l y_Mod_lawTells (0, 0, 447) 447 [.ref 401, .int p1] M L (rf ld) Q := by
  refine Tm.of (by decide) (Nat.le_of_ble_eq_true rfl) ?_
  show Wp l y_Mod_lawTells (0, 0, 447) 447 0 0 0 [(0, .ref 401), (1, .int p1)] [] M L (rf ld) Q
  unfold F_Mod_lawTells at h
  refine g_aload_n (pc1 := 1) d_Mod_lawTells_0 rfl 0 rfl ?_
  refine g_iconst (pc1 := 2) (v := 0) d_Mod_lawTells_1 rfl (by decide) ?_
  refine g_putz (pc1 := 5) d_Mod_lawTells_2 rfl fo_Mod_312 po_12_51_0 rfl sh_401 (by decide) ?_
  refine Wp.lM h (fun M1 h => ?_)
  refine g_aload_n (pc1 := 6) d_Mod_lawTells_5 rfl 0 rfl ?_
  refine g_getr (pc1 := 9) d_Mod_lawTells_6 rfl ⟨_, fo_Mod_85⟩ sh_401 (by decide) (rf_401_36 ld) ?_
  refine g_iload_n (pc1 := 10) d_Mod_lawTells_9 rfl 1 rfl ?_
  obtain ⟨g2, h⟩ := gdn h
  refine g_iald (pc1 := 11) d_Mod_lawTells_10 rfl sh_424 (by decide) g2 ?_
  refine Wp.lI h (fun x3 h => ?_)
  refine g_istore_n (pc1 := 12) (lv' := [(0, .ref 401), (1, .int p1), (2, .int x3)]) d_Mod_lawTells_11 rfl rfl (by decide) [1, 2, 0] rfl ?_
  exact h_Mod_lawTells_12 hld  hQ  _ x3 M1 h

def F_Mod_lotOf (p1 : Int32) (p2 : Int32) (M : gM) : Option (Int32) :=
  bI (F_Mod_mixed (M 401 54) 103) (fun r2 => bI (F_Mod_mixed r2 p1) (fun r4 => (if p2 = 0 then none else some (((r4.toUInt32 >>> ((1 : Int32).toUInt32 &&& Int32.toUInt32 31)).toInt32) - ((r4.toUInt32 >>> ((1 : Int32).toUInt32 &&& Int32.toUInt32 31)).toInt32) / p2 * p2))))
set_option maxHeartbeats 4000000 in
set_option maxRecDepth 20000 in
theorem f_Mod_lotOf {l : Launch} {ld : Nat} {M : gM} {L : gL} {Q : Option Value → gM → gL → gR → Prop} (hld : isLa ld) {p1 : Int32} {p2 : Int32}  {q : Int32} (h : F_Mod_lotOf p1 p2 M = some q) (hQ : Q (some (.int q)) M L (rf ld)) : Tm l y_Mod_lotOf (0, 0, 447) 447 [.ref 401, .int p1, .int p2] M L (rf ld) Q := by
  refine Tm.of (by decide) (Nat.le_of_ble_eq_true rfl) ?_
  show Wp l y_Mod_lotOf (0, 0, 447) 447 0 0 0 [(0, .ref 401), (1, .int p1), (2, .int p2)] [] M L (rf ld) Q
  unfold F_Mod_lotOf at h
  refine g_aload_n (pc1 := 1) d_Mod_lotOf_0 rfl 0 rfl ?_
  refine g_geti (pc1 := 4) d_Mod_lotOf_1 rfl ⟨_, fo_Mod_320⟩ sh_401 (by decide) ?_
  refine g_bipush (pc1 := 6) (v := 103) d_Mod_lotOf_4 rfl (by decide) ?_
  refine g_callS0 (pc1 := 9) (As := [.int (M 401 54), .int 103]) (rest := []) d_Mod_lotOf_6 rfl mo_Mod_324 ms_Mod_mixed (by decide) rfl rfl (Nat.le_of_ble_eq_true rfl) ?_
  obtain ⟨r2, hq1, h⟩ := bnd h
  refine f_Mod_mixed hld  hq1 ?_
  dsimp only [psh]
  refine g_iload_n (pc1 := 10) d_Mod_lotOf_9 rfl 1 rfl ?_
  refine g_callS0 (pc1 := 13) (As := [.int r2, .int p1]) (rest := []) d_Mod_lotOf_10 rfl mo_Mod_324 ms_Mod_mixed (by decide) rfl rfl (Nat.le_of_ble_eq_true rfl) ?_
  obtain ⟨r4, hq3, h⟩ := bnd h
  refine f_Mod_mixed hld  hq3 ?_
  dsimp only [psh]
  refine g_iconst (pc1 := 14) (v := 1) d_Mod_lotOf_13 rfl (by decide) ?_
  refine g_iushr (pc1 := 15) d_Mod_lotOf_14 rfl ?_
  refine g_iload_n (pc1 := 16) d_Mod_lotOf_15 rfl 2 rfl ?_
  obtain ⟨g5, h⟩ := gdn h
  refine g_irem (pc1 := 17) d_Mod_lotOf_16 rfl g5 ?_
  refine g_ireturn (Or.inl rfl) d_Mod_lotOf_17 rfl ?_
  cases h; exact hQ

def J_Mod_records_83 (M : gM) : Option (gM) :=
  nmM (uM M 401 57 ((M 401 57) + 1)) (fun M3 => bI (F_Mod_keepsRow M3) (fun M5 => some M5))
set_option maxHeartbeats 4000000 in
set_option maxRecDepth 20000 in
theorem j_Mod_records_83 {l : Launch} {ld : Nat} {Q : Option Value → gM → gL → gR → Prop} (hld : isLa ld)   {q : gM} {M : gM} {L : gL} (hQ : Q none q L (rf ld))    (h : J_Mod_records_83 M = some q) : Wp l y_Mod_records (0, 0, 447) 447 0 0 83 [(0, .ref 401)] [] M L (rf ld) Q := by
  unfold J_Mod_records_83 at h
  refine g_aload_n (pc1 := 84) d_Mod_records_83 rfl 0 rfl ?_
  refine g_dup (pc1 := 85) d_Mod_records_84 rfl rfl ?_
  refine g_geti (pc1 := 88) d_Mod_records_85 rfl ⟨_, fo_Mod_254⟩ sh_401 (by decide) ?_
  refine g_iconst (pc1 := 89) (v := 1) d_Mod_records_88 rfl (by decide) ?_
  refine g_iadd (pc1 := 90) d_Mod_records_89 rfl ?_
  refine g_puti (pc1 := 93) d_Mod_records_90 rfl fo_Mod_254 (po_12_57 _) sh_401 (by decide) ?_
  refine Wp.lM h (fun M3 h => ?_)
  refine g_aload_n (pc1 := 94) d_Mod_records_93 rfl 0 rfl ?_
  refine g_callV0 (pc1 := 97) (As := []) (rest := []) d_Mod_records_94 rfl mo_Mod_166 mi_Mod_keepsRow mv_Mod_keepsRow rfl sh_401 (by decide) (by decide) rfl rfl (Nat.le_of_ble_eq_true rfl) ?_
  obtain ⟨M5, hq4, h⟩ := bnd h
  refine f_Mod_keepsRow hld  hq4 ?_
  dsimp only [psh]
  refine g_return rfl d_Mod_records_97 rfl ?_
  cases h; exact hQ
def B_Mod_records_51  (K51 : Int32 → gM → Option (gM)) : Int32 → gM → Option (gM) := fun v1 M =>
  (if 38 ≤ v1 then J_Mod_records_83 M else (if (v1 : Int32) < 0 ∨ 38 ≤ (v1 : Int32).toNatClampNeg then none else (if (((38 * (M 401 57)) + v1) : Int32) < 0 ∨ 1520 ≤ (((38 * (M 401 57)) + v1) : Int32).toNatClampNeg then none else nmM (uM M 440 (((38 * (M 401 57)) + v1) : Int32).toNatClampNeg (M 436 (v1 : Int32).toNatClampNeg)) (fun M8 => nmI (v1 + 1) (fun x9 => K51 x9 M8)))))
def H_Mod_records_51  : Nat → Int32 → gM → Option (gM) := lpK (B_Mod_records_51 ) (fun _ _ => none)
set_option maxHeartbeats 4000000 in
set_option maxRecDepth 20000 in
theorem h_Mod_records_51 {l : Launch} {ld : Nat} {Q : Option Value → gM → gL → gR → Prop} (hld : isLa ld)   {q : gM} {L : gL} (hQ : Q none q L (rf ld))    : ∀ (f : Nat) (v1 : Int32) (M : gM), H_Mod_records_51  f v1 M = some q → Wp l y_Mod_records (0, 0, 447) 447 0 0 51 [(0, .ref 401), (1, .int v1)] [] M L (rf ld) Q := by
  intro f
  induction f with
  | zero => intro v1 M h; cases h
  | succ f hK51 =>
    intro v1 M h
    replace h : B_Mod_records_51  (H_Mod_records_51  f) v1 M = some q := h
    unfold B_Mod_records_51 at h
    refine g_iload_n (pc1 := 52) d_Mod_records_51 rfl 1 rfl ?_
    refine g_bipush (pc1 := 54) (v := 38) d_Mod_records_52 rfl (by decide) ?_
    refine g_icmp_ge (pc1 := 57) (tgt := 83) d_Mod_records_54 (by decide) rfl (fun c2 => ?_) (fun c2 => ?_)
    · replace h := itp h c2
      refine Wp.loc (lv' := [(0, .ref 401)]) [0] rfl ?_
      exact j_Mod_records_83 hld  hQ  h
    · replace h := itn h c2
      refine g_aload_n (pc1 := 58) d_Mod_records_57 rfl 0 rfl ?_
      refine g_getr (pc1 := 61) d_Mod_records_58 rfl ⟨_, fo_Mod_134⟩ sh_401 (by decide) (rf_401_58 ld) ?_
      refine g_bipush (pc1 := 63) (v := 38) d_Mod_records_61 rfl (by decide) ?_
      refine g_aload_n (pc1 := 64) d_Mod_records_63 rfl 0 rfl ?_
      refine g_geti (pc1 := 67) d_Mod_records_64 rfl ⟨_, fo_Mod_254⟩ sh_401 (by decide) ?_
      refine g_imul (pc1 := 68) d_Mod_records_67 rfl ?_
      refine g_iload_n (pc1 := 69) d_Mod_records_68 rfl 1 rfl ?_
      refine g_iadd (pc1 := 70) d_Mod_records_69 rfl ?_
      refine g_aload_n (pc1 := 71) d_Mod_records_70 rfl 0 rfl ?_
      refine g_getr (pc1 := 74) d_Mod_records_71 rfl ⟨_, fo_Mod_122⟩ sh_401 (by decide) (rf_401_52 ld) ?_
      refine g_iload_n (pc1 := 75) d_Mod_records_74 rfl 1 rfl ?_
      obtain ⟨g6, h⟩ := gdn h
      refine g_iald (pc1 := 76) d_Mod_records_75 rfl sh_436 (by decide) g6 ?_
      obtain ⟨g7, h⟩ := gdn h
      refine g_iast (pc1 := 77) d_Mod_records_76 rfl sh_440 (by decide) g7 ?_
      refine Wp.lM h (fun M8 h => ?_)
      obtain ⟨x9, ex9, h⟩ := ltI h
      refine g_iinc (pc1 := 80) (v := x9) (lv' := [(0, .ref 401), (1, .int x9)]) d_Mod_records_77 rfl 1 rfl (by rw [ex9]; rfl) (by decide) [1, 0] rfl ?_
      refine g_goto (tgt := 51) d_Mod_records_80 (by decide) ?_
      exact hK51 x9 M8 h
def J_Mod_records_49 (M : gM) : Option (gM) :=
  H_Mod_records_51 FU 0 M
set_option maxHeartbeats 4000000 in
set_option maxRecDepth 20000 in
theorem j_Mod_records_49 {l : Launch} {ld : Nat} {Q : Option Value → gM → gL → gR → Prop} (hld : isLa ld)   {q : gM} {M : gM} {L : gL} (hQ : Q none q L (rf ld))    (h : J_Mod_records_49 M = some q) : Wp l y_Mod_records (0, 0, 447) 447 0 0 49 [(0, .ref 401)] [] M L (rf ld) Q := by
  unfold J_Mod_records_49 at h
  refine g_iconst (pc1 := 50) (v := 0) d_Mod_records_49 rfl (by decide) ?_
  refine g_istore_n (pc1 := 51) (lv' := [(0, .ref 401), (1, .int 0)]) d_Mod_records_50 rfl rfl (by decide) [1, 0] rfl ?_
  exact h_Mod_records_51 hld  hQ  _ 0 M h
def J_Mod_records_39 (M : gM) : Option (gM) :=
  nmM (uM M 401 57 ((M 401 57) - 1)) (fun M11 => J_Mod_records_49 M11)
set_option maxHeartbeats 4000000 in
set_option maxRecDepth 20000 in
theorem j_Mod_records_39 {l : Launch} {ld : Nat} {Q : Option Value → gM → gL → gR → Prop} (hld : isLa ld)   {q : gM} {M : gM} {L : gL} (hQ : Q none q L (rf ld))    (h : J_Mod_records_39 M = some q) : Wp l y_Mod_records (0, 0, 447) 447 0 0 39 [(0, .ref 401)] [] M L (rf ld) Q := by
  unfold J_Mod_records_39 at h
  refine g_aload_n (pc1 := 40) d_Mod_records_39 rfl 0 rfl ?_
  refine g_dup (pc1 := 41) d_Mod_records_40 rfl rfl ?_
  refine g_geti (pc1 := 44) d_Mod_records_41 rfl ⟨_, fo_Mod_254⟩ sh_401 (by decide) ?_
  refine g_iconst (pc1 := 45) (v := 1) d_Mod_records_44 rfl (by decide) ?_
  refine g_isub (pc1 := 46) d_Mod_records_45 rfl ?_
  refine g_puti (pc1 := 49) d_Mod_records_46 rfl fo_Mod_254 (po_12_57 _) sh_401 (by decide) ?_
  refine Wp.lM h (fun M11 h => ?_)
  exact j_Mod_records_49 hld  hQ  h
def B_Mod_records_11  (K11 : Int32 → gM → Option (gM)) : Int32 → gM → Option (gM) := fun v1 M =>
  (if 1482 ≤ v1 then J_Mod_records_39 M else (if ((v1 + 38) : Int32) < 0 ∨ 1520 ≤ ((v1 + 38) : Int32).toNatClampNeg then none else (if (v1 : Int32) < 0 ∨ 1520 ≤ (v1 : Int32).toNatClampNeg then none else nmM (uM M 440 (v1 : Int32).toNatClampNeg (M 440 ((v1 + 38) : Int32).toNatClampNeg)) (fun M14 => nmI (v1 + 1) (fun x15 => K11 x15 M14)))))
def H_Mod_records_11  : Nat → Int32 → gM → Option (gM) := lpK (B_Mod_records_11 ) (fun _ _ => none)
set_option maxHeartbeats 4000000 in
set_option maxRecDepth 20000 in
theorem h_Mod_records_11 {l : Launch} {ld : Nat} {Q : Option Value → gM → gL → gR → Prop} (hld : isLa ld)   {q : gM} {L : gL} (hQ : Q none q L (rf ld))    : ∀ (f : Nat) (v1 : Int32) (M : gM), H_Mod_records_11  f v1 M = some q → Wp l y_Mod_records (0, 0, 447) 447 0 0 11 [(0, .ref 401), (1, .int v1)] [] M L (rf ld) Q := by
  intro f
  induction f with
  | zero => intro v1 M h; cases h
  | succ f hK11 =>
    intro v1 M h
    replace h : B_Mod_records_11  (H_Mod_records_11  f) v1 M = some q := h
    unfold B_Mod_records_11 at h
    refine g_iload_n (pc1 := 12) d_Mod_records_11 rfl 1 rfl ?_
    refine g_sipush (pc1 := 15) (v := 1482) d_Mod_records_12 rfl (by decide) ?_
    refine g_icmp_ge (pc1 := 18) (tgt := 39) d_Mod_records_15 (by decide) rfl (fun c10 => ?_) (fun c10 => ?_)
    · replace h := itp h c10
      refine Wp.loc (lv' := [(0, .ref 401)]) [0] rfl ?_
      exact j_Mod_records_39 hld  hQ  h
    · replace h := itn h c10
      refine g_aload_n (pc1 := 19) d_Mod_records_18 rfl 0 rfl ?_
      refine g_getr (pc1 := 22) d_Mod_records_19 rfl ⟨_, fo_Mod_134⟩ sh_401 (by decide) (rf_401_58 ld) ?_
      refine g_iload_n (pc1 := 23) d_Mod_records_22 rfl 1 rfl ?_
      refine g_aload_n (pc1 := 24) d_Mod_records_23 rfl 0 rfl ?_
      refine g_getr (pc1 := 27) d_Mod_records_24 rfl ⟨_, fo_Mod_134⟩ sh_401 (by decide) (rf_401_58 ld) ?_
      refine g_iload_n (pc1 := 28) d_Mod_records_27 rfl 1 rfl ?_
      refine g_bipush (pc1 := 30) (v := 38) d_Mod_records_28 rfl (by decide) ?_
      refine g_iadd (pc1 := 31) d_Mod_records_30 rfl ?_
      obtain ⟨g12, h⟩ := gdn h
      refine g_iald (pc1 := 32) d_Mod_records_31 rfl sh_440 (by decide) g12 ?_
      obtain ⟨g13, h⟩ := gdn h
      refine g_iast (pc1 := 33) d_Mod_records_32 rfl sh_440 (by decide) g13 ?_
      refine Wp.lM h (fun M14 h => ?_)
      obtain ⟨x15, ex15, h⟩ := ltI h
      refine g_iinc (pc1 := 36) (v := x15) (lv' := [(0, .ref 401), (1, .int x15)]) d_Mod_records_33 rfl 1 rfl (by rw [ex15]; rfl) (by decide) [1, 0] rfl ?_
      refine g_goto (tgt := 11) d_Mod_records_36 (by decide) ?_
      exact hK11 x15 M14 h
def F_Mod_records (M : gM) : Option (gM) :=
  (if (M 401 57) = 40 then H_Mod_records_11 FU 0 M else J_Mod_records_49 M)
set_option maxHeartbeats 4000000 in
set_option maxRecDepth 20000 in
theorem f_Mod_records {l : Launch} {ld : Nat} {M : gM} {L : gL} {Q : Option Value → gM → gL → gR → Prop} (hld : isLa ld)   {q : gM} (h : F_Mod_records M = some q) (hQ : Q none q L (rf ld)) : Tm l y_Mod_records (0, 0, 447) 447 [.ref 401] M L (rf ld) Q := by
  refine Tm.of (by decide) (Nat.le_of_ble_eq_true rfl) ?_
  show Wp l y_Mod_records (0, 0, 447) 447 0 0 0 [(0, .ref 401)] [] M L (rf ld) Q
  unfold F_Mod_records at h
  refine g_aload_n (pc1 := 1) d_Mod_records_0 rfl 0 rfl ?_
  refine g_geti (pc1 := 4) d_Mod_records_1 rfl ⟨_, fo_Mod_254⟩ sh_401 (by decide) ?_
  refine g_bipush (pc1 := 6) (v := 40) d_Mod_records_4 rfl (by decide) ?_
  refine g_icmp_ne (pc1 := 9) (tgt := 49) d_Mod_records_6 (by decide) rfl (fun c1 => ?_) (fun c1 => ?_)
  · replace h := itn h c1
    exact j_Mod_records_49 hld  hQ  h
  · replace h := itp h c1
    refine g_iconst (pc1 := 10) (v := 0) d_Mod_records_9 rfl (by decide) ?_
    refine g_istore_n (pc1 := 11) (lv' := [(0, .ref 401), (1, .int 0)]) d_Mod_records_10 rfl rfl (by decide) [1, 0] rfl ?_
    exact h_Mod_records_11 hld  hQ  _ 0 M h

def J_Mod_restore_51 (M : gM) : Option (Int32 × gM) :=
  nmM (uM M 401 57 0) (fun M7 => some (1, M7))
set_option maxHeartbeats 4000000 in
set_option maxRecDepth 20000 in
theorem j_Mod_restore_51 {l : Launch} {ld : Nat} {Q : Option Value → gM → gL → gR → Prop} (hld : isLa ld)   {q : Int32 × gM} {M : gM} {L : gL} (hQ : Q (some (.int q.1)) q.2 L (rf ld))    (h : J_Mod_restore_51 M = some q) : Wp l y_Mod_restore (0, 0, 447) 447 0 0 51 [(0, .ref 401)] [] M L (rf ld) Q := by
  unfold J_Mod_restore_51 at h
  refine g_aload_n (pc1 := 52) d_Mod_restore_51 rfl 0 rfl ?_
  refine g_iconst (pc1 := 53) (v := 0) d_Mod_restore_52 rfl (by decide) ?_
  refine g_puti (pc1 := 56) d_Mod_restore_53 rfl fo_Mod_254 (po_12_57 _) sh_401 (by decide) ?_
  refine Wp.lM h (fun M7 h => ?_)
  refine g_iconst (pc1 := 57) (v := 1) d_Mod_restore_56 rfl (by decide) ?_
  refine g_ireturn (Or.inr ⟨rfl, rfl⟩) d_Mod_restore_57 rfl ?_
  cases h; exact hQ
def B_Mod_restore_22 (v1 : Int32) (K22 : Int32 → gM → Option (Int32 × gM)) : Int32 → gM → Option (Int32 × gM) := fun v2 M =>
  (if 38 ≤ v2 then J_Mod_restore_51 M else (if (((38 * v1) + v2) : Int32) < 0 ∨ 114 ≤ (((38 * v1) + v2) : Int32).toNatClampNeg then none else (if (v2 : Int32) < 0 ∨ 38 ≤ (v2 : Int32).toNatClampNeg then none else nmM (uM M 436 (v2 : Int32).toNatClampNeg (M 446 (((38 * v1) + v2) : Int32).toNatClampNeg)) (fun M10 => nmI (v2 + 1) (fun x11 => K22 x11 M10)))))
def H_Mod_restore_22 (v1 : Int32) : Nat → Int32 → gM → Option (Int32 × gM) := lpK (B_Mod_restore_22 v1) (fun _ _ => none)
set_option maxHeartbeats 4000000 in
set_option maxRecDepth 20000 in
theorem h_Mod_restore_22 {l : Launch} {ld : Nat} {Q : Option Value → gM → gL → gR → Prop} (hld : isLa ld)   {q : Int32 × gM} {L : gL} (hQ : Q (some (.int q.1)) q.2 L (rf ld))  {v1 : Int32}  : ∀ (f : Nat) (v2 : Int32) (M : gM), H_Mod_restore_22 v1 f v2 M = some q → Wp l y_Mod_restore (0, 0, 447) 447 0 0 22 [(0, .ref 401), (1, .int v1), (2, .int v2)] [] M L (rf ld) Q := by
  intro f
  induction f with
  | zero => intro v2 M h; cases h
  | succ f hK22 =>
    intro v2 M h
    replace h : B_Mod_restore_22 v1 (H_Mod_restore_22 v1 f) v2 M = some q := h
    unfold B_Mod_restore_22 at h
    refine g_iload_n (pc1 := 23) d_Mod_restore_22 rfl 2 rfl ?_
    refine g_bipush (pc1 := 25) (v := 38) d_Mod_restore_23 rfl (by decide) ?_
    refine g_icmp_ge (pc1 := 28) (tgt := 51) d_Mod_restore_25 (by decide) rfl (fun c6 => ?_) (fun c6 => ?_)
    · replace h := itp h c6
      refine Wp.loc (lv' := [(0, .ref 401)]) [0] rfl ?_
      exact j_Mod_restore_51 hld  hQ  h
    · replace h := itn h c6
      refine g_aload_n (pc1 := 29) d_Mod_restore_28 rfl 0 rfl ?_
      refine g_getr (pc1 := 32) d_Mod_restore_29 rfl ⟨_, fo_Mod_122⟩ sh_401 (by decide) (rf_401_52 ld) ?_
      refine g_iload_n (pc1 := 33) d_Mod_restore_32 rfl 2 rfl ?_
      refine g_aload_n (pc1 := 34) d_Mod_restore_33 rfl 0 rfl ?_
      refine g_getr (pc1 := 37) d_Mod_restore_34 rfl ⟨_, fo_Mod_152⟩ sh_401 (by decide) (rf_401_70 ld) ?_
      refine g_bipush (pc1 := 39) (v := 38) d_Mod_restore_37 rfl (by decide) ?_
      refine g_iload_n (pc1 := 40) d_Mod_restore_39 rfl 1 rfl ?_
      refine g_imul (pc1 := 41) d_Mod_restore_40 rfl ?_
      refine g_iload_n (pc1 := 42) d_Mod_restore_41 rfl 2 rfl ?_
      refine g_iadd (pc1 := 43) d_Mod_restore_42 rfl ?_
      obtain ⟨g8, h⟩ := gdn h
      refine g_iald (pc1 := 44) d_Mod_restore_43 rfl sh_446 (by decide) g8 ?_
      obtain ⟨g9, h⟩ := gdn h
      refine g_iast (pc1 := 45) d_Mod_restore_44 rfl sh_436 (by decide) g9 ?_
      refine Wp.lM h (fun M10 h => ?_)
      obtain ⟨x11, ex11, h⟩ := ltI h
      refine g_iinc (pc1 := 48) (v := x11) (lv' := [(0, .ref 401), (1, .int v1), (2, .int x11)]) d_Mod_restore_45 rfl 2 rfl (by rw [ex11]; rfl) (by decide) [1, 2, 0] rfl ?_
      refine g_goto (tgt := 22) d_Mod_restore_48 (by decide) ?_
      exact hK22 x11 M10 h
def F_Mod_restore (p1 : Int32) (M : gM) : Option (Int32 × gM) :=
  bI (F_Mod_in p1 0 2) (fun r2 => (if r2 = 0 then some (0, M) else (if (p1 : Int32) < 0 ∨ 3 ≤ (p1 : Int32).toNatClampNeg then none else (if (M 445 (p1 : Int32).toNatClampNeg) = 0 then some (0, M) else H_Mod_restore_22 p1 FU 0 M))))
set_option maxHeartbeats 4000000 in
set_option maxRecDepth 20000 in
theorem f_Mod_restore {l : Launch} {ld : Nat} {M : gM} {L : gL} {Q : Option Value → gM → gL → gR → Prop} (hld : isLa ld) {p1 : Int32}  {q : Int32 × gM} (h : F_Mod_restore p1 M = some q) (hQ : Q (some (.int q.1)) q.2 L (rf ld)) : Tm l y_Mod_restore (0, 0, 447) 447 [.ref 401, .int p1] M L (rf ld) Q := by
  refine Tm.of (by decide) (Nat.le_of_ble_eq_true rfl) ?_
  show Wp l y_Mod_restore (0, 0, 447) 447 0 0 0 [(0, .ref 401), (1, .int p1)] [] M L (rf ld) Q
  unfold F_Mod_restore at h
  refine g_iload_n (pc1 := 1) d_Mod_restore_0 rfl 1 rfl ?_
  refine g_iconst (pc1 := 2) (v := 0) d_Mod_restore_1 rfl (by decide) ?_
  refine g_iconst (pc1 := 3) (v := 2) d_Mod_restore_2 rfl (by decide) ?_
  refine g_callS0 (pc1 := 6) (As := [.int p1, .int 0, .int 2]) (rest := []) d_Mod_restore_3 rfl mo_Mod_316 ms_Mod_in (by decide) rfl rfl (Nat.le_of_ble_eq_true rfl) ?_
  obtain ⟨r2, hq1, h⟩ := bnd h
  refine f_Mod_in hld  hq1 ?_
  dsimp only [psh]
  refine g_if_eq (pc1 := 9) (tgt := 18) d_Mod_restore_6 (by decide) rfl (fun c3 => ?_) (fun c3 => ?_)
  · replace h := itp h c3
    refine g_iconst (pc1 := 19) (v := 0) d_Mod_restore_18 rfl (by decide) ?_
    refine g_ireturn (Or.inr ⟨rfl, rfl⟩) d_Mod_restore_19 rfl ?_
    cases h; exact hQ
  · replace h := itn h c3
    refine g_aload_n (pc1 := 10) d_Mod_restore_9 rfl 0 rfl ?_
    refine g_getr (pc1 := 13) d_Mod_restore_10 rfl ⟨_, fo_Mod_149⟩ sh_401 (by decide) (rf_401_69 ld) ?_
    refine g_iload_n (pc1 := 14) d_Mod_restore_13 rfl 1 rfl ?_
    obtain ⟨g4, h⟩ := gdn h
    refine g_zald (pc1 := 15) d_Mod_restore_14 rfl sh_445 (by decide) g4 ?_
    refine g_if_ne (pc1 := 18) (tgt := 20) d_Mod_restore_15 (by decide) rfl (fun c5 => ?_) (fun c5 => ?_)
    · replace h := itn h c5
      refine g_iconst (pc1 := 21) (v := 0) d_Mod_restore_20 rfl (by decide) ?_
      refine g_istore_n (pc1 := 22) (lv' := [(0, .ref 401), (1, .int p1), (2, .int 0)]) d_Mod_restore_21 rfl rfl (by decide) [1, 2, 0] rfl ?_
      exact h_Mod_restore_22 hld  hQ  _ 0 M h
    · replace h := itp h c5
      refine g_iconst (pc1 := 19) (v := 0) d_Mod_restore_18 rfl (by decide) ?_
      refine g_ireturn (Or.inr ⟨rfl, rfl⟩) d_Mod_restore_19 rfl ?_
      cases h; exact hQ

def J_Mod_sign_95 (v1 : Int32) (v4 : Int32) (M : gM) (L : gL) : Option (Int32 × gM × gL) :=
  bI2 (F_Mod_token v4 v1 0 0 M L) (fun M11 L12 => some (1, M11, L12))
set_option maxHeartbeats 4000000 in
set_option maxRecDepth 20000 in
theorem j_Mod_sign_95 {l : Launch} {ld : Nat} {Q : Option Value → gM → gL → gR → Prop} (hld : isLa ld)   {q : Int32 × gM × gL} {M : gM} {L : gL} (hQ : Q (some (.int q.1)) q.2.1 q.2.2 (rf ld))  {v1 : Int32} {v4 : Int32}  (h : J_Mod_sign_95 v1 v4 M L = some q) : Wp l y_Mod_sign (0, 0, 447) 447 0 0 95 [(0, .ref 401), (1, .int v1), (4, .int v4)] [] M L (rf ld) Q := by
  unfold J_Mod_sign_95 at h
  refine g_aload_n (pc1 := 96) d_Mod_sign_95 rfl 0 rfl ?_
  refine g_iload (pc1 := 98) d_Mod_sign_96 rfl 2 rfl ?_
  refine g_iload_n (pc1 := 99) d_Mod_sign_98 rfl 1 rfl ?_
  refine g_iconst (pc1 := 100) (v := 0) d_Mod_sign_99 rfl (by decide) ?_
  refine g_lconst (pc1 := 101) (v := 0) d_Mod_sign_100 rfl (by decide) ?_
  refine g_callV0 (pc1 := 104) (As := [.int v4, .int v1, .int 0, .long 0]) (rest := []) d_Mod_sign_101 rfl mo_Mod_191 mi_Mod_token mv_Mod_token rfl sh_401 (by decide) (by decide) rfl rfl (Nat.le_of_ble_eq_true rfl) ?_
  obtain ⟨M11, L12, hq10, h⟩ := bnd2 h
  refine f_Mod_token hld  hq10 ?_
  dsimp only [psh]
  refine g_iconst (pc1 := 105) (v := 1) d_Mod_sign_104 rfl (by decide) ?_
  refine g_ireturn (Or.inl rfl) d_Mod_sign_105 rfl ?_
  cases h; exact hQ
def J_Mod_sign_85 (v1 : Int32) (v2 : Int32) (v4 : Int32) (M : gM) (L : gL) : Option (Int32 × gM × gL) :=
  (if v2 = 60 then J_Mod_sign_95 v1 13 M L else J_Mod_sign_95 v1 v4 M L)
set_option maxHeartbeats 4000000 in
set_option maxRecDepth 20000 in
theorem j_Mod_sign_85 {l : Launch} {ld : Nat} {Q : Option Value → gM → gL → gR → Prop} (hld : isLa ld)   {q : Int32 × gM × gL} {M : gM} {L : gL} (hQ : Q (some (.int q.1)) q.2.1 q.2.2 (rf ld))  {v1 : Int32} {v2 : Int32} {v4 : Int32}  (h : J_Mod_sign_85 v1 v2 v4 M L = some q) : Wp l y_Mod_sign (0, 0, 447) 447 0 0 85 [(0, .ref 401), (1, .int v1), (2, .int v2), (4, .int v4)] [] M L (rf ld) Q := by
  unfold J_Mod_sign_85 at h
  refine g_iload_n (pc1 := 86) d_Mod_sign_85 rfl 2 rfl ?_
  refine g_bipush (pc1 := 88) (v := 60) d_Mod_sign_86 rfl (by decide) ?_
  refine g_icmp_ne (pc1 := 91) (tgt := 95) d_Mod_sign_88 (by decide) rfl (fun c9 => ?_) (fun c9 => ?_)
  · replace h := itn h c9
    refine Wp.loc (lv' := [(0, .ref 401), (1, .int v1), (4, .int v4)]) [0, 1, 3] rfl ?_
    exact j_Mod_sign_95 hld  hQ  h
  · replace h := itp h c9
    refine g_bipush (pc1 := 93) (v := 13) d_Mod_sign_91 rfl (by decide) ?_
    refine g_istore (pc1 := 95) (lv' := [(0, .ref 401), (1, .int v1), (2, .int v2), (4, .int 13)]) d_Mod_sign_93 rfl (by decide) [1, 2, 3, 0] rfl ?_
    refine Wp.loc (lv' := [(0, .ref 401), (1, .int v1), (4, .int 13)]) [0, 1, 3] rfl ?_
    exact j_Mod_sign_95 hld  hQ  h
def J_Mod_sign_75 (v1 : Int32) (v2 : Int32) (v4 : Int32) (M : gM) (L : gL) : Option (Int32 × gM × gL) :=
  (if v2 = 47 then J_Mod_sign_85 v1 v2 15 M L else J_Mod_sign_85 v1 v2 v4 M L)
set_option maxHeartbeats 4000000 in
set_option maxRecDepth 20000 in
theorem j_Mod_sign_75 {l : Launch} {ld : Nat} {Q : Option Value → gM → gL → gR → Prop} (hld : isLa ld)   {q : Int32 × gM × gL} {M : gM} {L : gL} (hQ : Q (some (.int q.1)) q.2.1 q.2.2 (rf ld))  {v1 : Int32} {v2 : Int32} {v4 : Int32}  (h : J_Mod_sign_75 v1 v2 v4 M L = some q) : Wp l y_Mod_sign (0, 0, 447) 447 0 0 75 [(0, .ref 401), (1, .int v1), (2, .int v2), (4, .int v4)] [] M L (rf ld) Q := by
  unfold J_Mod_sign_75 at h
  refine g_iload_n (pc1 := 76) d_Mod_sign_75 rfl 2 rfl ?_
  refine g_bipush (pc1 := 78) (v := 47) d_Mod_sign_76 rfl (by decide) ?_
  refine g_icmp_ne (pc1 := 81) (tgt := 85) d_Mod_sign_78 (by decide) rfl (fun c8 => ?_) (fun c8 => ?_)
  · replace h := itn h c8
    exact j_Mod_sign_85 hld  hQ  h
  · replace h := itp h c8
    refine g_bipush (pc1 := 83) (v := 15) d_Mod_sign_81 rfl (by decide) ?_
    refine g_istore (pc1 := 85) (lv' := [(0, .ref 401), (1, .int v1), (2, .int v2), (4, .int 15)]) d_Mod_sign_83 rfl (by decide) [1, 2, 3, 0] rfl ?_
    exact j_Mod_sign_85 hld  hQ  h
def J_Mod_sign_65 (v1 : Int32) (v2 : Int32) (v4 : Int32) (M : gM) (L : gL) : Option (Int32 × gM × gL) :=
  (if v2 = 42 then J_Mod_sign_75 v1 v2 10 M L else J_Mod_sign_75 v1 v2 v4 M L)
set_option maxHeartbeats 4000000 in
set_option maxRecDepth 20000 in
theorem j_Mod_sign_65 {l : Launch} {ld : Nat} {Q : Option Value → gM → gL → gR → Prop} (hld : isLa ld)   {q : Int32 × gM × gL} {M : gM} {L : gL} (hQ : Q (some (.int q.1)) q.2.1 q.2.2 (rf ld))  {v1 : Int32} {v2 : Int32} {v4 : Int32}  (h : J_Mod_sign_65 v1 v2 v4 M L = some q) : Wp l y_Mod_sign (0, 0, 447) 447 0 0 65 [(0, .ref 401), (1, .int v1), (2, .int v2), (4, .int v4)] [] M L (rf ld) Q := by
  unfold J_Mod_sign_65 at h
  refine g_iload_n (pc1 := 66) d_Mod_sign_65 rfl 2 rfl ?_
  refine g_bipush (pc1 := 68) (v := 42) d_Mod_sign_66 rfl (by decide) ?_
  refine g_icmp_ne (pc1 := 71) (tgt := 75) d_Mod_sign_68 (by decide) rfl (fun c7 => ?_) (fun c7 => ?_)
  · replace h := itn h c7
    exact j_Mod_sign_75 hld  hQ  h
  · replace h := itp h c7
    refine g_bipush (pc1 := 73) (v := 10) d_Mod_sign_71 rfl (by decide) ?_
    refine g_istore (pc1 := 75) (lv' := [(0, .ref 401), (1, .int v1), (2, .int v2), (4, .int 10)]) d_Mod_sign_73 rfl (by decide) [1, 2, 3, 0] rfl ?_
    exact j_Mod_sign_75 hld  hQ  h
def J_Mod_sign_55 (v1 : Int32) (v2 : Int32) (v4 : Int32) (M : gM) (L : gL) : Option (Int32 × gM × gL) :=
  (if v2 = 45 then J_Mod_sign_65 v1 v2 9 M L else J_Mod_sign_65 v1 v2 v4 M L)
set_option maxHeartbeats 4000000 in
set_option maxRecDepth 20000 in
theorem j_Mod_sign_55 {l : Launch} {ld : Nat} {Q : Option Value → gM → gL → gR → Prop} (hld : isLa ld)   {q : Int32 × gM × gL} {M : gM} {L : gL} (hQ : Q (some (.int q.1)) q.2.1 q.2.2 (rf ld))  {v1 : Int32} {v2 : Int32} {v4 : Int32}  (h : J_Mod_sign_55 v1 v2 v4 M L = some q) : Wp l y_Mod_sign (0, 0, 447) 447 0 0 55 [(0, .ref 401), (1, .int v1), (2, .int v2), (4, .int v4)] [] M L (rf ld) Q := by
  unfold J_Mod_sign_55 at h
  refine g_iload_n (pc1 := 56) d_Mod_sign_55 rfl 2 rfl ?_
  refine g_bipush (pc1 := 58) (v := 45) d_Mod_sign_56 rfl (by decide) ?_
  refine g_icmp_ne (pc1 := 61) (tgt := 65) d_Mod_sign_58 (by decide) rfl (fun c6 => ?_) (fun c6 => ?_)
  · replace h := itn h c6
    exact j_Mod_sign_65 hld  hQ  h
  · replace h := itp h c6
    refine g_bipush (pc1 := 63) (v := 9) d_Mod_sign_61 rfl (by decide) ?_
    refine g_istore (pc1 := 65) (lv' := [(0, .ref 401), (1, .int v1), (2, .int v2), (4, .int 9)]) d_Mod_sign_63 rfl (by decide) [1, 2, 3, 0] rfl ?_
    exact j_Mod_sign_65 hld  hQ  h
def J_Mod_sign_43 (v1 : Int32) (v2 : Int32) (s0 : Int32) (M : gM) (L : gL) : Option (Int32 × gM × gL) :=
  (if v2 = 43 then J_Mod_sign_55 v1 v2 8 M L else J_Mod_sign_55 v1 v2 s0 M L)
set_option maxHeartbeats 4000000 in
set_option maxRecDepth 20000 in
theorem j_Mod_sign_43 {l : Launch} {ld : Nat} {Q : Option Value → gM → gL → gR → Prop} (hld : isLa ld)   {q : Int32 × gM × gL} {M : gM} {L : gL} (hQ : Q (some (.int q.1)) q.2.1 q.2.2 (rf ld))  {v1 : Int32} {v2 : Int32} {s0 : Int32}  (h : J_Mod_sign_43 v1 v2 s0 M L = some q) : Wp l y_Mod_sign (0, 0, 447) 447 0 0 43 [(0, .ref 401), (1, .int v1), (2, .int v2)] [.int s0] M L (rf ld) Q := by
  unfold J_Mod_sign_43 at h
  refine g_istore (pc1 := 45) (lv' := [(0, .ref 401), (1, .int v1), (2, .int v2), (4, .int s0)]) d_Mod_sign_43 rfl (by decide) [1, 2, 3, 0] rfl ?_
  refine g_iload_n (pc1 := 46) d_Mod_sign_45 rfl 2 rfl ?_
  refine g_bipush (pc1 := 48) (v := 43) d_Mod_sign_46 rfl (by decide) ?_
  refine g_icmp_ne (pc1 := 51) (tgt := 55) d_Mod_sign_48 (by decide) rfl (fun c5 => ?_) (fun c5 => ?_)
  · replace h := itn h c5
    exact j_Mod_sign_55 hld  hQ  h
  · replace h := itp h c5
    refine g_bipush (pc1 := 53) (v := 8) d_Mod_sign_51 rfl (by decide) ?_
    refine g_istore (pc1 := 55) (lv' := [(0, .ref 401), (1, .int v1), (2, .int v2), (4, .int 8)]) d_Mod_sign_53 rfl (by decide) [1, 2, 3, 0] rfl ?_
    exact j_Mod_sign_55 hld  hQ  h
def F_Mod_sign (p1 : Int32) (p2 : Int32) (p3 : Int32) (M : gM) (L : gL) : Option (Int32 × gM × gL) :=
  (if p2 = 59 then J_Mod_sign_43 p1 p2 4 M L else (if p2 = 61 then J_Mod_sign_43 p1 p2 5 M L else (if p2 = 40 then J_Mod_sign_43 p1 p2 6 M L else (if p2 = 41 then J_Mod_sign_43 p1 p2 7 M L else J_Mod_sign_43 p1 p2 3 M L))))
set_option maxHeartbeats 4000000 in
set_option maxRecDepth 20000 in
theorem f_Mod_sign {l : Launch} {ld : Nat} {M : gM} {L : gL} {Q : Option Value → gM → gL → gR → Prop} (hld : isLa ld) {p1 : Int32} {p2 : Int32} {p3 : Int32}  {q : Int32 × gM × gL} (h : F_Mod_sign p1 p2 p3 M L = some q) (hQ : Q (some (.int q.1)) q.2.1 q.2.2 (rf ld)) : Tm l y_Mod_sign (0, 0, 447) 447 [.ref 401, .int p1, .int p2, .int p3] M L (rf ld) Q := by
  refine Tm.of (by decide) (Nat.le_of_ble_eq_true rfl) ?_
  show Wp l y_Mod_sign (0, 0, 447) 447 0 0 0 [(0, .ref 401), (1, .int p1), (2, .int p2), (3, .int p3)] [] M L (rf ld) Q
  unfold F_Mod_sign at h
  refine g_iload_n (pc1 := 1) d_Mod_sign_0 rfl 2 rfl ?_
  refine g_bipush (pc1 := 3) (v := 59) d_Mod_sign_1 rfl (by decide) ?_
  refine g_icmp_ne (pc1 := 6) (tgt := 10) d_Mod_sign_3 (by decide) rfl (fun c1 => ?_) (fun c1 => ?_)
  · replace h := itn h c1
    refine g_iload_n (pc1 := 11) d_Mod_sign_10 rfl 2 rfl ?_
    refine g_bipush (pc1 := 13) (v := 61) d_Mod_sign_11 rfl (by decide) ?_
    refine g_icmp_ne (pc1 := 16) (tgt := 20) d_Mod_sign_13 (by decide) rfl (fun c2 => ?_) (fun c2 => ?_)
    · replace h := itn h c2
      refine g_iload_n (pc1 := 21) d_Mod_sign_20 rfl 2 rfl ?_
      refine g_bipush (pc1 := 23) (v := 40) d_Mod_sign_21 rfl (by decide) ?_
      refine g_icmp_ne (pc1 := 26) (tgt := 31) d_Mod_sign_23 (by decide) rfl (fun c3 => ?_) (fun c3 => ?_)
      · replace h := itn h c3
        refine g_iload_n (pc1 := 32) d_Mod_sign_31 rfl 2 rfl ?_
        refine g_bipush (pc1 := 34) (v := 41) d_Mod_sign_32 rfl (by decide) ?_
        refine g_icmp_ne (pc1 := 37) (tgt := 42) d_Mod_sign_34 (by decide) rfl (fun c4 => ?_) (fun c4 => ?_)
        · replace h := itn h c4
          refine g_iconst (pc1 := 43) (v := 3) d_Mod_sign_42 rfl (by decide) ?_
          refine Wp.loc (lv' := [(0, .ref 401), (1, .int p1), (2, .int p2)]) [0, 1, 2] rfl ?_
          exact j_Mod_sign_43 hld  hQ  h
        · replace h := itp h c4
          refine g_bipush (pc1 := 39) (v := 7) d_Mod_sign_37 rfl (by decide) ?_
          refine g_goto (tgt := 43) d_Mod_sign_39 (by decide) ?_
          refine Wp.loc (lv' := [(0, .ref 401), (1, .int p1), (2, .int p2)]) [0, 1, 2] rfl ?_
          exact j_Mod_sign_43 hld  hQ  h
      · replace h := itp h c3
        refine g_bipush (pc1 := 28) (v := 6) d_Mod_sign_26 rfl (by decide) ?_
        refine g_goto (tgt := 43) d_Mod_sign_28 (by decide) ?_
        refine Wp.loc (lv' := [(0, .ref 401), (1, .int p1), (2, .int p2)]) [0, 1, 2] rfl ?_
        exact j_Mod_sign_43 hld  hQ  h
    · replace h := itp h c2
      refine g_iconst (pc1 := 17) (v := 5) d_Mod_sign_16 rfl (by decide) ?_
      refine g_goto (tgt := 43) d_Mod_sign_17 (by decide) ?_
      refine Wp.loc (lv' := [(0, .ref 401), (1, .int p1), (2, .int p2)]) [0, 1, 2] rfl ?_
      exact j_Mod_sign_43 hld  hQ  h
  · replace h := itp h c1
    refine g_iconst (pc1 := 7) (v := 4) d_Mod_sign_6 rfl (by decide) ?_
    refine g_goto (tgt := 43) d_Mod_sign_7 (by decide) ?_
    refine Wp.loc (lv' := [(0, .ref 401), (1, .int p1), (2, .int p2)]) [0, 1, 2] rfl ?_
    exact j_Mod_sign_43 hld  hQ  h

def F_Mod_tell (p1 : Int32) (p2 : Int32) (p3 : Int32) (M : gM) : Option (Int32 × gM) :=
  (if (M 401 64) = 20 then some ((-1), M) else bI (F_Mod_in p1 0 2) (fun r3 => (if r3 = 0 then some ((-1), M) else bI (F_Mod_in p2 0 9) (fun r6 => (if r6 = 0 then some ((-1), M) else bI (F_Mod_in p3 0 99) (fun r9 => (if r9 = 0 then some ((-1), M) else (if ((M 401 64) : Int32) < 0 ∨ 20 ≤ ((M 401 64) : Int32).toNatClampNeg then none else nmM (uM M 441 ((M 401 64) : Int32).toNatClampNeg p1) (fun M12 => (if ((M12 401 64) : Int32) < 0 ∨ 20 ≤ ((M12 401 64) : Int32).toNatClampNeg then none else nmM (uM M12 442 ((M12 401 64) : Int32).toNatClampNeg p2) (fun M14 => (if ((M14 401 64) : Int32) < 0 ∨ 20 ≤ ((M14 401 64) : Int32).toNatClampNeg then none else nmM (uM M14 443 ((M14 401 64) : Int32).toNatClampNeg p3) (fun M16 => nmM (uM M16 401 64 ((M16 401 64) + 1)) (fun M17 => some (((M17 401 64) - 1), M17)))))))))))))))
set_option maxHeartbeats 4000000 in
set_option maxRecDepth 20000 in
theorem f_Mod_tell {l : Launch} {ld : Nat} {M : gM} {L : gL} {Q : Option Value → gM → gL → gR → Prop} (hld : isLa ld) {p1 : Int32} {p2 : Int32} {p3 : Int32}  {q : Int32 × gM} (h : F_Mod_tell p1 p2 p3 M = some q) (hQ : Q (some (.int q.1)) q.2 L (rf ld)) : Tm l y_Mod_tell (0, 0, 447) 447 [.ref 401, .int p1, .int p2, .int p3] M L (rf ld) Q := by
  refine Tm.of (by decide) (Nat.le_of_ble_eq_true rfl) ?_
  show Wp l y_Mod_tell (0, 0, 447) 447 0 0 0 [(0, .ref 401), (1, .int p1), (2, .int p2), (3, .int p3)] [] M L (rf ld) Q
  unfold F_Mod_tell at h
  refine g_aload_n (pc1 := 1) d_Mod_tell_0 rfl 0 rfl ?_
  refine g_geti (pc1 := 4) d_Mod_tell_1 rfl ⟨_, fo_Mod_257⟩ sh_401 (by decide) ?_
  refine g_bipush (pc1 := 6) (v := 20) d_Mod_tell_4 rfl (by decide) ?_
  refine g_icmp_eq (pc1 := 9) (tgt := 38) d_Mod_tell_6 (by decide) rfl (fun c1 => ?_) (fun c1 => ?_)
  · replace h := itp h c1
    refine g_iconst (pc1 := 39) (v := (-1)) d_Mod_tell_38 rfl (by decide) ?_
    refine g_ireturn (Or.inl rfl) d_Mod_tell_39 rfl ?_
    cases h; exact hQ
  · replace h := itn h c1
    refine g_iload_n (pc1 := 10) d_Mod_tell_9 rfl 1 rfl ?_
    refine g_iconst (pc1 := 11) (v := 0) d_Mod_tell_10 rfl (by decide) ?_
    refine g_iconst (pc1 := 12) (v := 2) d_Mod_tell_11 rfl (by decide) ?_
    refine g_callS0 (pc1 := 15) (As := [.int p1, .int 0, .int 2]) (rest := []) d_Mod_tell_12 rfl mo_Mod_316 ms_Mod_in (by decide) rfl rfl (Nat.le_of_ble_eq_true rfl) ?_
    obtain ⟨r3, hq2, h⟩ := bnd h
    refine f_Mod_in hld  hq2 ?_
    dsimp only [psh]
    refine g_if_eq (pc1 := 18) (tgt := 38) d_Mod_tell_15 (by decide) rfl (fun c4 => ?_) (fun c4 => ?_)
    · replace h := itp h c4
      refine g_iconst (pc1 := 39) (v := (-1)) d_Mod_tell_38 rfl (by decide) ?_
      refine g_ireturn (Or.inl rfl) d_Mod_tell_39 rfl ?_
      cases h; exact hQ
    · replace h := itn h c4
      refine g_iload_n (pc1 := 19) d_Mod_tell_18 rfl 2 rfl ?_
      refine g_iconst (pc1 := 20) (v := 0) d_Mod_tell_19 rfl (by decide) ?_
      refine g_bipush (pc1 := 22) (v := 9) d_Mod_tell_20 rfl (by decide) ?_
      refine g_callS0 (pc1 := 25) (As := [.int p2, .int 0, .int 9]) (rest := []) d_Mod_tell_22 rfl mo_Mod_316 ms_Mod_in (by decide) rfl rfl (Nat.le_of_ble_eq_true rfl) ?_
      obtain ⟨r6, hq5, h⟩ := bnd h
      refine f_Mod_in hld  hq5 ?_
      dsimp only [psh]
      refine g_if_eq (pc1 := 28) (tgt := 38) d_Mod_tell_25 (by decide) rfl (fun c7 => ?_) (fun c7 => ?_)
      · replace h := itp h c7
        refine g_iconst (pc1 := 39) (v := (-1)) d_Mod_tell_38 rfl (by decide) ?_
        refine g_ireturn (Or.inl rfl) d_Mod_tell_39 rfl ?_
        cases h; exact hQ
      · replace h := itn h c7
        refine g_iload_n (pc1 := 29) d_Mod_tell_28 rfl 3 rfl ?_
        refine g_iconst (pc1 := 30) (v := 0) d_Mod_tell_29 rfl (by decide) ?_
        refine g_bipush (pc1 := 32) (v := 99) d_Mod_tell_30 rfl (by decide) ?_
        refine g_callS0 (pc1 := 35) (As := [.int p3, .int 0, .int 99]) (rest := []) d_Mod_tell_32 rfl mo_Mod_316 ms_Mod_in (by decide) rfl rfl (Nat.le_of_ble_eq_true rfl) ?_
        obtain ⟨r9, hq8, h⟩ := bnd h
        refine f_Mod_in hld  hq8 ?_
        dsimp only [psh]
        refine g_if_ne (pc1 := 38) (tgt := 40) d_Mod_tell_35 (by decide) rfl (fun c10 => ?_) (fun c10 => ?_)
        · replace h := itn h c10
          refine g_aload_n (pc1 := 41) d_Mod_tell_40 rfl 0 rfl ?_
          refine g_getr (pc1 := 44) d_Mod_tell_41 rfl ⟨_, fo_Mod_137⟩ sh_401 (by decide) (rf_401_65 ld) ?_
          refine g_aload_n (pc1 := 45) d_Mod_tell_44 rfl 0 rfl ?_
          refine g_geti (pc1 := 48) d_Mod_tell_45 rfl ⟨_, fo_Mod_257⟩ sh_401 (by decide) ?_
          refine g_iload_n (pc1 := 49) d_Mod_tell_48 rfl 1 rfl ?_
          obtain ⟨g11, h⟩ := gdn h
          refine g_iast (pc1 := 50) d_Mod_tell_49 rfl sh_441 (by decide) g11 ?_
          refine Wp.lM h (fun M12 h => ?_)
          refine g_aload_n (pc1 := 51) d_Mod_tell_50 rfl 0 rfl ?_
          refine g_getr (pc1 := 54) d_Mod_tell_51 rfl ⟨_, fo_Mod_140⟩ sh_401 (by decide) (rf_401_66 ld) ?_
          refine g_aload_n (pc1 := 55) d_Mod_tell_54 rfl 0 rfl ?_
          refine g_geti (pc1 := 58) d_Mod_tell_55 rfl ⟨_, fo_Mod_257⟩ sh_401 (by decide) ?_
          refine g_iload_n (pc1 := 59) d_Mod_tell_58 rfl 2 rfl ?_
          obtain ⟨g13, h⟩ := gdn h
          refine g_iast (pc1 := 60) d_Mod_tell_59 rfl sh_442 (by decide) g13 ?_
          refine Wp.lM h (fun M14 h => ?_)
          refine g_aload_n (pc1 := 61) d_Mod_tell_60 rfl 0 rfl ?_
          refine g_getr (pc1 := 64) d_Mod_tell_61 rfl ⟨_, fo_Mod_143⟩ sh_401 (by decide) (rf_401_67 ld) ?_
          refine g_aload_n (pc1 := 65) d_Mod_tell_64 rfl 0 rfl ?_
          refine g_geti (pc1 := 68) d_Mod_tell_65 rfl ⟨_, fo_Mod_257⟩ sh_401 (by decide) ?_
          refine g_iload_n (pc1 := 69) d_Mod_tell_68 rfl 3 rfl ?_
          obtain ⟨g15, h⟩ := gdn h
          refine g_iast (pc1 := 70) d_Mod_tell_69 rfl sh_443 (by decide) g15 ?_
          refine Wp.lM h (fun M16 h => ?_)
          refine g_aload_n (pc1 := 71) d_Mod_tell_70 rfl 0 rfl ?_
          refine g_dup (pc1 := 72) d_Mod_tell_71 rfl rfl ?_
          refine g_geti (pc1 := 75) d_Mod_tell_72 rfl ⟨_, fo_Mod_257⟩ sh_401 (by decide) ?_
          refine g_iconst (pc1 := 76) (v := 1) d_Mod_tell_75 rfl (by decide) ?_
          refine g_iadd (pc1 := 77) d_Mod_tell_76 rfl ?_
          refine g_puti (pc1 := 80) d_Mod_tell_77 rfl fo_Mod_257 (po_12_64 _) sh_401 (by decide) ?_
          refine Wp.lM h (fun M17 h => ?_)
          refine g_aload_n (pc1 := 81) d_Mod_tell_80 rfl 0 rfl ?_
          refine g_geti (pc1 := 84) d_Mod_tell_81 rfl ⟨_, fo_Mod_257⟩ sh_401 (by decide) ?_
          refine g_iconst (pc1 := 85) (v := 1) d_Mod_tell_84 rfl (by decide) ?_
          refine g_isub (pc1 := 86) d_Mod_tell_85 rfl ?_
          refine g_ireturn (Or.inl rfl) d_Mod_tell_86 rfl ?_
          cases h; exact hQ
        · replace h := itp h c10
          refine g_iconst (pc1 := 39) (v := (-1)) d_Mod_tell_38 rfl (by decide) ?_
          refine g_ireturn (Or.inl rfl) d_Mod_tell_39 rfl ?_
          cases h; exact hQ

def F_Mod_word (p1 : Int32) (p2 : Int32) (p3 : Int32) (p4 : Int32) (p5 : Int32) (p6 : Int32) (p7 : Int32) : Option (Int64) :=
  bI (F_Mod_appends 0 p1) (fun r2 => bI (F_Mod_appends r2 p2) (fun r4 => bI (F_Mod_appends r4 p3) (fun r6 => bI (F_Mod_appends r6 p4) (fun r8 => bI (F_Mod_appends r8 p5) (fun r10 => bI (F_Mod_appends r10 p6) (fun r12 => bI (F_Mod_appends r12 p7) (fun r14 => some r14)))))))
set_option maxHeartbeats 4000000 in
set_option maxRecDepth 20000 in
theorem f_Mod_word {l : Launch} {ld : Nat} {M : gM} {L : gL} {Q : Option Value → gM → gL → gR → Prop} (hld : isLa ld) {p1 : Int32} {p2 : Int32} {p3 : Int32} {p4 : Int32} {p5 : Int32} {p6 : Int32} {p7 : Int32}  {q : Int64} (h : F_Mod_word p1 p2 p3 p4 p5 p6 p7 = some q) (hQ : Q (some (.long q)) M L (rf ld)) : Tm l y_Mod_word (0, 0, 447) 447 [.int p1, .int p2, .int p3, .int p4, .int p5, .int p6, .int p7] M L (rf ld) Q := by
  refine Tm.of (by decide) (Nat.le_of_ble_eq_true rfl) ?_
  show Wp l y_Mod_word (0, 0, 447) 447 0 0 0 [(0, .int p1), (1, .int p2), (2, .int p3), (3, .int p4), (4, .int p5), (5, .int p6), (6, .int p7)] [] M L (rf ld) Q
  unfold F_Mod_word at h
  refine g_lconst (pc1 := 1) (v := 0) d_Mod_word_0 rfl (by decide) ?_
  refine g_iload_n (pc1 := 2) d_Mod_word_1 rfl 0 rfl ?_
  refine g_callS0 (pc1 := 5) (As := [.long 0, .int p1]) (rest := []) d_Mod_word_2 rfl mo_Mod_180 ms_Mod_appends (by decide) rfl rfl (Nat.le_of_ble_eq_true rfl) ?_
  obtain ⟨r2, hq1, h⟩ := bnd h
  refine f_Mod_appends hld  hq1 ?_
  dsimp only [psh]
  refine g_iload_n (pc1 := 6) d_Mod_word_5 rfl 1 rfl ?_
  refine g_callS0 (pc1 := 9) (As := [.long r2, .int p2]) (rest := []) d_Mod_word_6 rfl mo_Mod_180 ms_Mod_appends (by decide) rfl rfl (Nat.le_of_ble_eq_true rfl) ?_
  obtain ⟨r4, hq3, h⟩ := bnd h
  refine f_Mod_appends hld  hq3 ?_
  dsimp only [psh]
  refine g_iload_n (pc1 := 10) d_Mod_word_9 rfl 2 rfl ?_
  refine g_callS0 (pc1 := 13) (As := [.long r4, .int p3]) (rest := []) d_Mod_word_10 rfl mo_Mod_180 ms_Mod_appends (by decide) rfl rfl (Nat.le_of_ble_eq_true rfl) ?_
  obtain ⟨r6, hq5, h⟩ := bnd h
  refine f_Mod_appends hld  hq5 ?_
  dsimp only [psh]
  refine g_iload_n (pc1 := 14) d_Mod_word_13 rfl 3 rfl ?_
  refine g_callS0 (pc1 := 17) (As := [.long r6, .int p4]) (rest := []) d_Mod_word_14 rfl mo_Mod_180 ms_Mod_appends (by decide) rfl rfl (Nat.le_of_ble_eq_true rfl) ?_
  obtain ⟨r8, hq7, h⟩ := bnd h
  refine f_Mod_appends hld  hq7 ?_
  dsimp only [psh]
  refine g_iload (pc1 := 19) d_Mod_word_17 rfl 4 rfl ?_
  refine g_callS0 (pc1 := 22) (As := [.long r8, .int p5]) (rest := []) d_Mod_word_19 rfl mo_Mod_180 ms_Mod_appends (by decide) rfl rfl (Nat.le_of_ble_eq_true rfl) ?_
  obtain ⟨r10, hq9, h⟩ := bnd h
  refine f_Mod_appends hld  hq9 ?_
  dsimp only [psh]
  refine g_iload (pc1 := 24) d_Mod_word_22 rfl 5 rfl ?_
  refine g_callS0 (pc1 := 27) (As := [.long r10, .int p6]) (rest := []) d_Mod_word_24 rfl mo_Mod_180 ms_Mod_appends (by decide) rfl rfl (Nat.le_of_ble_eq_true rfl) ?_
  obtain ⟨r12, hq11, h⟩ := bnd h
  refine f_Mod_appends hld  hq11 ?_
  dsimp only [psh]
  refine g_iload (pc1 := 29) d_Mod_word_27 rfl 6 rfl ?_
  refine g_callS0 (pc1 := 32) (As := [.long r12, .int p7]) (rest := []) d_Mod_word_29 rfl mo_Mod_180 ms_Mod_appends (by decide) rfl rfl (Nat.le_of_ble_eq_true rfl) ?_
  obtain ⟨r14, hq13, h⟩ := bnd h
  refine f_Mod_appends hld  hq13 ?_
  dsimp only [psh]
  refine g_lreturn rfl d_Mod_word_32 rfl ?_
  cases h; exact hQ

def F_Mod_amount (p1 : Int32) (p2 : Int32) (M : gM) : Option (Int32) :=
  bI (F_Mod_isDish p1 M) (fun r2 => (if r2 = 0 then some (-1) else bI (F_Mod_isFood p2 M) (fun r5 => (if r5 = 0 then some (-1) else (if (((6 * ((5 * (M 401 18)) + p1)) + p2) : Int32) < 0 ∨ 60 ≤ (((6 * ((5 * (M 401 18)) + p1)) + p2) : Int32).toNatClampNeg then none else some (M 417 (((6 * ((5 * (M 401 18)) + p1)) + p2) : Int32).toNatClampNeg))))))
set_option maxHeartbeats 4000000 in
set_option maxRecDepth 20000 in
theorem f_Mod_amount {l : Launch} {ld : Nat} {M : gM} {L : gL} {Q : Option Value → gM → gL → gR → Prop} (hld : isLa ld) {p1 : Int32} {p2 : Int32}  {q : Int32} (h : F_Mod_amount p1 p2 M = some q) (hQ : Q (some (.int q)) M L (rf ld)) : Tm l y_Mod_amount (0, 0, 447) 447 [.ref 401, .int p1, .int p2] M L (rf ld) Q := by
  refine Tm.of (by decide) (Nat.le_of_ble_eq_true rfl) ?_
  show Wp l y_Mod_amount (0, 0, 447) 447 0 0 0 [(0, .ref 401), (1, .int p1), (2, .int p2)] [] M L (rf ld) Q
  unfold F_Mod_amount at h
  refine g_aload_n (pc1 := 1) d_Mod_amount_0 rfl 0 rfl ?_
  refine g_iload_n (pc1 := 2) d_Mod_amount_1 rfl 1 rfl ?_
  refine g_callV0 (pc1 := 5) (As := [.int p1]) (rest := []) d_Mod_amount_2 rfl mo_Mod_374 mi_Mod_isDish mv_Mod_isDish rfl sh_401 (by decide) (by decide) rfl rfl (Nat.le_of_ble_eq_true rfl) ?_
  obtain ⟨r2, hq1, h⟩ := bnd h
  refine f_Mod_isDish hld  hq1 ?_
  dsimp only [psh]
  refine g_if_eq (pc1 := 8) (tgt := 37) d_Mod_amount_5 (by decide) rfl (fun c3 => ?_) (fun c3 => ?_)
  · replace h := itp h c3
    refine g_iconst (pc1 := 38) (v := (-1)) d_Mod_amount_37 rfl (by decide) ?_
    refine g_ireturn (Or.inl rfl) d_Mod_amount_38 rfl ?_
    cases h; exact hQ
  · replace h := itn h c3
    refine g_aload_n (pc1 := 9) d_Mod_amount_8 rfl 0 rfl ?_
    refine g_iload_n (pc1 := 10) d_Mod_amount_9 rfl 2 rfl ?_
    refine g_callV0 (pc1 := 13) (As := [.int p2]) (rest := []) d_Mod_amount_10 rfl mo_Mod_371 mi_Mod_isFood mv_Mod_isFood rfl sh_401 (by decide) (by decide) rfl rfl (Nat.le_of_ble_eq_true rfl) ?_
    obtain ⟨r5, hq4, h⟩ := bnd h
    refine f_Mod_isFood hld  hq4 ?_
    dsimp only [psh]
    refine g_if_eq (pc1 := 16) (tgt := 37) d_Mod_amount_13 (by decide) rfl (fun c6 => ?_) (fun c6 => ?_)
    · replace h := itp h c6
      refine g_iconst (pc1 := 38) (v := (-1)) d_Mod_amount_37 rfl (by decide) ?_
      refine g_ireturn (Or.inl rfl) d_Mod_amount_38 rfl ?_
      cases h; exact hQ
    · replace h := itn h c6
      refine g_aload_n (pc1 := 17) d_Mod_amount_16 rfl 0 rfl ?_
      refine g_getr (pc1 := 20) d_Mod_amount_17 rfl ⟨_, fo_Mod_64⟩ sh_401 (by decide) (rf_401_29 ld) ?_
      refine g_bipush (pc1 := 22) (v := 6) d_Mod_amount_20 rfl (by decide) ?_
      refine g_iconst (pc1 := 23) (v := 5) d_Mod_amount_22 rfl (by decide) ?_
      refine g_aload_n (pc1 := 24) d_Mod_amount_23 rfl 0 rfl ?_
      refine g_geti (pc1 := 27) d_Mod_amount_24 rfl ⟨_, fo_Mod_236⟩ sh_401 (by decide) ?_
      refine g_imul (pc1 := 28) d_Mod_amount_27 rfl ?_
      refine g_iload_n (pc1 := 29) d_Mod_amount_28 rfl 1 rfl ?_
      refine g_iadd (pc1 := 30) d_Mod_amount_29 rfl ?_
      refine g_imul (pc1 := 31) d_Mod_amount_30 rfl ?_
      refine g_iload_n (pc1 := 32) d_Mod_amount_31 rfl 2 rfl ?_
      refine g_iadd (pc1 := 33) d_Mod_amount_32 rfl ?_
      obtain ⟨g7, h⟩ := gdn h
      refine g_iald (pc1 := 34) d_Mod_amount_33 rfl sh_417 (by decide) g7 ?_
      refine g_goto (tgt := 38) d_Mod_amount_34 (by decide) ?_
      refine g_ireturn (Or.inl rfl) d_Mod_amount_38 rfl ?_
      cases h; exact hQ

def J_Mod_asks_38 (v3 : Int32) (v4 : Int32) (v6 : Int32) (M : gM) : Option (Int32 × gM) :=
  bI (F_Mod_held v6 v3 v4) (fun r6 => some (r6, M))
set_option maxHeartbeats 4000000 in
set_option maxRecDepth 20000 in
theorem j_Mod_asks_38 {l : Launch} {ld : Nat} {Q : Option Value → gM → gL → gR → Prop} (hld : isLa ld)   {q : Int32 × gM} {M : gM} {L : gL} (hQ : Q (some (.int q.1)) q.2 L (rf ld))  {v3 : Int32} {v4 : Int32} {v6 : Int32}  (h : J_Mod_asks_38 v3 v4 v6 M = some q) : Wp l y_Mod_asks (0, 0, 447) 447 0 0 38 [(3, .int v3), (4, .int v4), (6, .int v6)] [] M L (rf ld) Q := by
  unfold J_Mod_asks_38 at h
  refine g_iload (pc1 := 40) d_Mod_asks_38 rfl 2 rfl ?_
  refine g_iload_n (pc1 := 41) d_Mod_asks_40 rfl 0 rfl ?_
  refine g_iload (pc1 := 43) d_Mod_asks_41 rfl 1 rfl ?_
  refine g_callS0 (pc1 := 46) (As := [.int v6, .int v3, .int v4]) (rest := []) d_Mod_asks_43 rfl mo_Mod_330 ms_Mod_held (by decide) rfl rfl (Nat.le_of_ble_eq_true rfl) ?_
  obtain ⟨r6, hq5, h⟩ := bnd h
  refine f_Mod_held hld  hq5 ?_
  dsimp only [psh]
  refine g_ireturn (Or.inl rfl) d_Mod_asks_46 rfl ?_
  cases h; exact hQ
def F_Mod_asks (p1 : Int32) (p2 : Int32) (p3 : Int32) (p4 : Int32) (M : gM) : Option (Int32 × gM) :=
  nmI ((4 * (M 401 18)) + p1) (fun x1 => (if (x1 : Int32) < 0 ∨ 8 ≤ (x1 : Int32).toNatClampNeg then none else (if (x1 : Int32) < 0 ∨ 8 ≤ (x1 : Int32).toNatClampNeg then none else (if (M 425 (x1 : Int32).toNatClampNeg) ≤ (M 424 (x1 : Int32).toNatClampNeg) then J_Mod_asks_38 p3 p4 p2 M else bI2 (F_Mod_lawTells x1 M) (fun r8 M9 => J_Mod_asks_38 p3 p4 r8 M9)))))
set_option maxHeartbeats 4000000 in
set_option maxRecDepth 20000 in
theorem f_Mod_asks {l : Launch} {ld : Nat} {M : gM} {L : gL} {Q : Option Value → gM → gL → gR → Prop} (hld : isLa ld) {p1 : Int32} {p2 : Int32} {p3 : Int32} {p4 : Int32}  {q : Int32 × gM} (h : F_Mod_asks p1 p2 p3 p4 M = some q) (hQ : Q (some (.int q.1)) q.2 L (rf ld)) : Tm l y_Mod_asks (0, 0, 447) 447 [.ref 401, .int p1, .int p2, .int p3, .int p4] M L (rf ld) Q := by
  refine Tm.of (by decide) (Nat.le_of_ble_eq_true rfl) ?_
  show Wp l y_Mod_asks (0, 0, 447) 447 0 0 0 [(0, .ref 401), (1, .int p1), (2, .int p2), (3, .int p3), (4, .int p4)] [] M L (rf ld) Q
  unfold F_Mod_asks at h
  refine g_iconst (pc1 := 1) (v := 4) d_Mod_asks_0 rfl (by decide) ?_
  refine g_aload_n (pc1 := 2) d_Mod_asks_1 rfl 0 rfl ?_
  refine g_geti (pc1 := 5) d_Mod_asks_2 rfl ⟨_, fo_Mod_236⟩ sh_401 (by decide) ?_
  refine g_imul (pc1 := 6) d_Mod_asks_5 rfl ?_
  refine g_iload_n (pc1 := 7) d_Mod_asks_6 rfl 1 rfl ?_
  refine g_iadd (pc1 := 8) d_Mod_asks_7 rfl ?_
  refine Wp.lI h (fun x1 h => ?_)
  refine g_istore (pc1 := 10) (lv' := [(0, .ref 401), (1, .int p1), (2, .int p2), (3, .int p3), (4, .int p4), (5, .int x1)]) d_Mod_asks_8 rfl (by decide) [1, 2, 3, 4, 5, 0] rfl ?_
  refine g_iload_n (pc1 := 11) d_Mod_asks_10 rfl 2 rfl ?_
  refine g_istore (pc1 := 13) (lv' := [(0, .ref 401), (1, .int p1), (2, .int p2), (3, .int p3), (4, .int p4), (5, .int x1), (6, .int p2)]) d_Mod_asks_11 rfl (by decide) [1, 2, 3, 4, 5, 6, 0] rfl ?_
  refine g_aload_n (pc1 := 14) d_Mod_asks_13 rfl 0 rfl ?_
  refine g_getr (pc1 := 17) d_Mod_asks_14 rfl ⟨_, fo_Mod_85⟩ sh_401 (by decide) (rf_401_36 ld) ?_
  refine g_iload (pc1 := 19) d_Mod_asks_17 rfl 5 rfl ?_
  obtain ⟨g2, h⟩ := gdn h
  refine g_iald (pc1 := 20) d_Mod_asks_19 rfl sh_424 (by decide) g2 ?_
  refine g_aload_n (pc1 := 21) d_Mod_asks_20 rfl 0 rfl ?_
  refine g_getr (pc1 := 24) d_Mod_asks_21 rfl ⟨_, fo_Mod_88⟩ sh_401 (by decide) (rf_401_37 ld) ?_
  refine g_iload (pc1 := 26) d_Mod_asks_24 rfl 5 rfl ?_
  obtain ⟨g3, h⟩ := gdn h
  refine g_iald (pc1 := 27) d_Mod_asks_26 rfl sh_425 (by decide) g3 ?_
  refine g_icmp_ge (pc1 := 30) (tgt := 38) d_Mod_asks_27 (by decide) rfl (fun c4 => ?_) (fun c4 => ?_)
  · replace h := itp h c4
    refine Wp.loc (lv' := [(3, .int p3), (4, .int p4), (6, .int p2)]) [3, 4, 6] rfl ?_
    exact j_Mod_asks_38 hld  hQ  h
  · replace h := itn h c4
    refine g_aload_n (pc1 := 31) d_Mod_asks_30 rfl 0 rfl ?_
    refine g_iload (pc1 := 33) d_Mod_asks_31 rfl 5 rfl ?_
    refine g_callV0 (pc1 := 36) (As := [.int x1]) (rest := []) d_Mod_asks_33 rfl mo_Mod_327 mi_Mod_lawTells mv_Mod_lawTells rfl sh_401 (by decide) (by decide) rfl rfl (Nat.le_of_ble_eq_true rfl) ?_
    obtain ⟨r8, M9, hq7, h⟩ := bnd2 h
    refine f_Mod_lawTells hld  hq7 ?_
    dsimp only [psh]
    refine g_istore (pc1 := 38) (lv' := [(0, .ref 401), (1, .int p1), (2, .int p2), (3, .int p3), (4, .int p4), (5, .int x1), (6, .int r8)]) d_Mod_asks_36 rfl (by decide) [1, 2, 3, 4, 5, 6, 0] rfl ?_
    refine Wp.loc (lv' := [(3, .int p3), (4, .int p4), (6, .int r8)]) [3, 4, 6] rfl ?_
    exact j_Mod_asks_38 hld  hQ  h

def J_Mod_bounded_15 (v1 : Int32) (M : gM) : Option (Int32 × gM) :=
  bI (F_Mod_fail 1 M) (fun M3 => some (v1, M3))
set_option maxHeartbeats 4000000 in
set_option maxRecDepth 20000 in
theorem j_Mod_bounded_15 {l : Launch} {ld : Nat} {Q : Option Value → gM → gL → gR → Prop} (hld : isLa ld)   {q : Int32 × gM} {M : gM} {L : gL} (hQ : Q (some (.int q.1)) q.2 L (rf ld))  {v1 : Int32}  (h : J_Mod_bounded_15 v1 M = some q) : Wp l y_Mod_bounded (0, 0, 447) 447 0 0 15 [(0, .ref 401), (1, .int v1)] [] M L (rf ld) Q := by
  unfold J_Mod_bounded_15 at h
  refine g_aload_n (pc1 := 16) d_Mod_bounded_15 rfl 0 rfl ?_
  refine g_iconst (pc1 := 17) (v := 1) d_Mod_bounded_16 rfl (by decide) ?_
  refine g_callV0 (pc1 := 20) (As := [.int 1]) (rest := []) d_Mod_bounded_17 rfl mo_Mod_221 mi_Mod_fail mv_Mod_fail rfl sh_401 (by decide) (by decide) rfl rfl (Nat.le_of_ble_eq_true rfl) ?_
  obtain ⟨M3, hq2, h⟩ := bnd h
  refine f_Mod_fail hld  hq2 ?_
  dsimp only [psh]
  refine g_iload_n (pc1 := 21) d_Mod_bounded_20 rfl 1 rfl ?_
  refine g_ireturn (Or.inl rfl) d_Mod_bounded_21 rfl ?_
  cases h; exact hQ
def J_Mod_bounded_51 (v3 : Int32) (M : gM) : Option (Int32 × gM) :=
  bI (F_Mod_goesOn M) (fun M13 => some (v3, M13))
set_option maxHeartbeats 4000000 in
set_option maxRecDepth 20000 in
theorem j_Mod_bounded_51 {l : Launch} {ld : Nat} {Q : Option Value → gM → gL → gR → Prop} (hld : isLa ld)   {q : Int32 × gM} {M : gM} {L : gL} (hQ : Q (some (.int q.1)) q.2 L (rf ld))  {v3 : Int32}  (h : J_Mod_bounded_51 v3 M = some q) : Wp l y_Mod_bounded (0, 0, 447) 447 0 0 51 [(0, .ref 401), (3, .int v3)] [] M L (rf ld) Q := by
  unfold J_Mod_bounded_51 at h
  refine g_aload_n (pc1 := 52) d_Mod_bounded_51 rfl 0 rfl ?_
  refine g_callV0 (pc1 := 55) (As := []) (rest := []) d_Mod_bounded_52 rfl mo_Mod_227 mi_Mod_goesOn mv_Mod_goesOn rfl sh_401 (by decide) (by decide) rfl rfl (Nat.le_of_ble_eq_true rfl) ?_
  obtain ⟨M13, hq12, h⟩ := bnd h
  refine f_Mod_goesOn hld  hq12 ?_
  dsimp only [psh]
  refine g_iload_n (pc1 := 56) d_Mod_bounded_55 rfl 1 rfl ?_
  refine g_ireturn (Or.inl rfl) d_Mod_bounded_56 rfl ?_
  cases h; exact hQ
def J_Mod_bounded_42 (v3 : Int32) (M : gM) : Option (Int32 × gM) :=
  bI (F_Mod_wrong 5 (M 401 11) M) (fun M11 => J_Mod_bounded_51 v3 M11)
set_option maxHeartbeats 4000000 in
set_option maxRecDepth 20000 in
theorem j_Mod_bounded_42 {l : Launch} {ld : Nat} {Q : Option Value → gM → gL → gR → Prop} (hld : isLa ld)   {q : Int32 × gM} {M : gM} {L : gL} (hQ : Q (some (.int q.1)) q.2 L (rf ld))  {v3 : Int32}  (h : J_Mod_bounded_42 v3 M = some q) : Wp l y_Mod_bounded (0, 0, 447) 447 0 0 42 [(0, .ref 401), (3, .int v3)] [] M L (rf ld) Q := by
  unfold J_Mod_bounded_42 at h
  refine g_aload_n (pc1 := 43) d_Mod_bounded_42 rfl 0 rfl ?_
  refine g_iconst (pc1 := 44) (v := 5) d_Mod_bounded_43 rfl (by decide) ?_
  refine g_aload_n (pc1 := 45) d_Mod_bounded_44 rfl 0 rfl ?_
  refine g_geti (pc1 := 48) d_Mod_bounded_45 rfl ⟨_, fo_Mod_209⟩ sh_401 (by decide) ?_
  refine g_callV0 (pc1 := 51) (As := [.int 5, .int (M 401 11)]) (rest := []) d_Mod_bounded_48 rfl mo_Mod_287 mi_Mod_wrong mv_Mod_wrong rfl sh_401 (by decide) (by decide) rfl rfl (Nat.le_of_ble_eq_true rfl) ?_
  obtain ⟨M11, hq10, h⟩ := bnd h
  refine f_Mod_wrong hld  hq10 ?_
  dsimp only [psh]
  exact j_Mod_bounded_51 hld  hQ  h
def F_Mod_bounded (p1 : Int32) (p2 : Int32) (M : gM) : Option (Int32 × gM) :=
  (if 0 < (M 401 13) then J_Mod_bounded_15 p1 M else bI (F_Mod_is 2 M) (fun r5 => (if r5 = 0 then J_Mod_bounded_15 p1 M else (if ((M 401 11) : Int32) < 0 ∨ 403 ≤ ((M 401 11) : Int32).toNatClampNeg then none else nmI (M 406 ((M 401 11) : Int32).toNatClampNeg) (fun x8 => (if x8 < p1 then J_Mod_bounded_42 x8 M else (if x8 ≤ p2 then J_Mod_bounded_51 x8 M else J_Mod_bounded_42 x8 M)))))))
set_option maxHeartbeats 4000000 in
set_option maxRecDepth 20000 in
theorem f_Mod_bounded {l : Launch} {ld : Nat} {M : gM} {L : gL} {Q : Option Value → gM → gL → gR → Prop} (hld : isLa ld) {p1 : Int32} {p2 : Int32}  {q : Int32 × gM} (h : F_Mod_bounded p1 p2 M = some q) (hQ : Q (some (.int q.1)) q.2 L (rf ld)) : Tm l y_Mod_bounded (0, 0, 447) 447 [.ref 401, .int p1, .int p2] M L (rf ld) Q := by
  refine Tm.of (by decide) (Nat.le_of_ble_eq_true rfl) ?_
  show Wp l y_Mod_bounded (0, 0, 447) 447 0 0 0 [(0, .ref 401), (1, .int p1), (2, .int p2)] [] M L (rf ld) Q
  unfold F_Mod_bounded at h
  refine g_aload_n (pc1 := 1) d_Mod_bounded_0 rfl 0 rfl ?_
  refine g_geti (pc1 := 4) d_Mod_bounded_1 rfl ⟨_, fo_Mod_206⟩ sh_401 (by decide) ?_
  refine g_if_gt (pc1 := 7) (tgt := 15) d_Mod_bounded_4 (by decide) rfl (fun c1 => ?_) (fun c1 => ?_)
  · replace h := itp h c1
    refine Wp.loc (lv' := [(0, .ref 401), (1, .int p1)]) [0, 1] rfl ?_
    exact j_Mod_bounded_15 hld  hQ  h
  · replace h := itn h c1
    refine g_aload_n (pc1 := 8) d_Mod_bounded_7 rfl 0 rfl ?_
    refine g_iconst (pc1 := 9) (v := 2) d_Mod_bounded_8 rfl (by decide) ?_
    refine g_callV0 (pc1 := 12) (As := [.int 2]) (rest := []) d_Mod_bounded_9 rfl mo_Mod_224 mi_Mod_is mv_Mod_is rfl sh_401 (by decide) (by decide) rfl rfl (Nat.le_of_ble_eq_true rfl) ?_
    obtain ⟨r5, hq4, h⟩ := bnd h
    refine f_Mod_is hld  hq4 ?_
    dsimp only [psh]
    refine g_if_ne (pc1 := 15) (tgt := 22) d_Mod_bounded_12 (by decide) rfl (fun c6 => ?_) (fun c6 => ?_)
    · replace h := itn h c6
      refine g_aload_n (pc1 := 23) d_Mod_bounded_22 rfl 0 rfl ?_
      refine g_getr (pc1 := 26) d_Mod_bounded_23 rfl ⟨_, fo_Mod_27⟩ sh_401 (by decide) (rf_401_7 ld) ?_
      refine g_aload_n (pc1 := 27) d_Mod_bounded_26 rfl 0 rfl ?_
      refine g_geti (pc1 := 30) d_Mod_bounded_27 rfl ⟨_, fo_Mod_209⟩ sh_401 (by decide) ?_
      obtain ⟨g7, h⟩ := gdn h
      refine g_iald (pc1 := 31) d_Mod_bounded_30 rfl sh_406 (by decide) g7 ?_
      refine Wp.lI h (fun x8 h => ?_)
      refine g_istore_n (pc1 := 32) (lv' := [(0, .ref 401), (1, .int p1), (2, .int p2), (3, .int x8)]) d_Mod_bounded_31 rfl rfl (by decide) [1, 2, 3, 0] rfl ?_
      refine g_iload_n (pc1 := 33) d_Mod_bounded_32 rfl 3 rfl ?_
      refine g_iload_n (pc1 := 34) d_Mod_bounded_33 rfl 1 rfl ?_
      refine g_icmp_lt (pc1 := 37) (tgt := 42) d_Mod_bounded_34 (by decide) rfl (fun c9 => ?_) (fun c9 => ?_)
      · replace h := itp h c9
        refine Wp.loc (lv' := [(0, .ref 401), (3, .int x8)]) [0, 3] rfl ?_
        exact j_Mod_bounded_42 hld  hQ  h
      · replace h := itn h c9
        refine g_iload_n (pc1 := 38) d_Mod_bounded_37 rfl 3 rfl ?_
        refine g_iload_n (pc1 := 39) d_Mod_bounded_38 rfl 2 rfl ?_
        refine g_icmp_le (pc1 := 42) (tgt := 51) d_Mod_bounded_39 (by decide) rfl (fun c14 => ?_) (fun c14 => ?_)
        · replace h := itp h c14
          refine Wp.loc (lv' := [(0, .ref 401), (3, .int x8)]) [0, 3] rfl ?_
          exact j_Mod_bounded_51 hld  hQ  h
        · replace h := itn h c14
          refine Wp.loc (lv' := [(0, .ref 401), (3, .int x8)]) [0, 3] rfl ?_
          exact j_Mod_bounded_42 hld  hQ  h
    · replace h := itp h c6
      refine Wp.loc (lv' := [(0, .ref 401), (1, .int p1)]) [0, 1] rfl ?_
      exact j_Mod_bounded_15 hld  hQ  h

def J_Mod_cut_291 (K7 : Int32 → gM → gL → Option (gM × gL)) (v1 : Int32) (M : gM) (L : gL) : Option (gM × gL) :=
  K7 v1 M L
set_option maxHeartbeats 4000000 in
set_option maxRecDepth 20000 in
theorem j_Mod_cut_291 {l : Launch} {ld : Nat} {Q : Option Value → gM → gL → gR → Prop} (hld : isLa ld)   {q : gM × gL} {M : gM} {L : gL} (hQ : Q none q.1 q.2 (rf ld)) {K7 : Int32 → gM → gL → Option (gM × gL)} {v1 : Int32} (hK7 : ∀ (w1 : Int32) (M : gM) (L : gL), K7 w1 M L = some q → Wp l y_Mod_cut (0, 0, 447) 447 0 0 7 [(0, .ref 401), (1, .int w1)] [] M L (rf ld) Q) (h : J_Mod_cut_291 K7 v1 M L = some q) : Wp l y_Mod_cut (0, 0, 447) 447 0 0 291 [(0, .ref 401), (1, .int v1)] [] M L (rf ld) Q := by
  unfold J_Mod_cut_291 at h
  refine g_goto (tgt := 7) d_Mod_cut_291 (by decide) ?_
  exact hK7 v1 M L h
def J_Mod_cut_67 (K7 : Int32 → gM → gL → Option (gM × gL)) (v1 : Int32) (M : gM) (L : gL) : Option (gM × gL) :=
  nmI (v1 + 1) (fun x7 => J_Mod_cut_291 K7 x7 M L)
set_option maxHeartbeats 4000000 in
set_option maxRecDepth 20000 in
theorem j_Mod_cut_67 {l : Launch} {ld : Nat} {Q : Option Value → gM → gL → gR → Prop} (hld : isLa ld)   {q : gM × gL} {M : gM} {L : gL} (hQ : Q none q.1 q.2 (rf ld)) {K7 : Int32 → gM → gL → Option (gM × gL)} {v1 : Int32} (hK7 : ∀ (w1 : Int32) (M : gM) (L : gL), K7 w1 M L = some q → Wp l y_Mod_cut (0, 0, 447) 447 0 0 7 [(0, .ref 401), (1, .int w1)] [] M L (rf ld) Q) (h : J_Mod_cut_67 K7 v1 M L = some q) : Wp l y_Mod_cut (0, 0, 447) 447 0 0 67 [(0, .ref 401), (1, .int v1)] [] M L (rf ld) Q := by
  unfold J_Mod_cut_67 at h
  obtain ⟨x7, ex7, h⟩ := ltI h
  refine g_iinc (pc1 := 70) (v := x7) (lv' := [(0, .ref 401), (1, .int x7)]) d_Mod_cut_67 rfl 1 rfl (by rw [ex7]; rfl) (by decide) [1, 0] rfl ?_
  refine g_goto (tgt := 291) d_Mod_cut_70 (by decide) ?_
  exact j_Mod_cut_291 hld  hQ hK7 h
def J_Mod_cut_261 (K7 : Int32 → gM → gL → Option (gM × gL)) (v1 : Int32) (v3 : Int32) (v4 : Int32) (s1 : Int32) (M : gM) (L : gL) : Option (gM × gL) :=
  bI2 (F_Mod_token s1 v1 v4 0 M L) (fun M31 L32 => nmI (v1 + v3) (fun x33 => J_Mod_cut_291 K7 x33 M31 L32))
set_option maxHeartbeats 4000000 in
set_option maxRecDepth 20000 in
theorem j_Mod_cut_261 {l : Launch} {ld : Nat} {Q : Option Value → gM → gL → gR → Prop} (hld : isLa ld)   {q : gM × gL} {M : gM} {L : gL} (hQ : Q none q.1 q.2 (rf ld)) {K7 : Int32 → gM → gL → Option (gM × gL)} {v1 : Int32} {v3 : Int32} {v4 : Int32} {s1 : Int32} (hK7 : ∀ (w1 : Int32) (M : gM) (L : gL), K7 w1 M L = some q → Wp l y_Mod_cut (0, 0, 447) 447 0 0 7 [(0, .ref 401), (1, .int w1)] [] M L (rf ld) Q) (h : J_Mod_cut_261 K7 v1 v3 v4 s1 M L = some q) : Wp l y_Mod_cut (0, 0, 447) 447 0 0 261 [(0, .ref 401), (1, .int v1), (3, .int v3), (4, .int v4)] [.int s1, .ref 401] M L (rf ld) Q := by
  unfold J_Mod_cut_261 at h
  refine g_iload_n (pc1 := 262) d_Mod_cut_261 rfl 1 rfl ?_
  refine g_iload (pc1 := 264) d_Mod_cut_262 rfl 3 rfl ?_
  refine g_lconst (pc1 := 265) (v := 0) d_Mod_cut_264 rfl (by decide) ?_
  refine g_callV0 (pc1 := 268) (As := [.int s1, .int v1, .int v4, .long 0]) (rest := []) d_Mod_cut_265 rfl mo_Mod_191 mi_Mod_token mv_Mod_token rfl sh_401 (by decide) (by decide) rfl rfl (Nat.le_of_ble_eq_true rfl) ?_
  obtain ⟨M31, L32, hq30, h⟩ := bnd2 h
  refine f_Mod_token hld  hq30 ?_
  dsimp only [psh]
  refine g_iload_n (pc1 := 269) d_Mod_cut_268 rfl 1 rfl ?_
  refine g_iload_n (pc1 := 270) d_Mod_cut_269 rfl 2 rfl ?_
  refine g_iadd (pc1 := 271) d_Mod_cut_270 rfl ?_
  refine Wp.lI h (fun x33 h => ?_)
  refine g_istore_n (pc1 := 272) (lv' := [(0, .ref 401), (1, .int x33), (3, .int v3), (4, .int v4)]) d_Mod_cut_271 rfl rfl (by decide) [1, 0, 2, 3] rfl ?_
  refine g_goto (tgt := 291) d_Mod_cut_272 (by decide) ?_
  refine Wp.loc (lv' := [(0, .ref 401), (1, .int x33)]) [0, 1] rfl ?_
  exact j_Mod_cut_291 hld  hQ hK7 h
def J_Mod_cut_250 (K7 : Int32 → gM → gL → Option (gM × gL)) (v1 : Int32) (v3 : Int32) (v4 : Int32) (M : gM) (L : gL) : Option (gM × gL) :=
  (if v3 ≤ 4 then J_Mod_cut_261 K7 v1 v3 v4 2 M L else J_Mod_cut_261 K7 v1 v3 v4 3 M L)
set_option maxHeartbeats 4000000 in
set_option maxRecDepth 20000 in
theorem j_Mod_cut_250 {l : Launch} {ld : Nat} {Q : Option Value → gM → gL → gR → Prop} (hld : isLa ld)   {q : gM × gL} {M : gM} {L : gL} (hQ : Q none q.1 q.2 (rf ld)) {K7 : Int32 → gM → gL → Option (gM × gL)} {v1 : Int32} {v3 : Int32} {v4 : Int32} (hK7 : ∀ (w1 : Int32) (M : gM) (L : gL), K7 w1 M L = some q → Wp l y_Mod_cut (0, 0, 447) 447 0 0 7 [(0, .ref 401), (1, .int w1)] [] M L (rf ld) Q) (h : J_Mod_cut_250 K7 v1 v3 v4 M L = some q) : Wp l y_Mod_cut (0, 0, 447) 447 0 0 250 [(0, .ref 401), (1, .int v1), (3, .int v3), (4, .int v4)] [] M L (rf ld) Q := by
  unfold J_Mod_cut_250 at h
  refine g_aload_n (pc1 := 251) d_Mod_cut_250 rfl 0 rfl ?_
  refine g_iload_n (pc1 := 252) d_Mod_cut_251 rfl 2 rfl ?_
  refine g_iconst (pc1 := 253) (v := 4) d_Mod_cut_252 rfl (by decide) ?_
  refine g_icmp_le (pc1 := 256) (tgt := 260) d_Mod_cut_253 (by decide) rfl (fun c29 => ?_) (fun c29 => ?_)
  · replace h := itp h c29
    refine g_iconst (pc1 := 261) (v := 2) d_Mod_cut_260 rfl (by decide) ?_
    exact j_Mod_cut_261 hld  hQ hK7 h
  · replace h := itn h c29
    refine g_iconst (pc1 := 257) (v := 3) d_Mod_cut_256 rfl (by decide) ?_
    refine g_goto (tgt := 261) d_Mod_cut_257 (by decide) ?_
    exact j_Mod_cut_261 hld  hQ hK7 h
def J_Mod_cut_244 (K7 : Int32 → gM → gL → Option (gM × gL)) (K208 : Int32 → Int32 → Option (gM × gL)) (v1 : Int32) (v3 : Int32) (v4 : Int32) (M : gM) (L : gL) : Option (gM × gL) :=
  nmI (v3 + 1) (fun x35 => K208 x35 v4)
set_option maxHeartbeats 4000000 in
set_option maxRecDepth 20000 in
theorem j_Mod_cut_244 {l : Launch} {ld : Nat} {Q : Option Value → gM → gL → gR → Prop} (hld : isLa ld)   {q : gM × gL} {M : gM} {L : gL} (hQ : Q none q.1 q.2 (rf ld)) {K7 : Int32 → gM → gL → Option (gM × gL)} {K208 : Int32 → Int32 → Option (gM × gL)} {v1 : Int32} {v3 : Int32} {v4 : Int32} (hK7 : ∀ (w1 : Int32) (M : gM) (L : gL), K7 w1 M L = some q → Wp l y_Mod_cut (0, 0, 447) 447 0 0 7 [(0, .ref 401), (1, .int w1)] [] M L (rf ld) Q) (hK208 : ∀ (w3 : Int32) (w4 : Int32), K208 w3 w4 = some q → Wp l y_Mod_cut (0, 0, 447) 447 0 0 208 [(0, .ref 401), (1, .int v1), (3, .int w3), (4, .int w4)] [] M L (rf ld) Q) (h : J_Mod_cut_244 K7 K208 v1 v3 v4 M L = some q) : Wp l y_Mod_cut (0, 0, 447) 447 0 0 244 [(0, .ref 401), (1, .int v1), (3, .int v3), (4, .int v4)] [] M L (rf ld) Q := by
  unfold J_Mod_cut_244 at h
  obtain ⟨x35, ex35, h⟩ := ltI h
  refine g_iinc (pc1 := 247) (v := x35) (lv' := [(0, .ref 401), (1, .int v1), (3, .int x35), (4, .int v4)]) d_Mod_cut_244 rfl 2 rfl (by rw [ex35]; rfl) (by decide) [1, 2, 0, 3] rfl ?_
  refine g_goto (tgt := 208) d_Mod_cut_247 (by decide) ?_
  exact hK208 x35 v4 h
def B_Mod_cut_208 (K7 : Int32 → gM → gL → Option (gM × gL)) (v1 : Int32) (M : gM) (L : gL) (K208 : Int32 → Int32 → Option (gM × gL)) : Int32 → Int32 → Option (gM × gL) := fun v3 v4 =>
  bI (F_Mod_byteAt (v1 + v3) M) (fun r25 => bI (F_Mod_isDigit r25) (fun r27 => (if r27 = 0 then J_Mod_cut_250 K7 v1 v3 v4 M L else (if 4 ≤ v3 then J_Mod_cut_244 K7 K208 v1 v3 v4 M L else bI (F_Mod_byteAt (v1 + v3) M) (fun r37 => nmI (((10 * v4) + r37) - 48) (fun x38 => J_Mod_cut_244 K7 K208 v1 v3 x38 M L))))))
def H_Mod_cut_208 (K7 : Int32 → gM → gL → Option (gM × gL)) (v1 : Int32) (M : gM) (L : gL) : Nat → Int32 → Int32 → Option (gM × gL) := lpK (B_Mod_cut_208 K7 v1 M L) (fun _ _ => none)
set_option maxHeartbeats 4000000 in
set_option maxRecDepth 20000 in
theorem h_Mod_cut_208 {l : Launch} {ld : Nat} {Q : Option Value → gM → gL → gR → Prop} (hld : isLa ld)   {q : gM × gL} {M : gM} {L : gL} (hQ : Q none q.1 q.2 (rf ld)) {K7 : Int32 → gM → gL → Option (gM × gL)} {v1 : Int32} (hK7 : ∀ (w1 : Int32) (M : gM) (L : gL), K7 w1 M L = some q → Wp l y_Mod_cut (0, 0, 447) 447 0 0 7 [(0, .ref 401), (1, .int w1)] [] M L (rf ld) Q) : ∀ (f : Nat) (v3 : Int32) (v4 : Int32), H_Mod_cut_208 K7 v1 M L f v3 v4 = some q → Wp l y_Mod_cut (0, 0, 447) 447 0 0 208 [(0, .ref 401), (1, .int v1), (3, .int v3), (4, .int v4)] [] M L (rf ld) Q := by
  intro f
  induction f with
  | zero => intro v3 v4 h; cases h
  | succ f hK208 =>
    intro v3 v4 h
    replace h : B_Mod_cut_208 K7 v1 M L (H_Mod_cut_208 K7 v1 M L f) v3 v4 = some q := h
    unfold B_Mod_cut_208 at h
    refine g_aload_n (pc1 := 209) d_Mod_cut_208 rfl 0 rfl ?_
    refine g_iload_n (pc1 := 210) d_Mod_cut_209 rfl 1 rfl ?_
    refine g_iload_n (pc1 := 211) d_Mod_cut_210 rfl 2 rfl ?_
    refine g_iadd (pc1 := 212) d_Mod_cut_211 rfl ?_
    refine g_callV0 (pc1 := 215) (As := [.int (v1 + v3)]) (rest := []) d_Mod_cut_212 rfl mo_Mod_187 mi_Mod_byteAt mv_Mod_byteAt rfl sh_401 (by decide) (by decide) rfl rfl (Nat.le_of_ble_eq_true rfl) ?_
    obtain ⟨r25, hq24, h⟩ := bnd h
    refine f_Mod_byteAt hld  hq24 ?_
    dsimp only [psh]
    refine g_callS0 (pc1 := 218) (As := [.int r25]) (rest := []) d_Mod_cut_215 rfl mo_Mod_199 ms_Mod_isDigit (by decide) rfl rfl (Nat.le_of_ble_eq_true rfl) ?_
    obtain ⟨r27, hq26, h⟩ := bnd h
    refine f_Mod_isDigit hld  hq26 ?_
    dsimp only [psh]
    refine g_if_eq (pc1 := 221) (tgt := 250) d_Mod_cut_218 (by decide) rfl (fun c28 => ?_) (fun c28 => ?_)
    · replace h := itp h c28
      exact j_Mod_cut_250 hld  hQ hK7 h
    · replace h := itn h c28
      refine g_iload_n (pc1 := 222) d_Mod_cut_221 rfl 2 rfl ?_
      refine g_iconst (pc1 := 223) (v := 4) d_Mod_cut_222 rfl (by decide) ?_
      refine g_icmp_ge (pc1 := 226) (tgt := 244) d_Mod_cut_223 (by decide) rfl (fun c34 => ?_) (fun c34 => ?_)
      · replace h := itp h c34
        exact j_Mod_cut_244 hld  hQ hK7 hK208 h
      · replace h := itn h c34
        refine g_bipush (pc1 := 228) (v := 10) d_Mod_cut_226 rfl (by decide) ?_
        refine g_iload (pc1 := 230) d_Mod_cut_228 rfl 3 rfl ?_
        refine g_imul (pc1 := 231) d_Mod_cut_230 rfl ?_
        refine g_aload_n (pc1 := 232) d_Mod_cut_231 rfl 0 rfl ?_
        refine g_iload_n (pc1 := 233) d_Mod_cut_232 rfl 1 rfl ?_
        refine g_iload_n (pc1 := 234) d_Mod_cut_233 rfl 2 rfl ?_
        refine g_iadd (pc1 := 235) d_Mod_cut_234 rfl ?_
        refine g_callV0 (pc1 := 238) (As := [.int (v1 + v3)]) (rest := [.int (10 * v4)]) d_Mod_cut_235 rfl mo_Mod_187 mi_Mod_byteAt mv_Mod_byteAt rfl sh_401 (by decide) (by decide) rfl rfl (Nat.le_of_ble_eq_true rfl) ?_
        obtain ⟨r37, hq36, h⟩ := bnd h
        refine f_Mod_byteAt hld  hq36 ?_
        dsimp only [psh]
        refine g_iadd (pc1 := 239) d_Mod_cut_238 rfl ?_
        refine g_bipush (pc1 := 241) (v := 48) d_Mod_cut_239 rfl (by decide) ?_
        refine g_isub (pc1 := 242) d_Mod_cut_241 rfl ?_
        refine Wp.lI h (fun x38 h => ?_)
        refine g_istore (pc1 := 244) (lv' := [(0, .ref 401), (1, .int v1), (3, .int v3), (4, .int x38)]) d_Mod_cut_242 rfl (by decide) [1, 2, 3, 0] rfl ?_
        exact j_Mod_cut_244 hld  hQ hK7 hK208 h
def J_Mod_cut_179 (K7 : Int32 → gM → gL → Option (gM × gL)) (v1 : Int32) (v3 : Int32) (v4 : Int64) (v6 : Int32) (M : gM) (L : gL) : Option (gM × gL) :=
  bI2 (F_Mod_token v6 v1 0 v4 M L) (fun M47 L48 => nmI (v1 + v3) (fun x49 => J_Mod_cut_291 K7 x49 M47 L48))
set_option maxHeartbeats 4000000 in
set_option maxRecDepth 20000 in
theorem j_Mod_cut_179 {l : Launch} {ld : Nat} {Q : Option Value → gM → gL → gR → Prop} (hld : isLa ld)   {q : gM × gL} {M : gM} {L : gL} (hQ : Q none q.1 q.2 (rf ld)) {K7 : Int32 → gM → gL → Option (gM × gL)} {v1 : Int32} {v3 : Int32} {v4 : Int64} {v6 : Int32} (hK7 : ∀ (w1 : Int32) (M : gM) (L : gL), K7 w1 M L = some q → Wp l y_Mod_cut (0, 0, 447) 447 0 0 7 [(0, .ref 401), (1, .int w1)] [] M L (rf ld) Q) (h : J_Mod_cut_179 K7 v1 v3 v4 v6 M L = some q) : Wp l y_Mod_cut (0, 0, 447) 447 0 0 179 [(0, .ref 401), (1, .int v1), (3, .int v3), (4, .long v4), (6, .int v6)] [] M L (rf ld) Q := by
  unfold J_Mod_cut_179 at h
  refine g_aload_n (pc1 := 180) d_Mod_cut_179 rfl 0 rfl ?_
  refine g_iload (pc1 := 182) d_Mod_cut_180 rfl 4 rfl ?_
  refine g_iload_n (pc1 := 183) d_Mod_cut_182 rfl 1 rfl ?_
  refine g_iconst (pc1 := 184) (v := 0) d_Mod_cut_183 rfl (by decide) ?_
  refine g_lload (pc1 := 186) d_Mod_cut_184 rfl 3 rfl ?_
  refine g_callV0 (pc1 := 189) (As := [.int v6, .int v1, .int 0, .long v4]) (rest := []) d_Mod_cut_186 rfl mo_Mod_191 mi_Mod_token mv_Mod_token rfl sh_401 (by decide) (by decide) rfl rfl (Nat.le_of_ble_eq_true rfl) ?_
  obtain ⟨M47, L48, hq46, h⟩ := bnd2 h
  refine f_Mod_token hld  hq46 ?_
  dsimp only [psh]
  refine g_iload_n (pc1 := 190) d_Mod_cut_189 rfl 1 rfl ?_
  refine g_iload_n (pc1 := 191) d_Mod_cut_190 rfl 2 rfl ?_
  refine g_iadd (pc1 := 192) d_Mod_cut_191 rfl ?_
  refine Wp.lI h (fun x49 h => ?_)
  refine g_istore_n (pc1 := 193) (lv' := [(0, .ref 401), (1, .int x49), (3, .int v3), (4, .long v4), (6, .int v6)]) d_Mod_cut_192 rfl rfl (by decide) [1, 0, 2, 3, 4] rfl ?_
  refine g_goto (tgt := 291) d_Mod_cut_193 (by decide) ?_
  refine Wp.loc (lv' := [(0, .ref 401), (1, .int x49)]) [0, 1] rfl ?_
  exact j_Mod_cut_291 hld  hQ hK7 h
def J_Mod_cut_173 (K7 : Int32 → gM → gL → Option (gM × gL)) (K146 : Int32 → Int32 → Option (gM × gL)) (v1 : Int32) (v3 : Int32) (v4 : Int64) (v6 : Int32) (v7 : Int32) (M : gM) (L : gL) : Option (gM × gL) :=
  nmI (v7 + 1) (fun x53 => K146 v6 x53)
set_option maxHeartbeats 4000000 in
set_option maxRecDepth 20000 in
theorem j_Mod_cut_173 {l : Launch} {ld : Nat} {Q : Option Value → gM → gL → gR → Prop} (hld : isLa ld)   {q : gM × gL} {M : gM} {L : gL} (hQ : Q none q.1 q.2 (rf ld)) {K7 : Int32 → gM → gL → Option (gM × gL)} {K146 : Int32 → Int32 → Option (gM × gL)} {v1 : Int32} {v3 : Int32} {v4 : Int64} {v6 : Int32} {v7 : Int32} (hK7 : ∀ (w1 : Int32) (M : gM) (L : gL), K7 w1 M L = some q → Wp l y_Mod_cut (0, 0, 447) 447 0 0 7 [(0, .ref 401), (1, .int w1)] [] M L (rf ld) Q) (hK146 : ∀ (w6 : Int32) (w7 : Int32), K146 w6 w7 = some q → Wp l y_Mod_cut (0, 0, 447) 447 0 0 146 [(0, .ref 401), (1, .int v1), (3, .int v3), (4, .long v4), (6, .int w6), (7, .int w7)] [] M L (rf ld) Q) (h : J_Mod_cut_173 K7 K146 v1 v3 v4 v6 v7 M L = some q) : Wp l y_Mod_cut (0, 0, 447) 447 0 0 173 [(0, .ref 401), (1, .int v1), (3, .int v3), (4, .long v4), (6, .int v6), (7, .int v7)] [] M L (rf ld) Q := by
  unfold J_Mod_cut_173 at h
  obtain ⟨x53, ex53, h⟩ := ltI h
  refine g_iinc (pc1 := 176) (v := x53) (lv' := [(0, .ref 401), (1, .int v1), (3, .int v3), (4, .long v4), (6, .int v6), (7, .int x53)]) d_Mod_cut_173 rfl 5 rfl (by rw [ex53]; rfl) (by decide) [1, 2, 3, 4, 5, 0] rfl ?_
  refine g_goto (tgt := 146) d_Mod_cut_176 (by decide) ?_
  exact hK146 v6 x53 h
def B_Mod_cut_146 (K7 : Int32 → gM → gL → Option (gM × gL)) (v1 : Int32) (v3 : Int32) (v4 : Int64) (M : gM) (L : gL) (K146 : Int32 → Int32 → Option (gM × gL)) : Int32 → Int32 → Option (gM × gL) := fun v6 v7 =>
  (if 21 ≤ v7 then J_Mod_cut_179 K7 v1 v3 v4 v6 M L else (if (v7 : Int32) < 0 ∨ 21 ≤ (v7 : Int32).toNatClampNeg then none else (if (lg_cmp (L 408 (v7 : Int32).toNatClampNeg) v4) = 0 then nmI (20 + v7) (fun x54 => J_Mod_cut_173 K7 K146 v1 v3 v4 x54 v7 M L) else J_Mod_cut_173 K7 K146 v1 v3 v4 v6 v7 M L)))
def H_Mod_cut_146 (K7 : Int32 → gM → gL → Option (gM × gL)) (v1 : Int32) (v3 : Int32) (v4 : Int64) (M : gM) (L : gL) : Nat → Int32 → Int32 → Option (gM × gL) := lpK (B_Mod_cut_146 K7 v1 v3 v4 M L) (fun _ _ => none)
set_option maxHeartbeats 4000000 in
set_option maxRecDepth 20000 in
theorem h_Mod_cut_146 {l : Launch} {ld : Nat} {Q : Option Value → gM → gL → gR → Prop} (hld : isLa ld)   {q : gM × gL} {M : gM} {L : gL} (hQ : Q none q.1 q.2 (rf ld)) {K7 : Int32 → gM → gL → Option (gM × gL)} {v1 : Int32} {v3 : Int32} {v4 : Int64} (hK7 : ∀ (w1 : Int32) (M : gM) (L : gL), K7 w1 M L = some q → Wp l y_Mod_cut (0, 0, 447) 447 0 0 7 [(0, .ref 401), (1, .int w1)] [] M L (rf ld) Q) : ∀ (f : Nat) (v6 : Int32) (v7 : Int32), H_Mod_cut_146 K7 v1 v3 v4 M L f v6 v7 = some q → Wp l y_Mod_cut (0, 0, 447) 447 0 0 146 [(0, .ref 401), (1, .int v1), (3, .int v3), (4, .long v4), (6, .int v6), (7, .int v7)] [] M L (rf ld) Q := by
  intro f
  induction f with
  | zero => intro v6 v7 h; cases h
  | succ f hK146 =>
    intro v6 v7 h
    replace h : B_Mod_cut_146 K7 v1 v3 v4 M L (H_Mod_cut_146 K7 v1 v3 v4 M L f) v6 v7 = some q := h
    unfold B_Mod_cut_146 at h
    refine g_iload (pc1 := 148) d_Mod_cut_146 rfl 5 rfl ?_
    refine g_bipush (pc1 := 150) (v := 21) d_Mod_cut_148 rfl (by decide) ?_
    refine g_icmp_ge (pc1 := 153) (tgt := 179) d_Mod_cut_150 (by decide) rfl (fun c50 => ?_) (fun c50 => ?_)
    · replace h := itp h c50
      refine Wp.loc (lv' := [(0, .ref 401), (1, .int v1), (3, .int v3), (4, .long v4), (6, .int v6)]) [0, 1, 2, 3, 4] rfl ?_
      exact j_Mod_cut_179 hld  hQ hK7 h
    · replace h := itn h c50
      refine g_aload_n (pc1 := 154) d_Mod_cut_153 rfl 0 rfl ?_
      refine g_getr (pc1 := 157) d_Mod_cut_154 rfl ⟨_, fo_Mod_34⟩ sh_401 (by decide) (rf_401_9 ld) ?_
      refine g_iload (pc1 := 159) d_Mod_cut_157 rfl 5 rfl ?_
      obtain ⟨g51, h⟩ := gdn h
      refine g_lald (pc1 := 160) d_Mod_cut_159 rfl sh_408 (by decide) g51 ?_
      refine g_lload (pc1 := 162) d_Mod_cut_160 rfl 3 rfl ?_
      refine g_lcmp (pc1 := 163) d_Mod_cut_162 rfl ?_
      refine g_if_ne (pc1 := 166) (tgt := 173) d_Mod_cut_163 (by decide) rfl (fun c52 => ?_) (fun c52 => ?_)
      · replace h := itn h c52
        exact j_Mod_cut_173 hld  hQ hK7 hK146 h
      · replace h := itp h c52
        refine g_bipush (pc1 := 168) (v := 20) d_Mod_cut_166 rfl (by decide) ?_
        refine g_iload (pc1 := 170) d_Mod_cut_168 rfl 5 rfl ?_
        refine g_iadd (pc1 := 171) d_Mod_cut_170 rfl ?_
        refine Wp.lI h (fun x54 h => ?_)
        refine g_istore (pc1 := 173) (lv' := [(0, .ref 401), (1, .int v1), (3, .int v3), (4, .long v4), (6, .int x54), (7, .int v7)]) d_Mod_cut_171 rfl (by decide) [1, 2, 3, 4, 0, 5] rfl ?_
        exact j_Mod_cut_173 hld  hQ hK7 hK146 h
def J_Mod_cut_135 (K7 : Int32 → gM → gL → Option (gM × gL)) (v1 : Int32) (v3 : Int32) (v4 : Int64) (s0 : Int32) (M : gM) (L : gL) : Option (gM × gL) :=
  (if 8 < v3 then J_Mod_cut_179 K7 v1 v3 v4 s0 M L else H_Mod_cut_146 K7 v1 v3 v4 M L FU s0 0)
set_option maxHeartbeats 4000000 in
set_option maxRecDepth 20000 in
theorem j_Mod_cut_135 {l : Launch} {ld : Nat} {Q : Option Value → gM → gL → gR → Prop} (hld : isLa ld)   {q : gM × gL} {M : gM} {L : gL} (hQ : Q none q.1 q.2 (rf ld)) {K7 : Int32 → gM → gL → Option (gM × gL)} {v1 : Int32} {v3 : Int32} {v4 : Int64} {s0 : Int32} (hK7 : ∀ (w1 : Int32) (M : gM) (L : gL), K7 w1 M L = some q → Wp l y_Mod_cut (0, 0, 447) 447 0 0 7 [(0, .ref 401), (1, .int w1)] [] M L (rf ld) Q) (h : J_Mod_cut_135 K7 v1 v3 v4 s0 M L = some q) : Wp l y_Mod_cut (0, 0, 447) 447 0 0 135 [(0, .ref 401), (1, .int v1), (3, .int v3), (4, .long v4)] [.int s0] M L (rf ld) Q := by
  unfold J_Mod_cut_135 at h
  refine g_istore (pc1 := 137) (lv' := [(0, .ref 401), (1, .int v1), (3, .int v3), (4, .long v4), (6, .int s0)]) d_Mod_cut_135 rfl (by decide) [1, 2, 3, 4, 0] rfl ?_
  refine g_iload_n (pc1 := 138) d_Mod_cut_137 rfl 2 rfl ?_
  refine g_bipush (pc1 := 140) (v := 8) d_Mod_cut_138 rfl (by decide) ?_
  refine g_icmp_gt (pc1 := 143) (tgt := 179) d_Mod_cut_140 (by decide) rfl (fun c45 => ?_) (fun c45 => ?_)
  · replace h := itp h c45
    exact j_Mod_cut_179 hld  hQ hK7 h
  · replace h := itn h c45
    refine g_iconst (pc1 := 144) (v := 0) d_Mod_cut_143 rfl (by decide) ?_
    refine g_istore (pc1 := 146) (lv' := [(0, .ref 401), (1, .int v1), (3, .int v3), (4, .long v4), (6, .int s0), (7, .int 0)]) d_Mod_cut_144 rfl (by decide) [1, 2, 3, 4, 5, 0] rfl ?_
    exact h_Mod_cut_146 hld  hQ hK7 _ s0 0 h
def J_Mod_cut_124 (K7 : Int32 → gM → gL → Option (gM × gL)) (v1 : Int32) (v3 : Int32) (v4 : Int64) (M : gM) (L : gL) : Option (gM × gL) :=
  (if v3 ≤ 8 then J_Mod_cut_135 K7 v1 v3 v4 1 M L else J_Mod_cut_135 K7 v1 v3 v4 3 M L)
set_option maxHeartbeats 4000000 in
set_option maxRecDepth 20000 in
theorem j_Mod_cut_124 {l : Launch} {ld : Nat} {Q : Option Value → gM → gL → gR → Prop} (hld : isLa ld)   {q : gM × gL} {M : gM} {L : gL} (hQ : Q none q.1 q.2 (rf ld)) {K7 : Int32 → gM → gL → Option (gM × gL)} {v1 : Int32} {v3 : Int32} {v4 : Int64} (hK7 : ∀ (w1 : Int32) (M : gM) (L : gL), K7 w1 M L = some q → Wp l y_Mod_cut (0, 0, 447) 447 0 0 7 [(0, .ref 401), (1, .int w1)] [] M L (rf ld) Q) (h : J_Mod_cut_124 K7 v1 v3 v4 M L = some q) : Wp l y_Mod_cut (0, 0, 447) 447 0 0 124 [(0, .ref 401), (1, .int v1), (3, .int v3), (4, .long v4)] [] M L (rf ld) Q := by
  unfold J_Mod_cut_124 at h
  refine g_iload_n (pc1 := 125) d_Mod_cut_124 rfl 2 rfl ?_
  refine g_bipush (pc1 := 127) (v := 8) d_Mod_cut_125 rfl (by decide) ?_
  refine g_icmp_le (pc1 := 130) (tgt := 134) d_Mod_cut_127 (by decide) rfl (fun c44 => ?_) (fun c44 => ?_)
  · replace h := itp h c44
    refine g_iconst (pc1 := 135) (v := 1) d_Mod_cut_134 rfl (by decide) ?_
    exact j_Mod_cut_135 hld  hQ hK7 h
  · replace h := itn h c44
    refine g_iconst (pc1 := 131) (v := 3) d_Mod_cut_130 rfl (by decide) ?_
    refine g_goto (tgt := 135) d_Mod_cut_131 (by decide) ?_
    exact j_Mod_cut_135 hld  hQ hK7 h
def J_Mod_cut_118 (K7 : Int32 → gM → gL → Option (gM × gL)) (K85 : Int32 → Int64 → Option (gM × gL)) (v1 : Int32) (v3 : Int32) (v4 : Int64) (M : gM) (L : gL) : Option (gM × gL) :=
  nmI (v3 + 1) (fun x56 => K85 x56 v4)
set_option maxHeartbeats 4000000 in
set_option maxRecDepth 20000 in
theorem j_Mod_cut_118 {l : Launch} {ld : Nat} {Q : Option Value → gM → gL → gR → Prop} (hld : isLa ld)   {q : gM × gL} {M : gM} {L : gL} (hQ : Q none q.1 q.2 (rf ld)) {K7 : Int32 → gM → gL → Option (gM × gL)} {K85 : Int32 → Int64 → Option (gM × gL)} {v1 : Int32} {v3 : Int32} {v4 : Int64} (hK7 : ∀ (w1 : Int32) (M : gM) (L : gL), K7 w1 M L = some q → Wp l y_Mod_cut (0, 0, 447) 447 0 0 7 [(0, .ref 401), (1, .int w1)] [] M L (rf ld) Q) (hK85 : ∀ (w3 : Int32) (w4 : Int64), K85 w3 w4 = some q → Wp l y_Mod_cut (0, 0, 447) 447 0 0 85 [(0, .ref 401), (1, .int v1), (3, .int w3), (4, .long w4)] [] M L (rf ld) Q) (h : J_Mod_cut_118 K7 K85 v1 v3 v4 M L = some q) : Wp l y_Mod_cut (0, 0, 447) 447 0 0 118 [(0, .ref 401), (1, .int v1), (3, .int v3), (4, .long v4)] [] M L (rf ld) Q := by
  unfold J_Mod_cut_118 at h
  obtain ⟨x56, ex56, h⟩ := ltI h
  refine g_iinc (pc1 := 121) (v := x56) (lv' := [(0, .ref 401), (1, .int v1), (3, .int x56), (4, .long v4)]) d_Mod_cut_118 rfl 2 rfl (by rw [ex56]; rfl) (by decide) [1, 2, 0, 3] rfl ?_
  refine g_goto (tgt := 85) d_Mod_cut_121 (by decide) ?_
  exact hK85 x56 v4 h
def B_Mod_cut_85 (K7 : Int32 → gM → gL → Option (gM × gL)) (v1 : Int32) (M : gM) (L : gL) (K85 : Int32 → Int64 → Option (gM × gL)) : Int32 → Int64 → Option (gM × gL) := fun v3 v4 =>
  bI (F_Mod_byteAt (v1 + v3) M) (fun r40 => bI (F_Mod_isLetter r40) (fun r42 => (if r42 = 0 then J_Mod_cut_124 K7 v1 v3 v4 M L else (if 8 ≤ v3 then J_Mod_cut_118 K7 K85 v1 v3 v4 M L else bI (F_Mod_byteAt (v1 + v3) M) (fun r58 => bI (F_Mod_appends v4 r58) (fun r60 => J_Mod_cut_118 K7 K85 v1 v3 r60 M L))))))
def H_Mod_cut_85 (K7 : Int32 → gM → gL → Option (gM × gL)) (v1 : Int32) (M : gM) (L : gL) : Nat → Int32 → Int64 → Option (gM × gL) := lpK (B_Mod_cut_85 K7 v1 M L) (fun _ _ => none)
set_option maxHeartbeats 4000000 in
set_option maxRecDepth 20000 in
theorem h_Mod_cut_85 {l : Launch} {ld : Nat} {Q : Option Value → gM → gL → gR → Prop} (hld : isLa ld)   {q : gM × gL} {M : gM} {L : gL} (hQ : Q none q.1 q.2 (rf ld)) {K7 : Int32 → gM → gL → Option (gM × gL)} {v1 : Int32} (hK7 : ∀ (w1 : Int32) (M : gM) (L : gL), K7 w1 M L = some q → Wp l y_Mod_cut (0, 0, 447) 447 0 0 7 [(0, .ref 401), (1, .int w1)] [] M L (rf ld) Q) : ∀ (f : Nat) (v3 : Int32) (v4 : Int64), H_Mod_cut_85 K7 v1 M L f v3 v4 = some q → Wp l y_Mod_cut (0, 0, 447) 447 0 0 85 [(0, .ref 401), (1, .int v1), (3, .int v3), (4, .long v4)] [] M L (rf ld) Q := by
  intro f
  induction f with
  | zero => intro v3 v4 h; cases h
  | succ f hK85 =>
    intro v3 v4 h
    replace h : B_Mod_cut_85 K7 v1 M L (H_Mod_cut_85 K7 v1 M L f) v3 v4 = some q := h
    unfold B_Mod_cut_85 at h
    refine g_aload_n (pc1 := 86) d_Mod_cut_85 rfl 0 rfl ?_
    refine g_iload_n (pc1 := 87) d_Mod_cut_86 rfl 1 rfl ?_
    refine g_iload_n (pc1 := 88) d_Mod_cut_87 rfl 2 rfl ?_
    refine g_iadd (pc1 := 89) d_Mod_cut_88 rfl ?_
    refine g_callV0 (pc1 := 92) (As := [.int (v1 + v3)]) (rest := []) d_Mod_cut_89 rfl mo_Mod_187 mi_Mod_byteAt mv_Mod_byteAt rfl sh_401 (by decide) (by decide) rfl rfl (Nat.le_of_ble_eq_true rfl) ?_
    obtain ⟨r40, hq39, h⟩ := bnd h
    refine f_Mod_byteAt hld  hq39 ?_
    dsimp only [psh]
    refine g_callS0 (pc1 := 95) (As := [.int r40]) (rest := []) d_Mod_cut_92 rfl mo_Mod_195 ms_Mod_isLetter (by decide) rfl rfl (Nat.le_of_ble_eq_true rfl) ?_
    obtain ⟨r42, hq41, h⟩ := bnd h
    refine f_Mod_isLetter hld  hq41 ?_
    dsimp only [psh]
    refine g_if_eq (pc1 := 98) (tgt := 124) d_Mod_cut_95 (by decide) rfl (fun c43 => ?_) (fun c43 => ?_)
    · replace h := itp h c43
      exact j_Mod_cut_124 hld  hQ hK7 h
    · replace h := itn h c43
      refine g_iload_n (pc1 := 99) d_Mod_cut_98 rfl 2 rfl ?_
      refine g_bipush (pc1 := 101) (v := 8) d_Mod_cut_99 rfl (by decide) ?_
      refine g_icmp_ge (pc1 := 104) (tgt := 118) d_Mod_cut_101 (by decide) rfl (fun c55 => ?_) (fun c55 => ?_)
      · replace h := itp h c55
        exact j_Mod_cut_118 hld  hQ hK7 hK85 h
      · replace h := itn h c55
        refine g_lload (pc1 := 106) d_Mod_cut_104 rfl 3 rfl ?_
        refine g_aload_n (pc1 := 107) d_Mod_cut_106 rfl 0 rfl ?_
        refine g_iload_n (pc1 := 108) d_Mod_cut_107 rfl 1 rfl ?_
        refine g_iload_n (pc1 := 109) d_Mod_cut_108 rfl 2 rfl ?_
        refine g_iadd (pc1 := 110) d_Mod_cut_109 rfl ?_
        refine g_callV0 (pc1 := 113) (As := [.int (v1 + v3)]) (rest := [.long v4]) d_Mod_cut_110 rfl mo_Mod_187 mi_Mod_byteAt mv_Mod_byteAt rfl sh_401 (by decide) (by decide) rfl rfl (Nat.le_of_ble_eq_true rfl) ?_
        obtain ⟨r58, hq57, h⟩ := bnd h
        refine f_Mod_byteAt hld  hq57 ?_
        dsimp only [psh]
        refine g_callS0 (pc1 := 116) (As := [.long v4, .int r58]) (rest := []) d_Mod_cut_113 rfl mo_Mod_180 ms_Mod_appends (by decide) rfl rfl (Nat.le_of_ble_eq_true rfl) ?_
        obtain ⟨r60, hq59, h⟩ := bnd h
        refine f_Mod_appends hld  hq59 ?_
        dsimp only [psh]
        refine g_lstore (pc1 := 118) (lv' := [(0, .ref 401), (1, .int v1), (3, .int v3), (4, .long r60)]) d_Mod_cut_116 rfl (by decide) [1, 2, 3, 0] rfl ?_
        exact j_Mod_cut_118 hld  hQ hK7 hK85 h
def J_Mod_cut_31 (M : gM) (L : gL) : Option (gM × gL) :=
  bI2 (F_Mod_token 0 (M 401 4) 0 0 M L) (fun M62 L63 => some (M62, L63))
set_option maxHeartbeats 4000000 in
set_option maxRecDepth 20000 in
theorem j_Mod_cut_31 {l : Launch} {ld : Nat} {Q : Option Value → gM → gL → gR → Prop} (hld : isLa ld)   {q : gM × gL} {M : gM} {L : gL} (hQ : Q none q.1 q.2 (rf ld))    (h : J_Mod_cut_31 M L = some q) : Wp l y_Mod_cut (0, 0, 447) 447 0 0 31 [(0, .ref 401)] [] M L (rf ld) Q := by
  unfold J_Mod_cut_31 at h
  refine g_aload_n (pc1 := 32) d_Mod_cut_31 rfl 0 rfl ?_
  refine g_iconst (pc1 := 33) (v := 0) d_Mod_cut_32 rfl (by decide) ?_
  refine g_aload_n (pc1 := 34) d_Mod_cut_33 rfl 0 rfl ?_
  refine g_geti (pc1 := 37) d_Mod_cut_34 rfl ⟨_, fo_Mod_175⟩ sh_401 (by decide) ?_
  refine g_iconst (pc1 := 38) (v := 0) d_Mod_cut_37 rfl (by decide) ?_
  refine g_lconst (pc1 := 39) (v := 0) d_Mod_cut_38 rfl (by decide) ?_
  refine g_callV0 (pc1 := 42) (As := [.int 0, .int (M 401 4), .int 0, .long 0]) (rest := []) d_Mod_cut_39 rfl mo_Mod_191 mi_Mod_token mv_Mod_token rfl sh_401 (by decide) (by decide) rfl rfl (Nat.le_of_ble_eq_true rfl) ?_
  obtain ⟨M62, L63, hq61, h⟩ := bnd2 h
  refine f_Mod_token hld  hq61 ?_
  dsimp only [psh]
  refine g_return rfl d_Mod_cut_42 rfl ?_
  cases h; exact hQ
def B_Mod_cut_7  (K7 : Int32 → gM → gL → Option (gM × gL)) : Int32 → gM → gL → Option (gM × gL) := fun v1 M L =>
  (if 400 < (M 401 10) then some (M, L) else bI (F_Mod_byteAt v1 M) (fun r4 => (if v1 < (M 401 4) then (if r4 = 9 then J_Mod_cut_67 K7 v1 M L else (if r4 = 10 then J_Mod_cut_67 K7 v1 M L else (if r4 = 13 then J_Mod_cut_67 K7 v1 M L else (if r4 = 32 then J_Mod_cut_67 K7 v1 M L else bI (F_Mod_isLetter r4) (fun r12 => (if r12 = 0 then bI (F_Mod_isDigit r4) (fun r15 => (if r15 = 0 then bI (F_Mod_byteAt (v1 + 1) M) (fun r18 => bI3 (F_Mod_sign v1 r4 r18 M L) (fun r20 M21 L22 => nmI (v1 + r20) (fun x23 => J_Mod_cut_291 K7 x23 M21 L22))) else H_Mod_cut_208 K7 v1 M L FU 0 0)) else H_Mod_cut_85 K7 v1 M L FU 0 0)))))) else J_Mod_cut_31 M L)))
def H_Mod_cut_7  : Nat → Int32 → gM → gL → Option (gM × gL) := lpK (B_Mod_cut_7 ) (fun _ _ _ => none)
set_option maxHeartbeats 4000000 in
set_option maxRecDepth 20000 in
theorem h_Mod_cut_7 {l : Launch} {ld : Nat} {Q : Option Value → gM → gL → gR → Prop} (hld : isLa ld)   {q : gM × gL} (hQ : Q none q.1 q.2 (rf ld))    : ∀ (f : Nat) (v1 : Int32) (M : gM) (L : gL), H_Mod_cut_7  f v1 M L = some q → Wp l y_Mod_cut (0, 0, 447) 447 0 0 7 [(0, .ref 401), (1, .int v1)] [] M L (rf ld) Q := by
  intro f
  induction f with
  | zero => intro v1 M L h; cases h
  | succ f hK7 =>
    intro v1 M L h
    replace h : B_Mod_cut_7  (H_Mod_cut_7  f) v1 M L = some q := h
    unfold B_Mod_cut_7 at h
    refine g_aload_n (pc1 := 8) d_Mod_cut_7 rfl 0 rfl ?_
    refine g_geti (pc1 := 11) d_Mod_cut_8 rfl ⟨_, fo_Mod_184⟩ sh_401 (by decide) ?_
    refine g_sipush (pc1 := 14) (v := 400) d_Mod_cut_11 rfl (by decide) ?_
    refine g_icmp_gt (pc1 := 17) (tgt := 294) d_Mod_cut_14 (by decide) rfl (fun c2 => ?_) (fun c2 => ?_)
    · replace h := itp h c2
      refine g_return rfl d_Mod_cut_294 rfl ?_
      cases h; exact hQ
    · replace h := itn h c2
      refine g_aload_n (pc1 := 18) d_Mod_cut_17 rfl 0 rfl ?_
      refine g_iload_n (pc1 := 19) d_Mod_cut_18 rfl 1 rfl ?_
      refine g_callV0 (pc1 := 22) (As := [.int v1]) (rest := []) d_Mod_cut_19 rfl mo_Mod_187 mi_Mod_byteAt mv_Mod_byteAt rfl sh_401 (by decide) (by decide) rfl rfl (Nat.le_of_ble_eq_true rfl) ?_
      obtain ⟨r4, hq3, h⟩ := bnd h
      refine f_Mod_byteAt hld  hq3 ?_
      dsimp only [psh]
      refine g_istore_n (pc1 := 23) (lv' := [(0, .ref 401), (1, .int v1), (2, .int r4)]) d_Mod_cut_22 rfl rfl (by decide) [1, 2, 0] rfl ?_
      refine g_iload_n (pc1 := 24) d_Mod_cut_23 rfl 1 rfl ?_
      refine g_aload_n (pc1 := 25) d_Mod_cut_24 rfl 0 rfl ?_
      refine g_geti (pc1 := 28) d_Mod_cut_25 rfl ⟨_, fo_Mod_175⟩ sh_401 (by decide) ?_
      refine g_icmp_lt (pc1 := 31) (tgt := 43) d_Mod_cut_28 (by decide) rfl (fun c5 => ?_) (fun c5 => ?_)
      · replace h := itp h c5
        refine g_iload_n (pc1 := 44) d_Mod_cut_43 rfl 2 rfl ?_
        refine g_bipush (pc1 := 46) (v := 9) d_Mod_cut_44 rfl (by decide) ?_
        refine g_icmp_eq (pc1 := 49) (tgt := 67) d_Mod_cut_46 (by decide) rfl (fun c6 => ?_) (fun c6 => ?_)
        · replace h := itp h c6
          refine Wp.loc (lv' := [(0, .ref 401), (1, .int v1)]) [0, 1] rfl ?_
          exact j_Mod_cut_67 hld  hQ hK7 h
        · replace h := itn h c6
          refine g_iload_n (pc1 := 50) d_Mod_cut_49 rfl 2 rfl ?_
          refine g_bipush (pc1 := 52) (v := 10) d_Mod_cut_50 rfl (by decide) ?_
          refine g_icmp_eq (pc1 := 55) (tgt := 67) d_Mod_cut_52 (by decide) rfl (fun c8 => ?_) (fun c8 => ?_)
          · replace h := itp h c8
            refine Wp.loc (lv' := [(0, .ref 401), (1, .int v1)]) [0, 1] rfl ?_
            exact j_Mod_cut_67 hld  hQ hK7 h
          · replace h := itn h c8
            refine g_iload_n (pc1 := 56) d_Mod_cut_55 rfl 2 rfl ?_
            refine g_bipush (pc1 := 58) (v := 13) d_Mod_cut_56 rfl (by decide) ?_
            refine g_icmp_eq (pc1 := 61) (tgt := 67) d_Mod_cut_58 (by decide) rfl (fun c9 => ?_) (fun c9 => ?_)
            · replace h := itp h c9
              refine Wp.loc (lv' := [(0, .ref 401), (1, .int v1)]) [0, 1] rfl ?_
              exact j_Mod_cut_67 hld  hQ hK7 h
            · replace h := itn h c9
              refine g_iload_n (pc1 := 62) d_Mod_cut_61 rfl 2 rfl ?_
              refine g_bipush (pc1 := 64) (v := 32) d_Mod_cut_62 rfl (by decide) ?_
              refine g_icmp_ne (pc1 := 67) (tgt := 73) d_Mod_cut_64 (by decide) rfl (fun c10 => ?_) (fun c10 => ?_)
              · replace h := itn h c10
                refine g_iload_n (pc1 := 74) d_Mod_cut_73 rfl 2 rfl ?_
                refine g_callS0 (pc1 := 77) (As := [.int r4]) (rest := []) d_Mod_cut_74 rfl mo_Mod_195 ms_Mod_isLetter (by decide) rfl rfl (Nat.le_of_ble_eq_true rfl) ?_
                obtain ⟨r12, hq11, h⟩ := bnd h
                refine f_Mod_isLetter hld  hq11 ?_
                dsimp only [psh]
                refine g_if_eq (pc1 := 80) (tgt := 196) d_Mod_cut_77 (by decide) rfl (fun c13 => ?_) (fun c13 => ?_)
                · replace h := itp h c13
                  refine g_iload_n (pc1 := 197) d_Mod_cut_196 rfl 2 rfl ?_
                  refine g_callS0 (pc1 := 200) (As := [.int r4]) (rest := []) d_Mod_cut_197 rfl mo_Mod_199 ms_Mod_isDigit (by decide) rfl rfl (Nat.le_of_ble_eq_true rfl) ?_
                  obtain ⟨r15, hq14, h⟩ := bnd h
                  refine f_Mod_isDigit hld  hq14 ?_
                  dsimp only [psh]
                  refine g_if_eq (pc1 := 203) (tgt := 275) d_Mod_cut_200 (by decide) rfl (fun c16 => ?_) (fun c16 => ?_)
                  · replace h := itp h c16
                    refine g_iload_n (pc1 := 276) d_Mod_cut_275 rfl 1 rfl ?_
                    refine g_aload_n (pc1 := 277) d_Mod_cut_276 rfl 0 rfl ?_
                    refine g_iload_n (pc1 := 278) d_Mod_cut_277 rfl 1 rfl ?_
                    refine g_iload_n (pc1 := 279) d_Mod_cut_278 rfl 2 rfl ?_
                    refine g_aload_n (pc1 := 280) d_Mod_cut_279 rfl 0 rfl ?_
                    refine g_iload_n (pc1 := 281) d_Mod_cut_280 rfl 1 rfl ?_
                    refine g_iconst (pc1 := 282) (v := 1) d_Mod_cut_281 rfl (by decide) ?_
                    refine g_iadd (pc1 := 283) d_Mod_cut_282 rfl ?_
                    refine g_callV0 (pc1 := 286) (As := [.int (v1 + 1)]) (rest := [.int r4, .int v1, .ref 401, .int v1]) d_Mod_cut_283 rfl mo_Mod_187 mi_Mod_byteAt mv_Mod_byteAt rfl sh_401 (by decide) (by decide) rfl rfl (Nat.le_of_ble_eq_true rfl) ?_
                    obtain ⟨r18, hq17, h⟩ := bnd h
                    refine f_Mod_byteAt hld  hq17 ?_
                    dsimp only [psh]
                    refine g_callV0 (pc1 := 289) (As := [.int v1, .int r4, .int r18]) (rest := [.int v1]) d_Mod_cut_286 rfl mo_Mod_202 mi_Mod_sign mv_Mod_sign rfl sh_401 (by decide) (by decide) rfl rfl (Nat.le_of_ble_eq_true rfl) ?_
                    obtain ⟨r20, M21, L22, hq19, h⟩ := bnd3 h
                    refine f_Mod_sign hld  hq19 ?_
                    dsimp only [psh]
                    refine g_iadd (pc1 := 290) d_Mod_cut_289 rfl ?_
                    refine Wp.lI h (fun x23 h => ?_)
                    refine g_istore_n (pc1 := 291) (lv' := [(0, .ref 401), (1, .int x23), (2, .int r4)]) d_Mod_cut_290 rfl rfl (by decide) [1, 0, 2] rfl ?_
                    refine Wp.loc (lv' := [(0, .ref 401), (1, .int x23)]) [0, 1] rfl ?_
                    exact j_Mod_cut_291 hld  hQ hK7 h
                  · replace h := itn h c16
                    refine g_iconst (pc1 := 204) (v := 0) d_Mod_cut_203 rfl (by decide) ?_
                    refine g_istore_n (pc1 := 205) (lv' := [(0, .ref 401), (1, .int v1), (2, .int r4), (3, .int 0)]) d_Mod_cut_204 rfl rfl (by decide) [1, 2, 3, 0] rfl ?_
                    refine g_iconst (pc1 := 206) (v := 0) d_Mod_cut_205 rfl (by decide) ?_
                    refine g_istore (pc1 := 208) (lv' := [(0, .ref 401), (1, .int v1), (2, .int r4), (3, .int 0), (4, .int 0)]) d_Mod_cut_206 rfl (by decide) [1, 2, 3, 4, 0] rfl ?_
                    refine Wp.loc (lv' := [(0, .ref 401), (1, .int v1), (3, .int 0), (4, .int 0)]) [0, 1, 3, 4] rfl ?_
                    exact h_Mod_cut_208 hld  hQ hK7 _ 0 0 h
                · replace h := itn h c13
                  refine g_iconst (pc1 := 81) (v := 0) d_Mod_cut_80 rfl (by decide) ?_
                  refine g_istore_n (pc1 := 82) (lv' := [(0, .ref 401), (1, .int v1), (2, .int r4), (3, .int 0)]) d_Mod_cut_81 rfl rfl (by decide) [1, 2, 3, 0] rfl ?_
                  refine g_lconst (pc1 := 83) (v := 0) d_Mod_cut_82 rfl (by decide) ?_
                  refine g_lstore (pc1 := 85) (lv' := [(0, .ref 401), (1, .int v1), (2, .int r4), (3, .int 0), (4, .long 0)]) d_Mod_cut_83 rfl (by decide) [1, 2, 3, 4, 0] rfl ?_
                  refine Wp.loc (lv' := [(0, .ref 401), (1, .int v1), (3, .int 0), (4, .long 0)]) [0, 1, 3, 4] rfl ?_
                  exact h_Mod_cut_85 hld  hQ hK7 _ 0 0 h
              · replace h := itp h c10
                refine Wp.loc (lv' := [(0, .ref 401), (1, .int v1)]) [0, 1] rfl ?_
                exact j_Mod_cut_67 hld  hQ hK7 h
      · replace h := itn h c5
        refine Wp.loc (lv' := [(0, .ref 401)]) [0] rfl ?_
        exact j_Mod_cut_31 hld  hQ  h
def F_Mod_cut (M : gM) (L : gL) : Option (gM × gL) :=
  nmM (uM M 401 10 0) (fun M1 => H_Mod_cut_7 FU 0 M1 L)
set_option maxHeartbeats 4000000 in
set_option maxRecDepth 20000 in
theorem f_Mod_cut {l : Launch} {ld : Nat} {M : gM} {L : gL} {Q : Option Value → gM → gL → gR → Prop} (hld : isLa ld)   {q : gM × gL} (h : F_Mod_cut M L = some q) (hQ : Q none q.1 q.2 (rf ld)) : Tm l y_Mod_cut (0, 0, 447) 447 [.ref 401] M L (rf ld) Q := by
  refine Tm.of (by decide) (Nat.le_of_ble_eq_true rfl) ?_
  show Wp l y_Mod_cut (0, 0, 447) 447 0 0 0 [(0, .ref 401)] [] M L (rf ld) Q
  unfold F_Mod_cut at h
  refine g_aload_n (pc1 := 1) d_Mod_cut_0 rfl 0 rfl ?_
  refine g_iconst (pc1 := 2) (v := 0) d_Mod_cut_1 rfl (by decide) ?_
  refine g_puti (pc1 := 5) d_Mod_cut_2 rfl fo_Mod_184 (po_12_10 _) sh_401 (by decide) ?_
  refine Wp.lM h (fun M1 h => ?_)
  refine g_iconst (pc1 := 6) (v := 0) d_Mod_cut_5 rfl (by decide) ?_
  refine g_istore_n (pc1 := 7) (lv' := [(0, .ref 401), (1, .int 0)]) d_Mod_cut_6 rfl rfl (by decide) [1, 0] rfl ?_
  exact h_Mod_cut_7 hld  hQ  _ 0 M1 L h

def F_Mod_fillsWay (p1 : Int32) (M : gM) : Option (Int32 × gM) :=
  bI (F_Mod_fillsPot (p1 / 13) M) (fun M2 => nmI (p1 - p1 / 13 * 13) (fun x3 => (if x3 = 0 then some (1, M2) else nmI ((x3 - 1) - (x3 - 1) / 6 * 6) (fun x5 => bI (F_Mod_isFood x5 M2) (fun r7 => (if r7 = 0 then some (0, M2) else (if 6 < x3 then (if (x5 : Int32) < 0 ∨ 6 ≤ (x5 : Int32).toNatClampNeg then none else (if (M2 438 (x5 : Int32).toNatClampNeg) = 0 then some (0, M2) else bI (F_Mod_potMany M2) (fun r13 => (if 2 ≤ r13 then (if (x5 : Int32) < 0 ∨ 6 ≤ (x5 : Int32).toNatClampNeg then none else (if (x5 : Int32) < 0 ∨ 6 ≤ (x5 : Int32).toNatClampNeg then none else nmM (uM M2 438 (x5 : Int32).toNatClampNeg ((M2 438 (x5 : Int32).toNatClampNeg) - 1)) (fun M17 => some (1, M17)))) else some (0, M2))))) else (if (x5 : Int32) < 0 ∨ 6 ≤ (x5 : Int32).toNatClampNeg then none else (if (x5 : Int32) < 0 ∨ 6 ≤ (x5 : Int32).toNatClampNeg then none else nmM (uM M2 438 (x5 : Int32).toNatClampNeg ((M2 438 (x5 : Int32).toNatClampNeg) + 1)) (fun M20 => some (1, M20)))))))))))
set_option maxHeartbeats 4000000 in
set_option maxRecDepth 20000 in
theorem f_Mod_fillsWay {l : Launch} {ld : Nat} {M : gM} {L : gL} {Q : Option Value → gM → gL → gR → Prop} (hld : isLa ld) {p1 : Int32}  {q : Int32 × gM} (h : F_Mod_fillsWay p1 M = some q) (hQ : Q (some (.int q.1)) q.2 L (rf ld)) : Tm l y_Mod_fillsWay (0, 0, 447) 447 [.ref 401, .int p1] M L (rf ld) Q := by
  refine Tm.of (by decide) (Nat.le_of_ble_eq_true rfl) ?_
  show Wp l y_Mod_fillsWay (0, 0, 447) 447 0 0 0 [(0, .ref 401), (1, .int p1)] [] M L (rf ld) Q
  unfold F_Mod_fillsWay at h
  refine g_aload_n (pc1 := 1) d_Mod_fillsWay_0 rfl 0 rfl ?_
  refine g_iload_n (pc1 := 2) d_Mod_fillsWay_1 rfl 1 rfl ?_
  refine g_bipush (pc1 := 4) (v := 13) d_Mod_fillsWay_2 rfl (by decide) ?_
  refine g_idiv (pc1 := 5) d_Mod_fillsWay_4 rfl (by decide) ?_
  refine g_callV0 (pc1 := 8) (As := [.int (p1 / 13)]) (rest := []) d_Mod_fillsWay_5 rfl mo_Mod_356 mi_Mod_fillsPot mv_Mod_fillsPot rfl sh_401 (by decide) (by decide) rfl rfl (Nat.le_of_ble_eq_true rfl) ?_
  obtain ⟨M2, hq1, h⟩ := bnd h
  refine f_Mod_fillsPot hld  hq1 ?_
  dsimp only [psh]
  refine g_iload_n (pc1 := 9) d_Mod_fillsWay_8 rfl 1 rfl ?_
  refine g_bipush (pc1 := 11) (v := 13) d_Mod_fillsWay_9 rfl (by decide) ?_
  refine g_irem (pc1 := 12) d_Mod_fillsWay_11 rfl (by decide) ?_
  refine Wp.lI h (fun x3 h => ?_)
  refine g_istore_n (pc1 := 13) (lv' := [(0, .ref 401), (1, .int p1), (2, .int x3)]) d_Mod_fillsWay_12 rfl rfl (by decide) [1, 2, 0] rfl ?_
  refine g_iload_n (pc1 := 14) d_Mod_fillsWay_13 rfl 2 rfl ?_
  refine g_if_ne (pc1 := 17) (tgt := 19) d_Mod_fillsWay_14 (by decide) rfl (fun c4 => ?_) (fun c4 => ?_)
  · replace h := itn h c4
    refine g_iload_n (pc1 := 20) d_Mod_fillsWay_19 rfl 2 rfl ?_
    refine g_iconst (pc1 := 21) (v := 1) d_Mod_fillsWay_20 rfl (by decide) ?_
    refine g_isub (pc1 := 22) d_Mod_fillsWay_21 rfl ?_
    refine g_bipush (pc1 := 24) (v := 6) d_Mod_fillsWay_22 rfl (by decide) ?_
    refine g_irem (pc1 := 25) d_Mod_fillsWay_24 rfl (by decide) ?_
    refine Wp.lI h (fun x5 h => ?_)
    refine g_istore_n (pc1 := 26) (lv' := [(0, .ref 401), (1, .int p1), (2, .int x3), (3, .int x5)]) d_Mod_fillsWay_25 rfl rfl (by decide) [1, 2, 3, 0] rfl ?_
    refine g_aload_n (pc1 := 27) d_Mod_fillsWay_26 rfl 0 rfl ?_
    refine g_iload_n (pc1 := 28) d_Mod_fillsWay_27 rfl 3 rfl ?_
    refine g_callV0 (pc1 := 31) (As := [.int x5]) (rest := []) d_Mod_fillsWay_28 rfl mo_Mod_371 mi_Mod_isFood mv_Mod_isFood rfl sh_401 (by decide) (by decide) rfl rfl (Nat.le_of_ble_eq_true rfl) ?_
    obtain ⟨r7, hq6, h⟩ := bnd h
    refine f_Mod_isFood hld  hq6 ?_
    dsimp only [psh]
    refine g_if_ne (pc1 := 34) (tgt := 36) d_Mod_fillsWay_31 (by decide) rfl (fun c8 => ?_) (fun c8 => ?_)
    · replace h := itn h c8
      refine g_iload_n (pc1 := 37) d_Mod_fillsWay_36 rfl 2 rfl ?_
      refine g_bipush (pc1 := 39) (v := 6) d_Mod_fillsWay_37 rfl (by decide) ?_
      refine g_icmp_gt (pc1 := 42) (tgt := 54) d_Mod_fillsWay_39 (by decide) rfl (fun c9 => ?_) (fun c9 => ?_)
      · replace h := itp h c9
        refine g_aload_n (pc1 := 55) d_Mod_fillsWay_54 rfl 0 rfl ?_
        refine g_getr (pc1 := 58) d_Mod_fillsWay_55 rfl ⟨_, fo_Mod_128⟩ sh_401 (by decide) (rf_401_55 ld) ?_
        refine g_iload_n (pc1 := 59) d_Mod_fillsWay_58 rfl 3 rfl ?_
        obtain ⟨g10, h⟩ := gdn h
        refine g_iald (pc1 := 60) d_Mod_fillsWay_59 rfl sh_438 (by decide) g10 ?_
        refine g_if_eq (pc1 := 63) (tgt := 71) d_Mod_fillsWay_60 (by decide) rfl (fun c11 => ?_) (fun c11 => ?_)
        · replace h := itp h c11
          refine g_iconst (pc1 := 72) (v := 0) d_Mod_fillsWay_71 rfl (by decide) ?_
          refine g_ireturn (Or.inr ⟨rfl, rfl⟩) d_Mod_fillsWay_72 rfl ?_
          cases h; exact hQ
        · replace h := itn h c11
          refine g_aload_n (pc1 := 64) d_Mod_fillsWay_63 rfl 0 rfl ?_
          refine g_callV0 (pc1 := 67) (As := []) (rest := []) d_Mod_fillsWay_64 rfl mo_Mod_339 mi_Mod_potMany mv_Mod_potMany rfl sh_401 (by decide) (by decide) rfl rfl (Nat.le_of_ble_eq_true rfl) ?_
          obtain ⟨r13, hq12, h⟩ := bnd h
          refine f_Mod_potMany hld  hq12 ?_
          dsimp only [psh]
          refine g_iconst (pc1 := 68) (v := 2) d_Mod_fillsWay_67 rfl (by decide) ?_
          refine g_icmp_ge (pc1 := 71) (tgt := 73) d_Mod_fillsWay_68 (by decide) rfl (fun c14 => ?_) (fun c14 => ?_)
          · replace h := itp h c14
            refine g_aload_n (pc1 := 74) d_Mod_fillsWay_73 rfl 0 rfl ?_
            refine g_getr (pc1 := 77) d_Mod_fillsWay_74 rfl ⟨_, fo_Mod_128⟩ sh_401 (by decide) (rf_401_55 ld) ?_
            refine g_iload_n (pc1 := 78) d_Mod_fillsWay_77 rfl 3 rfl ?_
            refine g_dup2 (pc1 := 79) d_Mod_fillsWay_78 rfl rfl rfl ?_
            obtain ⟨g15, h⟩ := gdn h
            refine g_iald (pc1 := 80) d_Mod_fillsWay_79 rfl sh_438 (by decide) g15 ?_
            refine g_iconst (pc1 := 81) (v := 1) d_Mod_fillsWay_80 rfl (by decide) ?_
            refine g_isub (pc1 := 82) d_Mod_fillsWay_81 rfl ?_
            obtain ⟨g16, h⟩ := gdn h
            refine g_iast (pc1 := 83) d_Mod_fillsWay_82 rfl sh_438 (by decide) g16 ?_
            refine Wp.lM h (fun M17 h => ?_)
            refine g_iconst (pc1 := 84) (v := 1) d_Mod_fillsWay_83 rfl (by decide) ?_
            refine g_ireturn (Or.inr ⟨rfl, rfl⟩) d_Mod_fillsWay_84 rfl ?_
            cases h; exact hQ
          · replace h := itn h c14
            refine g_iconst (pc1 := 72) (v := 0) d_Mod_fillsWay_71 rfl (by decide) ?_
            refine g_ireturn (Or.inr ⟨rfl, rfl⟩) d_Mod_fillsWay_72 rfl ?_
            cases h; exact hQ
      · replace h := itn h c9
        refine g_aload_n (pc1 := 43) d_Mod_fillsWay_42 rfl 0 rfl ?_
        refine g_getr (pc1 := 46) d_Mod_fillsWay_43 rfl ⟨_, fo_Mod_128⟩ sh_401 (by decide) (rf_401_55 ld) ?_
        refine g_iload_n (pc1 := 47) d_Mod_fillsWay_46 rfl 3 rfl ?_
        refine g_dup2 (pc1 := 48) d_Mod_fillsWay_47 rfl rfl rfl ?_
        obtain ⟨g18, h⟩ := gdn h
        refine g_iald (pc1 := 49) d_Mod_fillsWay_48 rfl sh_438 (by decide) g18 ?_
        refine g_iconst (pc1 := 50) (v := 1) d_Mod_fillsWay_49 rfl (by decide) ?_
        refine g_iadd (pc1 := 51) d_Mod_fillsWay_50 rfl ?_
        obtain ⟨g19, h⟩ := gdn h
        refine g_iast (pc1 := 52) d_Mod_fillsWay_51 rfl sh_438 (by decide) g19 ?_
        refine Wp.lM h (fun M20 h => ?_)
        refine g_iconst (pc1 := 53) (v := 1) d_Mod_fillsWay_52 rfl (by decide) ?_
        refine g_ireturn (Or.inr ⟨rfl, rfl⟩) d_Mod_fillsWay_53 rfl ?_
        cases h; exact hQ
    · replace h := itp h c8
      refine g_iconst (pc1 := 35) (v := 0) d_Mod_fillsWay_34 rfl (by decide) ?_
      refine g_ireturn (Or.inr ⟨rfl, rfl⟩) d_Mod_fillsWay_35 rfl ?_
      cases h; exact hQ
  · replace h := itp h c4
    refine g_iconst (pc1 := 18) (v := 1) d_Mod_fillsWay_17 rfl (by decide) ?_
    refine g_ireturn (Or.inr ⟨rfl, rfl⟩) d_Mod_fillsWay_18 rfl ?_
    cases h; exact hQ

def F_Mod_food (p1 : Int32) (p2 : Int32) (M : gM) : Option (Int32) :=
  bI (F_Mod_isFood p1 M) (fun r2 => (if r2 = 0 then some (-1) else (if p2 = 0 then (if (p1 : Int32) < 0 ∨ 38 ≤ (p1 : Int32).toNatClampNeg then none else some (M 436 (p1 : Int32).toNatClampNeg)) else (if p2 = 1 then (if (((6 * (M 401 18)) + p1) : Int32) < 0 ∨ 12 ≤ (((6 * (M 401 18)) + p1) : Int32).toNatClampNeg then none else some (M 413 (((6 * (M 401 18)) + p1) : Int32).toNatClampNeg)) else (if p2 = 2 then (if ((((3 * ((6 * (M 401 18)) + p1)) + p2) - 2) : Int32) < 0 ∨ 36 ≤ ((((3 * ((6 * (M 401 18)) + p1)) + p2) - 2) : Int32).toNatClampNeg then none else some (M 414 ((((3 * ((6 * (M 401 18)) + p1)) + p2) - 2) : Int32).toNatClampNeg)) else (if p2 = 3 then (if ((((3 * ((6 * (M 401 18)) + p1)) + p2) - 2) : Int32) < 0 ∨ 36 ≤ ((((3 * ((6 * (M 401 18)) + p1)) + p2) - 2) : Int32).toNatClampNeg then none else some (M 414 ((((3 * ((6 * (M 401 18)) + p1)) + p2) - 2) : Int32).toNatClampNeg)) else (if p2 = 4 then (if ((((3 * ((6 * (M 401 18)) + p1)) + p2) - 2) : Int32) < 0 ∨ 36 ≤ ((((3 * ((6 * (M 401 18)) + p1)) + p2) - 2) : Int32).toNatClampNeg then none else some (M 414 ((((3 * ((6 * (M 401 18)) + p1)) + p2) - 2) : Int32).toNatClampNeg)) else some (-1))))))))
set_option maxHeartbeats 4000000 in
set_option maxRecDepth 20000 in
theorem f_Mod_food {l : Launch} {ld : Nat} {M : gM} {L : gL} {Q : Option Value → gM → gL → gR → Prop} (hld : isLa ld) {p1 : Int32} {p2 : Int32}  {q : Int32} (h : F_Mod_food p1 p2 M = some q) (hQ : Q (some (.int q)) M L (rf ld)) : Tm l y_Mod_food (0, 0, 447) 447 [.ref 401, .int p1, .int p2] M L (rf ld) Q := by
  refine Tm.of (by decide) (Nat.le_of_ble_eq_true rfl) ?_
  show Wp l y_Mod_food (0, 0, 447) 447 0 0 0 [(0, .ref 401), (1, .int p1), (2, .int p2)] [] M L (rf ld) Q
  unfold F_Mod_food at h
  refine g_aload_n (pc1 := 1) d_Mod_food_0 rfl 0 rfl ?_
  refine g_iload_n (pc1 := 2) d_Mod_food_1 rfl 1 rfl ?_
  refine g_callV0 (pc1 := 5) (As := [.int p1]) (rest := []) d_Mod_food_2 rfl mo_Mod_371 mi_Mod_isFood mv_Mod_isFood rfl sh_401 (by decide) (by decide) rfl rfl (Nat.le_of_ble_eq_true rfl) ?_
  obtain ⟨r2, hq1, h⟩ := bnd h
  refine f_Mod_isFood hld  hq1 ?_
  dsimp only [psh]
  refine g_if_ne (pc1 := 8) (tgt := 10) d_Mod_food_5 (by decide) rfl (fun c3 => ?_) (fun c3 => ?_)
  · replace h := itn h c3
    refine g_iload_n (pc1 := 11) d_Mod_food_10 rfl 2 rfl ?_
    by_cases c4 : p2 = 0
    · replace h := itp h c4
      refine g_tabK (tgt := 44) (off := 33) d_Mod_food_11 c4 (by decide) (by decide) (by decide) (by decide) ?_
      refine g_aload_n (pc1 := 45) d_Mod_food_44 rfl 0 rfl ?_
      refine g_getr (pc1 := 48) d_Mod_food_45 rfl ⟨_, fo_Mod_122⟩ sh_401 (by decide) (rf_401_52 ld) ?_
      refine g_iload_n (pc1 := 49) d_Mod_food_48 rfl 1 rfl ?_
      obtain ⟨g5, h⟩ := gdn h
      refine g_iald (pc1 := 50) d_Mod_food_49 rfl sh_436 (by decide) g5 ?_
      refine g_ireturn (Or.inl rfl) d_Mod_food_50 rfl ?_
      cases h; exact hQ
    replace h := itn h c4
    by_cases c6 : p2 = 1
    · replace h := itp h c6
      refine g_tabK (tgt := 51) (off := 40) d_Mod_food_11 c6 (by decide) (by decide) (by decide) (by decide) ?_
      refine g_aload_n (pc1 := 52) d_Mod_food_51 rfl 0 rfl ?_
      refine g_getr (pc1 := 55) d_Mod_food_52 rfl ⟨_, fo_Mod_52⟩ sh_401 (by decide) (rf_401_25 ld) ?_
      refine g_bipush (pc1 := 57) (v := 6) d_Mod_food_55 rfl (by decide) ?_
      refine g_aload_n (pc1 := 58) d_Mod_food_57 rfl 0 rfl ?_
      refine g_geti (pc1 := 61) d_Mod_food_58 rfl ⟨_, fo_Mod_236⟩ sh_401 (by decide) ?_
      refine g_imul (pc1 := 62) d_Mod_food_61 rfl ?_
      refine g_iload_n (pc1 := 63) d_Mod_food_62 rfl 1 rfl ?_
      refine g_iadd (pc1 := 64) d_Mod_food_63 rfl ?_
      obtain ⟨g7, h⟩ := gdn h
      refine g_iald (pc1 := 65) d_Mod_food_64 rfl sh_413 (by decide) g7 ?_
      refine g_ireturn (Or.inl rfl) d_Mod_food_65 rfl ?_
      cases h; exact hQ
    replace h := itn h c6
    by_cases c8 : p2 = 2
    · replace h := itp h c8
      refine g_tabK (tgt := 66) (off := 55) d_Mod_food_11 c8 (by decide) (by decide) (by decide) (by decide) ?_
      refine g_aload_n (pc1 := 67) d_Mod_food_66 rfl 0 rfl ?_
      refine g_getr (pc1 := 70) d_Mod_food_67 rfl ⟨_, fo_Mod_55⟩ sh_401 (by decide) (rf_401_26 ld) ?_
      refine g_iconst (pc1 := 71) (v := 3) d_Mod_food_70 rfl (by decide) ?_
      refine g_bipush (pc1 := 73) (v := 6) d_Mod_food_71 rfl (by decide) ?_
      refine g_aload_n (pc1 := 74) d_Mod_food_73 rfl 0 rfl ?_
      refine g_geti (pc1 := 77) d_Mod_food_74 rfl ⟨_, fo_Mod_236⟩ sh_401 (by decide) ?_
      refine g_imul (pc1 := 78) d_Mod_food_77 rfl ?_
      refine g_iload_n (pc1 := 79) d_Mod_food_78 rfl 1 rfl ?_
      refine g_iadd (pc1 := 80) d_Mod_food_79 rfl ?_
      refine g_imul (pc1 := 81) d_Mod_food_80 rfl ?_
      refine g_iload_n (pc1 := 82) d_Mod_food_81 rfl 2 rfl ?_
      refine g_iadd (pc1 := 83) d_Mod_food_82 rfl ?_
      refine g_iconst (pc1 := 84) (v := 2) d_Mod_food_83 rfl (by decide) ?_
      refine g_isub (pc1 := 85) d_Mod_food_84 rfl ?_
      obtain ⟨g9, h⟩ := gdn h
      refine g_iald (pc1 := 86) d_Mod_food_85 rfl sh_414 (by decide) g9 ?_
      refine g_ireturn (Or.inl rfl) d_Mod_food_86 rfl ?_
      cases h; exact hQ
    replace h := itn h c8
    by_cases c10 : p2 = 3
    · replace h := itp h c10
      refine g_tabK (tgt := 66) (off := 55) d_Mod_food_11 c10 (by decide) (by decide) (by decide) (by decide) ?_
      refine g_aload_n (pc1 := 67) d_Mod_food_66 rfl 0 rfl ?_
      refine g_getr (pc1 := 70) d_Mod_food_67 rfl ⟨_, fo_Mod_55⟩ sh_401 (by decide) (rf_401_26 ld) ?_
      refine g_iconst (pc1 := 71) (v := 3) d_Mod_food_70 rfl (by decide) ?_
      refine g_bipush (pc1 := 73) (v := 6) d_Mod_food_71 rfl (by decide) ?_
      refine g_aload_n (pc1 := 74) d_Mod_food_73 rfl 0 rfl ?_
      refine g_geti (pc1 := 77) d_Mod_food_74 rfl ⟨_, fo_Mod_236⟩ sh_401 (by decide) ?_
      refine g_imul (pc1 := 78) d_Mod_food_77 rfl ?_
      refine g_iload_n (pc1 := 79) d_Mod_food_78 rfl 1 rfl ?_
      refine g_iadd (pc1 := 80) d_Mod_food_79 rfl ?_
      refine g_imul (pc1 := 81) d_Mod_food_80 rfl ?_
      refine g_iload_n (pc1 := 82) d_Mod_food_81 rfl 2 rfl ?_
      refine g_iadd (pc1 := 83) d_Mod_food_82 rfl ?_
      refine g_iconst (pc1 := 84) (v := 2) d_Mod_food_83 rfl (by decide) ?_
      refine g_isub (pc1 := 85) d_Mod_food_84 rfl ?_
      obtain ⟨g11, h⟩ := gdn h
      refine g_iald (pc1 := 86) d_Mod_food_85 rfl sh_414 (by decide) g11 ?_
      refine g_ireturn (Or.inl rfl) d_Mod_food_86 rfl ?_
      cases h; exact hQ
    replace h := itn h c10
    by_cases c12 : p2 = 4
    · replace h := itp h c12
      refine g_tabK (tgt := 66) (off := 55) d_Mod_food_11 c12 (by decide) (by decide) (by decide) (by decide) ?_
      refine g_aload_n (pc1 := 67) d_Mod_food_66 rfl 0 rfl ?_
      refine g_getr (pc1 := 70) d_Mod_food_67 rfl ⟨_, fo_Mod_55⟩ sh_401 (by decide) (rf_401_26 ld) ?_
      refine g_iconst (pc1 := 71) (v := 3) d_Mod_food_70 rfl (by decide) ?_
      refine g_bipush (pc1 := 73) (v := 6) d_Mod_food_71 rfl (by decide) ?_
      refine g_aload_n (pc1 := 74) d_Mod_food_73 rfl 0 rfl ?_
      refine g_geti (pc1 := 77) d_Mod_food_74 rfl ⟨_, fo_Mod_236⟩ sh_401 (by decide) ?_
      refine g_imul (pc1 := 78) d_Mod_food_77 rfl ?_
      refine g_iload_n (pc1 := 79) d_Mod_food_78 rfl 1 rfl ?_
      refine g_iadd (pc1 := 80) d_Mod_food_79 rfl ?_
      refine g_imul (pc1 := 81) d_Mod_food_80 rfl ?_
      refine g_iload_n (pc1 := 82) d_Mod_food_81 rfl 2 rfl ?_
      refine g_iadd (pc1 := 83) d_Mod_food_82 rfl ?_
      refine g_iconst (pc1 := 84) (v := 2) d_Mod_food_83 rfl (by decide) ?_
      refine g_isub (pc1 := 85) d_Mod_food_84 rfl ?_
      obtain ⟨g13, h⟩ := gdn h
      refine g_iald (pc1 := 86) d_Mod_food_85 rfl sh_414 (by decide) g13 ?_
      refine g_ireturn (Or.inl rfl) d_Mod_food_86 rfl ?_
      cases h; exact hQ
    replace h := itn h c12
    refine g_tabOut (tgt := 87) d_Mod_food_11 (by
      have nc4 := neT (a := 0) c4 (by decide)
      have nc6 := neT (a := 1) c6 (by decide)
      have nc8 := neT (a := 2) c8 (by decide)
      have nc10 := neT (a := 3) c10 (by decide)
      have nc12 := neT (a := 4) c12 (by decide)
      omega) (by decide) ?_
    refine g_iconst (pc1 := 88) (v := (-1)) d_Mod_food_87 rfl (by decide) ?_
    refine g_ireturn (Or.inl rfl) d_Mod_food_88 rfl ?_
    cases h; exact hQ
  · replace h := itp h c3
    refine g_iconst (pc1 := 9) (v := (-1)) d_Mod_food_8 rfl (by decide) ?_
    refine g_ireturn (Or.inl rfl) d_Mod_food_9 rfl ?_
    cases h; exact hQ

def F_Mod_must (p1 : Int32) (M : gM) : Option (gM) :=
  bI (F_Mod_is p1 M) (fun r2 => (if r2 = 0 then bI (F_Mod_fail 1 M) (fun M5 => some M5) else bI (F_Mod_goesOn M) (fun M7 => some M7)))
set_option maxHeartbeats 4000000 in
set_option maxRecDepth 20000 in
theorem f_Mod_must {l : Launch} {ld : Nat} {M : gM} {L : gL} {Q : Option Value → gM → gL → gR → Prop} (hld : isLa ld) {p1 : Int32}  {q : gM} (h : F_Mod_must p1 M = some q) (hQ : Q none q L (rf ld)) : Tm l y_Mod_must (0, 0, 447) 447 [.ref 401, .int p1] M L (rf ld) Q := by
  refine Tm.of (by decide) (Nat.le_of_ble_eq_true rfl) ?_
  show Wp l y_Mod_must (0, 0, 447) 447 0 0 0 [(0, .ref 401), (1, .int p1)] [] M L (rf ld) Q
  unfold F_Mod_must at h
  refine g_aload_n (pc1 := 1) d_Mod_must_0 rfl 0 rfl ?_
  refine g_iload_n (pc1 := 2) d_Mod_must_1 rfl 1 rfl ?_
  refine g_callV0 (pc1 := 5) (As := [.int p1]) (rest := []) d_Mod_must_2 rfl mo_Mod_224 mi_Mod_is mv_Mod_is rfl sh_401 (by decide) (by decide) rfl rfl (Nat.le_of_ble_eq_true rfl) ?_
  obtain ⟨r2, hq1, h⟩ := bnd h
  refine f_Mod_is hld  hq1 ?_
  dsimp only [psh]
  refine g_if_eq (pc1 := 8) (tgt := 15) d_Mod_must_5 (by decide) rfl (fun c3 => ?_) (fun c3 => ?_)
  · replace h := itp h c3
    refine g_aload_n (pc1 := 16) d_Mod_must_15 rfl 0 rfl ?_
    refine g_iconst (pc1 := 17) (v := 1) d_Mod_must_16 rfl (by decide) ?_
    refine g_callV0 (pc1 := 20) (As := [.int 1]) (rest := []) d_Mod_must_17 rfl mo_Mod_221 mi_Mod_fail mv_Mod_fail rfl sh_401 (by decide) (by decide) rfl rfl (Nat.le_of_ble_eq_true rfl) ?_
    obtain ⟨M5, hq4, h⟩ := bnd h
    refine f_Mod_fail hld  hq4 ?_
    dsimp only [psh]
    refine g_return rfl d_Mod_must_20 rfl ?_
    cases h; exact hQ
  · replace h := itn h c3
    refine g_aload_n (pc1 := 9) d_Mod_must_8 rfl 0 rfl ?_
    refine g_callV0 (pc1 := 12) (As := []) (rest := []) d_Mod_must_9 rfl mo_Mod_227 mi_Mod_goesOn mv_Mod_goesOn rfl sh_401 (by decide) (by decide) rfl rfl (Nat.le_of_ble_eq_true rfl) ?_
    obtain ⟨M7, hq6, h⟩ := bnd h
    refine f_Mod_goesOn hld  hq6 ?_
    dsimp only [psh]
    refine g_goto (tgt := 20) d_Mod_must_12 (by decide) ?_
    refine g_return rfl d_Mod_must_20 rfl ?_
    cases h; exact hQ

def J_Mod_often_78 (K25 : Int32 → Int32 → Option (Int32 × gM)) (v2 : Int32) (v3 : Int32) (M : gM) : Option (Int32 × gM) :=
  nmI (v3 + 1) (fun x12 => K25 v2 x12)
set_option maxHeartbeats 4000000 in
set_option maxRecDepth 20000 in
theorem j_Mod_often_78 {l : Launch} {ld : Nat} {Q : Option Value → gM → gL → gR → Prop} (hld : isLa ld)   {q : Int32 × gM} {M : gM} {L : gL} (hQ : Q (some (.int q.1)) q.2 L (rf ld)) {K25 : Int32 → Int32 → Option (Int32 × gM)} {v2 : Int32} {v3 : Int32} (hK25 : ∀ (w2 : Int32) (w3 : Int32), K25 w2 w3 = some q → Wp l y_Mod_often (0, 0, 447) 447 0 0 25 [(0, .ref 401), (2, .int w2), (3, .int w3)] [] M L (rf ld) Q) (h : J_Mod_often_78 K25 v2 v3 M = some q) : Wp l y_Mod_often (0, 0, 447) 447 0 0 78 [(0, .ref 401), (2, .int v2), (3, .int v3)] [] M L (rf ld) Q := by
  unfold J_Mod_often_78 at h
  obtain ⟨x12, ex12, h⟩ := ltI h
  refine g_iinc (pc1 := 81) (v := x12) (lv' := [(0, .ref 401), (2, .int v2), (3, .int x12)]) d_Mod_often_78 rfl 2 rfl (by rw [ex12]; rfl) (by decide) [1, 2, 0] rfl ?_
  refine g_goto (tgt := 25) d_Mod_often_81 (by decide) ?_
  exact hK25 v2 x12 h
def B_Mod_often_25 (M : gM) (K25 : Int32 → Int32 → Option (Int32 × gM)) : Int32 → Int32 → Option (Int32 × gM) := fun v2 v3 =>
  (if ((M 401 18) : Int32) < 0 ∨ 2 ≤ ((M 401 18) : Int32).toNatClampNeg then none else (if (M 411 ((M 401 18) : Int32).toNatClampNeg) ≤ v3 then some (v2, M) else (if (v3 : Int32) < 0 ∨ 6 ≤ (v3 : Int32).toNatClampNeg then none else (if (M 438 (v3 : Int32).toNatClampNeg) ≤ 0 then J_Mod_often_78 K25 v2 v3 M else (if (v3 : Int32) < 0 ∨ 38 ≤ (v3 : Int32).toNatClampNeg then none else (if (v3 : Int32) < 0 ∨ 6 ≤ (v3 : Int32).toNatClampNeg then none else (if (M 438 (v3 : Int32).toNatClampNeg) = 0 then none else (if v2 ≤ ((M 437 (v3 : Int32).toNatClampNeg) / (M 438 (v3 : Int32).toNatClampNeg)) then J_Mod_often_78 K25 v2 v3 M else (if (v3 : Int32) < 0 ∨ 38 ≤ (v3 : Int32).toNatClampNeg then none else (if (v3 : Int32) < 0 ∨ 6 ≤ (v3 : Int32).toNatClampNeg then none else (if (M 438 (v3 : Int32).toNatClampNeg) = 0 then none else nmI ((M 437 (v3 : Int32).toNatClampNeg) / (M 438 (v3 : Int32).toNatClampNeg)) (fun x20 => J_Mod_often_78 K25 x20 v3 M))))))))))))
def H_Mod_often_25 (M : gM) : Nat → Int32 → Int32 → Option (Int32 × gM) := lpK (B_Mod_often_25 M) (fun _ _ => none)
set_option maxHeartbeats 4000000 in
set_option maxRecDepth 20000 in
theorem h_Mod_often_25 {l : Launch} {ld : Nat} {Q : Option Value → gM → gL → gR → Prop} (hld : isLa ld)   {q : Int32 × gM} {M : gM} {L : gL} (hQ : Q (some (.int q.1)) q.2 L (rf ld))    : ∀ (f : Nat) (v2 : Int32) (v3 : Int32), H_Mod_often_25 M f v2 v3 = some q → Wp l y_Mod_often (0, 0, 447) 447 0 0 25 [(0, .ref 401), (2, .int v2), (3, .int v3)] [] M L (rf ld) Q := by
  intro f
  induction f with
  | zero => intro v2 v3 h; cases h
  | succ f hK25 =>
    intro v2 v3 h
    replace h : B_Mod_often_25 M (H_Mod_often_25 M f) v2 v3 = some q := h
    unfold B_Mod_often_25 at h
    refine g_iload_n (pc1 := 26) d_Mod_often_25 rfl 2 rfl ?_
    refine g_aload_n (pc1 := 27) d_Mod_often_26 rfl 0 rfl ?_
    refine g_getr (pc1 := 30) d_Mod_often_27 rfl ⟨_, fo_Mod_46⟩ sh_401 (by decide) (rf_401_23 ld) ?_
    refine g_aload_n (pc1 := 31) d_Mod_often_30 rfl 0 rfl ?_
    refine g_geti (pc1 := 34) d_Mod_often_31 rfl ⟨_, fo_Mod_236⟩ sh_401 (by decide) ?_
    obtain ⟨g8, h⟩ := gdn h
    refine g_iald (pc1 := 35) d_Mod_often_34 rfl sh_411 (by decide) g8 ?_
    refine g_icmp_ge (pc1 := 38) (tgt := 84) d_Mod_often_35 (by decide) rfl (fun c9 => ?_) (fun c9 => ?_)
    · replace h := itp h c9
      refine g_iload_n (pc1 := 85) d_Mod_often_84 rfl 1 rfl ?_
      refine g_ireturn (Or.inl rfl) d_Mod_often_85 rfl ?_
      cases h; exact hQ
    · replace h := itn h c9
      refine g_aload_n (pc1 := 39) d_Mod_often_38 rfl 0 rfl ?_
      refine g_getr (pc1 := 42) d_Mod_often_39 rfl ⟨_, fo_Mod_128⟩ sh_401 (by decide) (rf_401_55 ld) ?_
      refine g_iload_n (pc1 := 43) d_Mod_often_42 rfl 2 rfl ?_
      obtain ⟨g10, h⟩ := gdn h
      refine g_iald (pc1 := 44) d_Mod_often_43 rfl sh_438 (by decide) g10 ?_
      refine g_if_le (pc1 := 47) (tgt := 78) d_Mod_often_44 (by decide) rfl (fun c11 => ?_) (fun c11 => ?_)
      · replace h := itp h c11
        exact j_Mod_often_78 hld  hQ hK25 h
      · replace h := itn h c11
        refine g_aload_n (pc1 := 48) d_Mod_often_47 rfl 0 rfl ?_
        refine g_getr (pc1 := 51) d_Mod_often_48 rfl ⟨_, fo_Mod_125⟩ sh_401 (by decide) (rf_401_53 ld) ?_
        refine g_iload_n (pc1 := 52) d_Mod_often_51 rfl 2 rfl ?_
        obtain ⟨g13, h⟩ := gdn h
        refine g_iald (pc1 := 53) d_Mod_often_52 rfl sh_437 (by decide) g13 ?_
        refine g_aload_n (pc1 := 54) d_Mod_often_53 rfl 0 rfl ?_
        refine g_getr (pc1 := 57) d_Mod_often_54 rfl ⟨_, fo_Mod_128⟩ sh_401 (by decide) (rf_401_55 ld) ?_
        refine g_iload_n (pc1 := 58) d_Mod_often_57 rfl 2 rfl ?_
        obtain ⟨g14, h⟩ := gdn h
        refine g_iald (pc1 := 59) d_Mod_often_58 rfl sh_438 (by decide) g14 ?_
        obtain ⟨g15, h⟩ := gdn h
        refine g_idiv (pc1 := 60) d_Mod_often_59 rfl g15 ?_
        refine g_iload_n (pc1 := 61) d_Mod_often_60 rfl 1 rfl ?_
        refine g_icmp_ge (pc1 := 64) (tgt := 78) d_Mod_often_61 (by decide) rfl (fun c16 => ?_) (fun c16 => ?_)
        · replace h := itp h c16
          exact j_Mod_often_78 hld  hQ hK25 h
        · replace h := itn h c16
          refine g_aload_n (pc1 := 65) d_Mod_often_64 rfl 0 rfl ?_
          refine g_getr (pc1 := 68) d_Mod_often_65 rfl ⟨_, fo_Mod_125⟩ sh_401 (by decide) (rf_401_53 ld) ?_
          refine g_iload_n (pc1 := 69) d_Mod_often_68 rfl 2 rfl ?_
          obtain ⟨g17, h⟩ := gdn h
          refine g_iald (pc1 := 70) d_Mod_often_69 rfl sh_437 (by decide) g17 ?_
          refine g_aload_n (pc1 := 71) d_Mod_often_70 rfl 0 rfl ?_
          refine g_getr (pc1 := 74) d_Mod_often_71 rfl ⟨_, fo_Mod_128⟩ sh_401 (by decide) (rf_401_55 ld) ?_
          refine g_iload_n (pc1 := 75) d_Mod_often_74 rfl 2 rfl ?_
          obtain ⟨g18, h⟩ := gdn h
          refine g_iald (pc1 := 76) d_Mod_often_75 rfl sh_438 (by decide) g18 ?_
          obtain ⟨g19, h⟩ := gdn h
          refine g_idiv (pc1 := 77) d_Mod_often_76 rfl g19 ?_
          refine Wp.lI h (fun x20 h => ?_)
          refine g_istore_n (pc1 := 78) (lv' := [(0, .ref 401), (2, .int x20), (3, .int v3)]) d_Mod_often_77 rfl rfl (by decide) [1, 0, 2] rfl ?_
          exact j_Mod_often_78 hld  hQ hK25 h
def F_Mod_often (p1 : Int32) (M : gM) : Option (Int32 × gM) :=
  bI (F_Mod_isDish p1 M) (fun r2 => (if r2 = 0 then some ((-1), M) else bI (F_Mod_copies M) (fun M5 => bI (F_Mod_fillsPot p1 M5) (fun M7 => H_Mod_often_25 M7 FU 999 0))))
set_option maxHeartbeats 4000000 in
set_option maxRecDepth 20000 in
theorem f_Mod_often {l : Launch} {ld : Nat} {M : gM} {L : gL} {Q : Option Value → gM → gL → gR → Prop} (hld : isLa ld) {p1 : Int32}  {q : Int32 × gM} (h : F_Mod_often p1 M = some q) (hQ : Q (some (.int q.1)) q.2 L (rf ld)) : Tm l y_Mod_often (0, 0, 447) 447 [.ref 401, .int p1] M L (rf ld) Q := by
  refine Tm.of (by decide) (Nat.le_of_ble_eq_true rfl) ?_
  show Wp l y_Mod_often (0, 0, 447) 447 0 0 0 [(0, .ref 401), (1, .int p1)] [] M L (rf ld) Q
  unfold F_Mod_often at h
  refine g_aload_n (pc1 := 1) d_Mod_often_0 rfl 0 rfl ?_
  refine g_iload_n (pc1 := 2) d_Mod_often_1 rfl 1 rfl ?_
  refine g_callV0 (pc1 := 5) (As := [.int p1]) (rest := []) d_Mod_often_2 rfl mo_Mod_374 mi_Mod_isDish mv_Mod_isDish rfl sh_401 (by decide) (by decide) rfl rfl (Nat.le_of_ble_eq_true rfl) ?_
  obtain ⟨r2, hq1, h⟩ := bnd h
  refine f_Mod_isDish hld  hq1 ?_
  dsimp only [psh]
  refine g_if_ne (pc1 := 8) (tgt := 10) d_Mod_often_5 (by decide) rfl (fun c3 => ?_) (fun c3 => ?_)
  · replace h := itn h c3
    refine g_aload_n (pc1 := 11) d_Mod_often_10 rfl 0 rfl ?_
    refine g_callV0 (pc1 := 14) (As := []) (rest := []) d_Mod_often_11 rfl mo_Mod_377 mi_Mod_copies mv_Mod_copies rfl sh_401 (by decide) (by decide) rfl rfl (Nat.le_of_ble_eq_true rfl) ?_
    obtain ⟨M5, hq4, h⟩ := bnd h
    refine f_Mod_copies hld  hq4 ?_
    dsimp only [psh]
    refine g_aload_n (pc1 := 15) d_Mod_often_14 rfl 0 rfl ?_
    refine g_iload_n (pc1 := 16) d_Mod_often_15 rfl 1 rfl ?_
    refine g_callV0 (pc1 := 19) (As := [.int p1]) (rest := []) d_Mod_often_16 rfl mo_Mod_356 mi_Mod_fillsPot mv_Mod_fillsPot rfl sh_401 (by decide) (by decide) rfl rfl (Nat.le_of_ble_eq_true rfl) ?_
    obtain ⟨M7, hq6, h⟩ := bnd h
    refine f_Mod_fillsPot hld  hq6 ?_
    dsimp only [psh]
    refine g_sipush (pc1 := 22) (v := 999) d_Mod_often_19 rfl (by decide) ?_
    refine g_istore_n (pc1 := 23) (lv' := [(0, .ref 401), (1, .int p1), (2, .int 999)]) d_Mod_often_22 rfl rfl (by decide) [1, 2, 0] rfl ?_
    refine g_iconst (pc1 := 24) (v := 0) d_Mod_often_23 rfl (by decide) ?_
    refine g_istore_n (pc1 := 25) (lv' := [(0, .ref 401), (1, .int p1), (2, .int 999), (3, .int 0)]) d_Mod_often_24 rfl rfl (by decide) [1, 2, 3, 0] rfl ?_
    refine Wp.loc (lv' := [(0, .ref 401), (2, .int 999), (3, .int 0)]) [0, 2, 3] rfl ?_
    exact h_Mod_often_25 hld  hQ  _ 999 0 h
  · replace h := itp h c3
    refine g_iconst (pc1 := 9) (v := (-1)) d_Mod_often_8 rfl (by decide) ?_
    refine g_ireturn (Or.inl rfl) d_Mod_often_9 rfl ?_
    cases h; exact hQ

def J_Mod_roomFor_10 (M : gM) : Option (gM) :=
  (if (M 401 13) = 0 then bI (F_Mod_goesOn M) (fun M4 => some M4) else some M)
set_option maxHeartbeats 4000000 in
set_option maxRecDepth 20000 in
theorem j_Mod_roomFor_10 {l : Launch} {ld : Nat} {Q : Option Value → gM → gL → gR → Prop} (hld : isLa ld)   {q : gM} {M : gM} {L : gL} (hQ : Q none q L (rf ld))    (h : J_Mod_roomFor_10 M = some q) : Wp l y_Mod_roomFor (0, 0, 447) 447 0 0 10 [(0, .ref 401)] [] M L (rf ld) Q := by
  unfold J_Mod_roomFor_10 at h
  refine g_aload_n (pc1 := 11) d_Mod_roomFor_10 rfl 0 rfl ?_
  refine g_geti (pc1 := 14) d_Mod_roomFor_11 rfl ⟨_, fo_Mod_206⟩ sh_401 (by decide) ?_
  refine g_if_ne (pc1 := 17) (tgt := 21) d_Mod_roomFor_14 (by decide) rfl (fun c2 => ?_) (fun c2 => ?_)
  · replace h := itn h c2
    refine g_return rfl d_Mod_roomFor_21 rfl ?_
    cases h; exact hQ
  · replace h := itp h c2
    refine g_aload_n (pc1 := 18) d_Mod_roomFor_17 rfl 0 rfl ?_
    refine g_callV0 (pc1 := 21) (As := []) (rest := []) d_Mod_roomFor_18 rfl mo_Mod_227 mi_Mod_goesOn mv_Mod_goesOn rfl sh_401 (by decide) (by decide) rfl rfl (Nat.le_of_ble_eq_true rfl) ?_
    obtain ⟨M4, hq3, h⟩ := bnd h
    refine f_Mod_goesOn hld  hq3 ?_
    dsimp only [psh]
    refine g_return rfl d_Mod_roomFor_21 rfl ?_
    cases h; exact hQ
def F_Mod_roomFor (p1 : Int32) (p2 : Int32) (M : gM) : Option (gM) :=
  (if p1 = p2 then bI (F_Mod_fail 2 M) (fun M6 => J_Mod_roomFor_10 M6) else J_Mod_roomFor_10 M)
set_option maxHeartbeats 4000000 in
set_option maxRecDepth 20000 in
theorem f_Mod_roomFor {l : Launch} {ld : Nat} {M : gM} {L : gL} {Q : Option Value → gM → gL → gR → Prop} (hld : isLa ld) {p1 : Int32} {p2 : Int32}  {q : gM} (h : F_Mod_roomFor p1 p2 M = some q) (hQ : Q none q L (rf ld)) : Tm l y_Mod_roomFor (0, 0, 447) 447 [.ref 401, .int p1, .int p2] M L (rf ld) Q := by
  refine Tm.of (by decide) (Nat.le_of_ble_eq_true rfl) ?_
  show Wp l y_Mod_roomFor (0, 0, 447) 447 0 0 0 [(0, .ref 401), (1, .int p1), (2, .int p2)] [] M L (rf ld) Q
  unfold F_Mod_roomFor at h
  refine g_iload_n (pc1 := 1) d_Mod_roomFor_0 rfl 1 rfl ?_
  refine g_iload_n (pc1 := 2) d_Mod_roomFor_1 rfl 2 rfl ?_
  refine g_icmp_ne (pc1 := 5) (tgt := 10) d_Mod_roomFor_2 (by decide) rfl (fun c1 => ?_) (fun c1 => ?_)
  · replace h := itn h c1
    refine Wp.loc (lv' := [(0, .ref 401)]) [0] rfl ?_
    exact j_Mod_roomFor_10 hld  hQ  h
  · replace h := itp h c1
    refine g_aload_n (pc1 := 6) d_Mod_roomFor_5 rfl 0 rfl ?_
    refine g_iconst (pc1 := 7) (v := 2) d_Mod_roomFor_6 rfl (by decide) ?_
    refine g_callV0 (pc1 := 10) (As := [.int 2]) (rest := []) d_Mod_roomFor_7 rfl mo_Mod_221 mi_Mod_fail mv_Mod_fail rfl sh_401 (by decide) (by decide) rfl rfl (Nat.le_of_ble_eq_true rfl) ?_
    obtain ⟨M6, hq5, h⟩ := bnd h
    refine f_Mod_fail hld  hq5 ?_
    dsimp only [psh]
    refine Wp.loc (lv' := [(0, .ref 401)]) [0] rfl ?_
    exact j_Mod_roomFor_10 hld  hQ  h

def J_Mod_unit_88 (M : gM) : Option (gM) :=
  bI (F_Mod_fail 1 M) (fun M6 => some M6)
set_option maxHeartbeats 4000000 in
set_option maxRecDepth 20000 in
theorem j_Mod_unit_88 {l : Launch} {ld : Nat} {Q : Option Value → gM → gL → gR → Prop} (hld : isLa ld)   {q : gM} {M : gM} {L : gL} (hQ : Q none q L (rf ld))    (h : J_Mod_unit_88 M = some q) : Wp l y_Mod_unit (0, 0, 447) 447 0 0 88 [(0, .ref 401)] [] M L (rf ld) Q := by
  unfold J_Mod_unit_88 at h
  refine g_aload_n (pc1 := 89) d_Mod_unit_88 rfl 0 rfl ?_
  refine g_iconst (pc1 := 90) (v := 1) d_Mod_unit_89 rfl (by decide) ?_
  refine g_callV0 (pc1 := 93) (As := [.int 1]) (rest := []) d_Mod_unit_90 rfl mo_Mod_221 mi_Mod_fail mv_Mod_fail rfl sh_401 (by decide) (by decide) rfl rfl (Nat.le_of_ble_eq_true rfl) ?_
  obtain ⟨M6, hq5, h⟩ := bnd h
  refine f_Mod_fail hld  hq5 ?_
  dsimp only [psh]
  refine g_return rfl d_Mod_unit_93 rfl ?_
  cases h; exact hQ
def F_Mod_unit (M : gM) : Option (gM) :=
  bI (F_Mod_is 2 M) (fun r2 => (if r2 = 0 then (if (M 401 13) = 0 then (if ((M 401 11) : Int32) < 0 ∨ 403 ≤ ((M 401 11) : Int32).toNatClampNeg then none else (if (M 404 ((M 401 11) : Int32).toNatClampNeg) < 32 then J_Mod_unit_88 M else (if ((M 401 11) : Int32) < 0 ∨ 403 ≤ ((M 401 11) : Int32).toNatClampNeg then none else (if 40 < (M 404 ((M 401 11) : Int32).toNatClampNeg) then J_Mod_unit_88 M else (if ((M 401 11) : Int32) < 0 ∨ 403 ≤ ((M 401 11) : Int32).toNatClampNeg then none else bI (F_Mod_emit 1 ((M 404 ((M 401 11) : Int32).toNatClampNeg) - 32) M) (fun M13 => bI (F_Mod_goesOn M13) (fun M15 => some M15))))))) else J_Mod_unit_88 M) else (if ((M 401 11) : Int32) < 0 ∨ 403 ≤ ((M 401 11) : Int32).toNatClampNeg then none else bI (F_Mod_emit 0 (M 406 ((M 401 11) : Int32).toNatClampNeg) M) (fun M18 => bI (F_Mod_goesOn M18) (fun M20 => some M20)))))
set_option maxHeartbeats 4000000 in
set_option maxRecDepth 20000 in
theorem f_Mod_unit {l : Launch} {ld : Nat} {M : gM} {L : gL} {Q : Option Value → gM → gL → gR → Prop} (hld : isLa ld)   {q : gM} (h : F_Mod_unit M = some q) (hQ : Q none q L (rf ld)) : Tm l y_Mod_unit (0, 0, 447) 447 [.ref 401] M L (rf ld) Q := by
  refine Tm.of (by decide) (Nat.le_of_ble_eq_true rfl) ?_
  show Wp l y_Mod_unit (0, 0, 447) 447 0 0 0 [(0, .ref 401)] [] M L (rf ld) Q
  unfold F_Mod_unit at h
  refine g_aload_n (pc1 := 1) d_Mod_unit_0 rfl 0 rfl ?_
  refine g_iconst (pc1 := 2) (v := 2) d_Mod_unit_1 rfl (by decide) ?_
  refine g_callV0 (pc1 := 5) (As := [.int 2]) (rest := []) d_Mod_unit_2 rfl mo_Mod_224 mi_Mod_is mv_Mod_is rfl sh_401 (by decide) (by decide) rfl rfl (Nat.le_of_ble_eq_true rfl) ?_
  obtain ⟨r2, hq1, h⟩ := bnd h
  refine f_Mod_is hld  hq1 ?_
  dsimp only [psh]
  refine g_if_eq (pc1 := 8) (tgt := 29) d_Mod_unit_5 (by decide) rfl (fun c3 => ?_) (fun c3 => ?_)
  · replace h := itp h c3
    refine g_aload_n (pc1 := 30) d_Mod_unit_29 rfl 0 rfl ?_
    refine g_geti (pc1 := 33) d_Mod_unit_30 rfl ⟨_, fo_Mod_206⟩ sh_401 (by decide) ?_
    refine g_if_ne (pc1 := 36) (tgt := 88) d_Mod_unit_33 (by decide) rfl (fun c4 => ?_) (fun c4 => ?_)
    · replace h := itn h c4
      exact j_Mod_unit_88 hld  hQ  h
    · replace h := itp h c4
      refine g_aload_n (pc1 := 37) d_Mod_unit_36 rfl 0 rfl ?_
      refine g_getr (pc1 := 40) d_Mod_unit_37 rfl ⟨_, fo_Mod_20⟩ sh_401 (by decide) (rf_401_5 ld) ?_
      refine g_aload_n (pc1 := 41) d_Mod_unit_40 rfl 0 rfl ?_
      refine g_geti (pc1 := 44) d_Mod_unit_41 rfl ⟨_, fo_Mod_209⟩ sh_401 (by decide) ?_
      obtain ⟨g7, h⟩ := gdn h
      refine g_iald (pc1 := 45) d_Mod_unit_44 rfl sh_404 (by decide) g7 ?_
      refine g_bipush (pc1 := 47) (v := 32) d_Mod_unit_45 rfl (by decide) ?_
      refine g_icmp_lt (pc1 := 50) (tgt := 88) d_Mod_unit_47 (by decide) rfl (fun c8 => ?_) (fun c8 => ?_)
      · replace h := itp h c8
        exact j_Mod_unit_88 hld  hQ  h
      · replace h := itn h c8
        refine g_aload_n (pc1 := 51) d_Mod_unit_50 rfl 0 rfl ?_
        refine g_getr (pc1 := 54) d_Mod_unit_51 rfl ⟨_, fo_Mod_20⟩ sh_401 (by decide) (rf_401_5 ld) ?_
        refine g_aload_n (pc1 := 55) d_Mod_unit_54 rfl 0 rfl ?_
        refine g_geti (pc1 := 58) d_Mod_unit_55 rfl ⟨_, fo_Mod_209⟩ sh_401 (by decide) ?_
        obtain ⟨g9, h⟩ := gdn h
        refine g_iald (pc1 := 59) d_Mod_unit_58 rfl sh_404 (by decide) g9 ?_
        refine g_bipush (pc1 := 61) (v := 40) d_Mod_unit_59 rfl (by decide) ?_
        refine g_icmp_gt (pc1 := 64) (tgt := 88) d_Mod_unit_61 (by decide) rfl (fun c10 => ?_) (fun c10 => ?_)
        · replace h := itp h c10
          exact j_Mod_unit_88 hld  hQ  h
        · replace h := itn h c10
          refine g_aload_n (pc1 := 65) d_Mod_unit_64 rfl 0 rfl ?_
          refine g_iconst (pc1 := 66) (v := 1) d_Mod_unit_65 rfl (by decide) ?_
          refine g_aload_n (pc1 := 67) d_Mod_unit_66 rfl 0 rfl ?_
          refine g_getr (pc1 := 70) d_Mod_unit_67 rfl ⟨_, fo_Mod_20⟩ sh_401 (by decide) (rf_401_5 ld) ?_
          refine g_aload_n (pc1 := 71) d_Mod_unit_70 rfl 0 rfl ?_
          refine g_geti (pc1 := 74) d_Mod_unit_71 rfl ⟨_, fo_Mod_209⟩ sh_401 (by decide) ?_
          obtain ⟨g11, h⟩ := gdn h
          refine g_iald (pc1 := 75) d_Mod_unit_74 rfl sh_404 (by decide) g11 ?_
          refine g_bipush (pc1 := 77) (v := 32) d_Mod_unit_75 rfl (by decide) ?_
          refine g_isub (pc1 := 78) d_Mod_unit_77 rfl ?_
          refine g_callV0 (pc1 := 81) (As := [.int 1, .int ((M 404 ((M 401 11) : Int32).toNatClampNeg) - 32)]) (rest := []) d_Mod_unit_78 rfl mo_Mod_302 mi_Mod_emit mv_Mod_emit rfl sh_401 (by decide) (by decide) rfl rfl (Nat.le_of_ble_eq_true rfl) ?_
          obtain ⟨M13, hq12, h⟩ := bnd h
          refine f_Mod_emit hld  hq12 ?_
          dsimp only [psh]
          refine g_aload_n (pc1 := 82) d_Mod_unit_81 rfl 0 rfl ?_
          refine g_callV0 (pc1 := 85) (As := []) (rest := []) d_Mod_unit_82 rfl mo_Mod_227 mi_Mod_goesOn mv_Mod_goesOn rfl sh_401 (by decide) (by decide) rfl rfl (Nat.le_of_ble_eq_true rfl) ?_
          obtain ⟨M15, hq14, h⟩ := bnd h
          refine f_Mod_goesOn hld  hq14 ?_
          dsimp only [psh]
          refine g_goto (tgt := 93) d_Mod_unit_85 (by decide) ?_
          refine g_return rfl d_Mod_unit_93 rfl ?_
          cases h; exact hQ
  · replace h := itn h c3
    refine g_aload_n (pc1 := 9) d_Mod_unit_8 rfl 0 rfl ?_
    refine g_iconst (pc1 := 10) (v := 0) d_Mod_unit_9 rfl (by decide) ?_
    refine g_aload_n (pc1 := 11) d_Mod_unit_10 rfl 0 rfl ?_
    refine g_getr (pc1 := 14) d_Mod_unit_11 rfl ⟨_, fo_Mod_27⟩ sh_401 (by decide) (rf_401_7 ld) ?_
    refine g_aload_n (pc1 := 15) d_Mod_unit_14 rfl 0 rfl ?_
    refine g_geti (pc1 := 18) d_Mod_unit_15 rfl ⟨_, fo_Mod_209⟩ sh_401 (by decide) ?_
    obtain ⟨g16, h⟩ := gdn h
    refine g_iald (pc1 := 19) d_Mod_unit_18 rfl sh_406 (by decide) g16 ?_
    refine g_callV0 (pc1 := 22) (As := [.int 0, .int (M 406 ((M 401 11) : Int32).toNatClampNeg)]) (rest := []) d_Mod_unit_19 rfl mo_Mod_302 mi_Mod_emit mv_Mod_emit rfl sh_401 (by decide) (by decide) rfl rfl (Nat.le_of_ble_eq_true rfl) ?_
    obtain ⟨M18, hq17, h⟩ := bnd h
    refine f_Mod_emit hld  hq17 ?_
    dsimp only [psh]
    refine g_aload_n (pc1 := 23) d_Mod_unit_22 rfl 0 rfl ?_
    refine g_callV0 (pc1 := 26) (As := []) (rest := []) d_Mod_unit_23 rfl mo_Mod_227 mi_Mod_goesOn mv_Mod_goesOn rfl sh_401 (by decide) (by decide) rfl rfl (Nat.le_of_ble_eq_true rfl) ?_
    obtain ⟨M20, hq19, h⟩ := bnd h
    refine f_Mod_goesOn hld  hq19 ?_
    dsimp only [psh]
    refine g_goto (tgt := 93) d_Mod_unit_26 (by decide) ?_
    refine g_return rfl d_Mod_unit_93 rfl ?_
    cases h; exact hQ

def F_Mod_boundBy (p1 : Int32) (p2 : Int32) (p3 : Int32) (p4 : Int32) (M : gM) : Option (Int32 × gM) :=
  bI (F_Mod_looks M) (fun M2 => nmM (uM M2 434 0 p3) (fun M3 => nmM (uM M3 434 2 p2) (fun M4 => (if (((4 * (M4 401 18)) + p1) : Int32) < 0 ∨ 8 ≤ (((4 * (M4 401 18)) + p1) : Int32).toNatClampNeg then none else nmM (uM M4 434 5 (M4 419 (((4 * (M4 401 18)) + p1) : Int32).toNatClampNeg)) (fun M6 => nmM (uM M6 434 6 p4) (fun M7 => bI2 (F_Mod_asks 1 (p3 - p4) 0 99 M7) (fun r9 M10 => some (r9, M10))))))))
set_option maxHeartbeats 4000000 in
set_option maxRecDepth 20000 in
theorem f_Mod_boundBy {l : Launch} {ld : Nat} {M : gM} {L : gL} {Q : Option Value → gM → gL → gR → Prop} (hld : isLa ld) {p1 : Int32} {p2 : Int32} {p3 : Int32} {p4 : Int32}  {q : Int32 × gM} (h : F_Mod_boundBy p1 p2 p3 p4 M = some q) (hQ : Q (some (.int q.1)) q.2 L (rf ld)) : Tm l y_Mod_boundBy (0, 0, 447) 447 [.ref 401, .int p1, .int p2, .int p3, .int p4] M L (rf ld) Q := by
  refine Tm.of (by decide) (Nat.le_of_ble_eq_true rfl) ?_
  show Wp l y_Mod_boundBy (0, 0, 447) 447 0 0 0 [(0, .ref 401), (1, .int p1), (2, .int p2), (3, .int p3), (4, .int p4)] [] M L (rf ld) Q
  unfold F_Mod_boundBy at h
  refine g_aload_n (pc1 := 1) d_Mod_boundBy_0 rfl 0 rfl ?_
  refine g_callV0 (pc1 := 4) (As := []) (rest := []) d_Mod_boundBy_1 rfl mo_Mod_336 mi_Mod_looks mv_Mod_looks rfl sh_401 (by decide) (by decide) rfl rfl (Nat.le_of_ble_eq_true rfl) ?_
  obtain ⟨M2, hq1, h⟩ := bnd h
  refine f_Mod_looks hld  hq1 ?_
  dsimp only [psh]
  refine g_aload_n (pc1 := 5) d_Mod_boundBy_4 rfl 0 rfl ?_
  refine g_getr (pc1 := 8) d_Mod_boundBy_5 rfl ⟨_, fo_Mod_116⟩ sh_401 (by decide) (rf_401_49 ld) ?_
  refine g_iconst (pc1 := 9) (v := 0) d_Mod_boundBy_8 rfl (by decide) ?_
  refine g_iload_n (pc1 := 10) d_Mod_boundBy_9 rfl 3 rfl ?_
  refine g_iast (pc1 := 11) d_Mod_boundBy_10 rfl sh_434 (by decide) (vin_lit (x := 0) (by decide)) ?_
  refine Wp.eqM (M' := uM M2 434 0 p3) (congrArg (fun z => uM M2 434 z p3) (by decide)) ?_
  refine Wp.lM h (fun M3 h => ?_)
  refine g_aload_n (pc1 := 12) d_Mod_boundBy_11 rfl 0 rfl ?_
  refine g_getr (pc1 := 15) d_Mod_boundBy_12 rfl ⟨_, fo_Mod_116⟩ sh_401 (by decide) (rf_401_49 ld) ?_
  refine g_iconst (pc1 := 16) (v := 2) d_Mod_boundBy_15 rfl (by decide) ?_
  refine g_iload_n (pc1 := 17) d_Mod_boundBy_16 rfl 2 rfl ?_
  refine g_iast (pc1 := 18) d_Mod_boundBy_17 rfl sh_434 (by decide) (vin_lit (x := 2) (by decide)) ?_
  refine Wp.eqM (M' := uM M3 434 2 p2) (congrArg (fun z => uM M3 434 z p2) (by decide)) ?_
  refine Wp.lM h (fun M4 h => ?_)
  refine g_aload_n (pc1 := 19) d_Mod_boundBy_18 rfl 0 rfl ?_
  refine g_getr (pc1 := 22) d_Mod_boundBy_19 rfl ⟨_, fo_Mod_116⟩ sh_401 (by decide) (rf_401_49 ld) ?_
  refine g_iconst (pc1 := 23) (v := 5) d_Mod_boundBy_22 rfl (by decide) ?_
  refine g_aload_n (pc1 := 24) d_Mod_boundBy_23 rfl 0 rfl ?_
  refine g_getr (pc1 := 27) d_Mod_boundBy_24 rfl ⟨_, fo_Mod_70⟩ sh_401 (by decide) (rf_401_31 ld) ?_
  refine g_iconst (pc1 := 28) (v := 4) d_Mod_boundBy_27 rfl (by decide) ?_
  refine g_aload_n (pc1 := 29) d_Mod_boundBy_28 rfl 0 rfl ?_
  refine g_geti (pc1 := 32) d_Mod_boundBy_29 rfl ⟨_, fo_Mod_236⟩ sh_401 (by decide) ?_
  refine g_imul (pc1 := 33) d_Mod_boundBy_32 rfl ?_
  refine g_iload_n (pc1 := 34) d_Mod_boundBy_33 rfl 1 rfl ?_
  refine g_iadd (pc1 := 35) d_Mod_boundBy_34 rfl ?_
  obtain ⟨g5, h⟩ := gdn h
  refine g_iald (pc1 := 36) d_Mod_boundBy_35 rfl sh_419 (by decide) g5 ?_
  refine g_iast (pc1 := 37) d_Mod_boundBy_36 rfl sh_434 (by decide) (vin_lit (x := 5) (by decide)) ?_
  refine Wp.eqM (M' := uM M4 434 5 (M4 419 (((4 * (M4 401 18)) + p1) : Int32).toNatClampNeg)) (congrArg (fun z => uM M4 434 z (M4 419 (((4 * (M4 401 18)) + p1) : Int32).toNatClampNeg)) (by decide)) ?_
  refine Wp.lM h (fun M6 h => ?_)
  refine g_aload_n (pc1 := 38) d_Mod_boundBy_37 rfl 0 rfl ?_
  refine g_getr (pc1 := 41) d_Mod_boundBy_38 rfl ⟨_, fo_Mod_116⟩ sh_401 (by decide) (rf_401_49 ld) ?_
  refine g_bipush (pc1 := 43) (v := 6) d_Mod_boundBy_41 rfl (by decide) ?_
  refine g_iload (pc1 := 45) d_Mod_boundBy_43 rfl 4 rfl ?_
  refine g_iast (pc1 := 46) d_Mod_boundBy_45 rfl sh_434 (by decide) (vin_lit (x := 6) (by decide)) ?_
  refine Wp.eqM (M' := uM M6 434 6 p4) (congrArg (fun z => uM M6 434 z p4) (by decide)) ?_
  refine Wp.lM h (fun M7 h => ?_)
  refine g_aload_n (pc1 := 47) d_Mod_boundBy_46 rfl 0 rfl ?_
  refine g_iconst (pc1 := 48) (v := 1) d_Mod_boundBy_47 rfl (by decide) ?_
  refine g_iload_n (pc1 := 49) d_Mod_boundBy_48 rfl 3 rfl ?_
  refine g_iload (pc1 := 51) d_Mod_boundBy_49 rfl 4 rfl ?_
  refine g_isub (pc1 := 52) d_Mod_boundBy_51 rfl ?_
  refine g_iconst (pc1 := 53) (v := 0) d_Mod_boundBy_52 rfl (by decide) ?_
  refine g_bipush (pc1 := 55) (v := 99) d_Mod_boundBy_53 rfl (by decide) ?_
  refine g_callV0 (pc1 := 58) (As := [.int 1, .int (p3 - p4), .int 0, .int 99]) (rest := []) d_Mod_boundBy_55 rfl mo_Mod_342 mi_Mod_asks mv_Mod_asks rfl sh_401 (by decide) (by decide) rfl rfl (Nat.le_of_ble_eq_true rfl) ?_
  obtain ⟨r9, M10, hq8, h⟩ := bnd2 h
  refine f_Mod_asks hld  hq8 ?_
  dsimp only [psh]
  refine g_ireturn (Or.inl rfl) d_Mod_boundBy_58 rfl ?_
  cases h; exact hQ

def J_Mod_dayGoes_128 (M : gM) : Option (gM) :=
  nmM (uM M 437 35 ((M 437 35) + 1)) (fun M5 => some M5)
set_option maxHeartbeats 4000000 in
set_option maxRecDepth 20000 in
theorem j_Mod_dayGoes_128 {l : Launch} {ld : Nat} {Q : Option Value → gM → gL → gR → Prop} (hld : isLa ld)   {q : gM} {M : gM} {L : gL} (hQ : Q none q L (rf ld))    (h : J_Mod_dayGoes_128 M = some q) : Wp l y_Mod_dayGoes (0, 0, 447) 447 0 0 128 [(0, .ref 401)] [] M L (rf ld) Q := by
  unfold J_Mod_dayGoes_128 at h
  refine g_aload_n (pc1 := 129) d_Mod_dayGoes_128 rfl 0 rfl ?_
  refine g_getr (pc1 := 132) d_Mod_dayGoes_129 rfl ⟨_, fo_Mod_125⟩ sh_401 (by decide) (rf_401_53 ld) ?_
  refine g_bipush (pc1 := 134) (v := 35) d_Mod_dayGoes_132 rfl (by decide) ?_
  refine g_dup2 (pc1 := 135) d_Mod_dayGoes_134 rfl rfl rfl ?_
  refine g_iald (pc1 := 136) d_Mod_dayGoes_135 rfl sh_437 (by decide) (vin_lit (x := 35) (by decide)) ?_
  refine Wp.vali (y := (M 437 35)) (congrArg (M 437) (by decide)) ?_
  refine g_iconst (pc1 := 137) (v := 1) d_Mod_dayGoes_136 rfl (by decide) ?_
  refine g_iadd (pc1 := 138) d_Mod_dayGoes_137 rfl ?_
  refine g_iast (pc1 := 139) d_Mod_dayGoes_138 rfl sh_437 (by decide) (vin_lit (x := 35) (by decide)) ?_
  refine Wp.eqM (M' := uM M 437 35 ((M 437 35) + 1)) (congrArg (fun z => uM M 437 z ((M 437 35) + 1)) (by decide)) ?_
  refine Wp.lM h (fun M5 h => ?_)
  refine g_return rfl d_Mod_dayGoes_139 rfl ?_
  cases h; exact hQ
def B_Mod_dayGoes_97  (K97 : Int32 → gM → Option (gM)) : Int32 → gM → Option (gM) := fun v1 M =>
  (if ((M 401 18) : Int32) < 0 ∨ 2 ≤ ((M 401 18) : Int32).toNatClampNeg then none else (if (M 411 ((M 401 18) : Int32).toNatClampNeg) ≤ v1 then J_Mod_dayGoes_128 M else (if (v1 : Int32) < 0 ∨ 6 ≤ (v1 : Int32).toNatClampNeg then none else (if (v1 : Int32) < 0 ∨ 38 ≤ (v1 : Int32).toNatClampNeg then none else nmM (uM M 437 (v1 : Int32).toNatClampNeg (M 439 (v1 : Int32).toNatClampNeg)) (fun M8 => nmI (v1 + 1) (fun x9 => K97 x9 M8))))))
def H_Mod_dayGoes_97  : Nat → Int32 → gM → Option (gM) := lpK (B_Mod_dayGoes_97 ) (fun _ _ => none)
set_option maxHeartbeats 4000000 in
set_option maxRecDepth 20000 in
theorem h_Mod_dayGoes_97 {l : Launch} {ld : Nat} {Q : Option Value → gM → gL → gR → Prop} (hld : isLa ld)   {q : gM} {L : gL} (hQ : Q none q L (rf ld))    : ∀ (f : Nat) (v1 : Int32) (M : gM), H_Mod_dayGoes_97  f v1 M = some q → Wp l y_Mod_dayGoes (0, 0, 447) 447 0 0 97 [(0, .ref 401), (1, .int v1)] [] M L (rf ld) Q := by
  intro f
  induction f with
  | zero => intro v1 M h; cases h
  | succ f hK97 =>
    intro v1 M h
    replace h : B_Mod_dayGoes_97  (H_Mod_dayGoes_97  f) v1 M = some q := h
    unfold B_Mod_dayGoes_97 at h
    refine g_iload_n (pc1 := 98) d_Mod_dayGoes_97 rfl 1 rfl ?_
    refine g_aload_n (pc1 := 99) d_Mod_dayGoes_98 rfl 0 rfl ?_
    refine g_getr (pc1 := 102) d_Mod_dayGoes_99 rfl ⟨_, fo_Mod_46⟩ sh_401 (by decide) (rf_401_23 ld) ?_
    refine g_aload_n (pc1 := 103) d_Mod_dayGoes_102 rfl 0 rfl ?_
    refine g_geti (pc1 := 106) d_Mod_dayGoes_103 rfl ⟨_, fo_Mod_236⟩ sh_401 (by decide) ?_
    obtain ⟨g3, h⟩ := gdn h
    refine g_iald (pc1 := 107) d_Mod_dayGoes_106 rfl sh_411 (by decide) g3 ?_
    refine g_icmp_ge (pc1 := 110) (tgt := 128) d_Mod_dayGoes_107 (by decide) rfl (fun c4 => ?_) (fun c4 => ?_)
    · replace h := itp h c4
      refine Wp.loc (lv' := [(0, .ref 401)]) [0] rfl ?_
      exact j_Mod_dayGoes_128 hld  hQ  h
    · replace h := itn h c4
      refine g_aload_n (pc1 := 111) d_Mod_dayGoes_110 rfl 0 rfl ?_
      refine g_getr (pc1 := 114) d_Mod_dayGoes_111 rfl ⟨_, fo_Mod_125⟩ sh_401 (by decide) (rf_401_53 ld) ?_
      refine g_iload_n (pc1 := 115) d_Mod_dayGoes_114 rfl 1 rfl ?_
      refine g_aload_n (pc1 := 116) d_Mod_dayGoes_115 rfl 0 rfl ?_
      refine g_getr (pc1 := 119) d_Mod_dayGoes_116 rfl ⟨_, fo_Mod_131⟩ sh_401 (by decide) (rf_401_56 ld) ?_
      refine g_iload_n (pc1 := 120) d_Mod_dayGoes_119 rfl 1 rfl ?_
      obtain ⟨g6, h⟩ := gdn h
      refine g_iald (pc1 := 121) d_Mod_dayGoes_120 rfl sh_439 (by decide) g6 ?_
      obtain ⟨g7, h⟩ := gdn h
      refine g_iast (pc1 := 122) d_Mod_dayGoes_121 rfl sh_437 (by decide) g7 ?_
      refine Wp.lM h (fun M8 h => ?_)
      obtain ⟨x9, ex9, h⟩ := ltI h
      refine g_iinc (pc1 := 125) (v := x9) (lv' := [(0, .ref 401), (1, .int x9)]) d_Mod_dayGoes_122 rfl 1 rfl (by rw [ex9]; rfl) (by decide) [1, 0] rfl ?_
      refine g_goto (tgt := 97) d_Mod_dayGoes_125 (by decide) ?_
      exact hK97 x9 M8 h
def J_Mod_dayGoes_95 (M : gM) : Option (gM) :=
  H_Mod_dayGoes_97 FU 0 M
set_option maxHeartbeats 4000000 in
set_option maxRecDepth 20000 in
theorem j_Mod_dayGoes_95 {l : Launch} {ld : Nat} {Q : Option Value → gM → gL → gR → Prop} (hld : isLa ld)   {q : gM} {M : gM} {L : gL} (hQ : Q none q L (rf ld))    (h : J_Mod_dayGoes_95 M = some q) : Wp l y_Mod_dayGoes (0, 0, 447) 447 0 0 95 [(0, .ref 401)] [] M L (rf ld) Q := by
  unfold J_Mod_dayGoes_95 at h
  refine g_iconst (pc1 := 96) (v := 0) d_Mod_dayGoes_95 rfl (by decide) ?_
  refine g_istore_n (pc1 := 97) (lv' := [(0, .ref 401), (1, .int 0)]) d_Mod_dayGoes_96 rfl rfl (by decide) [1, 0] rfl ?_
  exact h_Mod_dayGoes_97 hld  hQ  _ 0 M h
def B_Mod_dayGoes_2  (K2 : Int32 → gM → Option (gM)) : Int32 → gM → Option (gM) := fun v1 M =>
  (if ((M 401 18) : Int32) < 0 ∨ 2 ≤ ((M 401 18) : Int32).toNatClampNeg then none else (if (M 411 ((M 401 18) : Int32).toNatClampNeg) ≤ v1 then J_Mod_dayGoes_95 M else bI (F_Mod_looks M) (fun M11 => nmM (uM M11 434 2 v1) (fun M12 => (if (v1 : Int32) < 0 ∨ 38 ≤ (v1 : Int32).toNatClampNeg then none else nmM (uM M12 434 7 (M12 437 (v1 : Int32).toNatClampNeg)) (fun M14 => (if (((6 * (M14 401 18)) + v1) : Int32) < 0 ∨ 12 ≤ (((6 * (M14 401 18)) + v1) : Int32).toNatClampNeg then none else nmM (uM M14 434 8 (M14 413 (((6 * (M14 401 18)) + v1) : Int32).toNatClampNeg)) (fun M16 => (if (v1 : Int32) < 0 ∨ 38 ≤ (v1 : Int32).toNatClampNeg then none else bI2 (F_Mod_asks 2 0 (-9) 9 M16) (fun r19 M20 => bI (F_Mod_held ((M16 437 (v1 : Int32).toNatClampNeg) + r19) 0 99) (fun r22 => (if (v1 : Int32) < 0 ∨ 6 ≤ (v1 : Int32).toNatClampNeg then none else nmM (uM M20 439 (v1 : Int32).toNatClampNeg r22) (fun M24 => nmI (v1 + 1) (fun x25 => K2 x25 M24))))))))))))))
def H_Mod_dayGoes_2  : Nat → Int32 → gM → Option (gM) := lpK (B_Mod_dayGoes_2 ) (fun _ _ => none)
set_option maxHeartbeats 4000000 in
set_option maxRecDepth 20000 in
theorem h_Mod_dayGoes_2 {l : Launch} {ld : Nat} {Q : Option Value → gM → gL → gR → Prop} (hld : isLa ld)   {q : gM} {L : gL} (hQ : Q none q L (rf ld))    : ∀ (f : Nat) (v1 : Int32) (M : gM), H_Mod_dayGoes_2  f v1 M = some q → Wp l y_Mod_dayGoes (0, 0, 447) 447 0 0 2 [(0, .ref 401), (1, .int v1)] [] M L (rf ld) Q := by
  intro f
  induction f with
  | zero => intro v1 M h; cases h
  | succ f hK2 =>
    intro v1 M h
    replace h : B_Mod_dayGoes_2  (H_Mod_dayGoes_2  f) v1 M = some q := h
    unfold B_Mod_dayGoes_2 at h
    refine g_iload_n (pc1 := 3) d_Mod_dayGoes_2 rfl 1 rfl ?_
    refine g_aload_n (pc1 := 4) d_Mod_dayGoes_3 rfl 0 rfl ?_
    refine g_getr (pc1 := 7) d_Mod_dayGoes_4 rfl ⟨_, fo_Mod_46⟩ sh_401 (by decide) (rf_401_23 ld) ?_
    refine g_aload_n (pc1 := 8) d_Mod_dayGoes_7 rfl 0 rfl ?_
    refine g_geti (pc1 := 11) d_Mod_dayGoes_8 rfl ⟨_, fo_Mod_236⟩ sh_401 (by decide) ?_
    obtain ⟨g1, h⟩ := gdn h
    refine g_iald (pc1 := 12) d_Mod_dayGoes_11 rfl sh_411 (by decide) g1 ?_
    refine g_icmp_ge (pc1 := 15) (tgt := 95) d_Mod_dayGoes_12 (by decide) rfl (fun c2 => ?_) (fun c2 => ?_)
    · replace h := itp h c2
      refine Wp.loc (lv' := [(0, .ref 401)]) [0] rfl ?_
      exact j_Mod_dayGoes_95 hld  hQ  h
    · replace h := itn h c2
      refine g_aload_n (pc1 := 16) d_Mod_dayGoes_15 rfl 0 rfl ?_
      refine g_callV0 (pc1 := 19) (As := []) (rest := []) d_Mod_dayGoes_16 rfl mo_Mod_336 mi_Mod_looks mv_Mod_looks rfl sh_401 (by decide) (by decide) rfl rfl (Nat.le_of_ble_eq_true rfl) ?_
      obtain ⟨M11, hq10, h⟩ := bnd h
      refine f_Mod_looks hld  hq10 ?_
      dsimp only [psh]
      refine g_aload_n (pc1 := 20) d_Mod_dayGoes_19 rfl 0 rfl ?_
      refine g_getr (pc1 := 23) d_Mod_dayGoes_20 rfl ⟨_, fo_Mod_116⟩ sh_401 (by decide) (rf_401_49 ld) ?_
      refine g_iconst (pc1 := 24) (v := 2) d_Mod_dayGoes_23 rfl (by decide) ?_
      refine g_iload_n (pc1 := 25) d_Mod_dayGoes_24 rfl 1 rfl ?_
      refine g_iast (pc1 := 26) d_Mod_dayGoes_25 rfl sh_434 (by decide) (vin_lit (x := 2) (by decide)) ?_
      refine Wp.eqM (M' := uM M11 434 2 v1) (congrArg (fun z => uM M11 434 z v1) (by decide)) ?_
      refine Wp.lM h (fun M12 h => ?_)
      refine g_aload_n (pc1 := 27) d_Mod_dayGoes_26 rfl 0 rfl ?_
      refine g_getr (pc1 := 30) d_Mod_dayGoes_27 rfl ⟨_, fo_Mod_116⟩ sh_401 (by decide) (rf_401_49 ld) ?_
      refine g_bipush (pc1 := 32) (v := 7) d_Mod_dayGoes_30 rfl (by decide) ?_
      refine g_aload_n (pc1 := 33) d_Mod_dayGoes_32 rfl 0 rfl ?_
      refine g_getr (pc1 := 36) d_Mod_dayGoes_33 rfl ⟨_, fo_Mod_125⟩ sh_401 (by decide) (rf_401_53 ld) ?_
      refine g_iload_n (pc1 := 37) d_Mod_dayGoes_36 rfl 1 rfl ?_
      obtain ⟨g13, h⟩ := gdn h
      refine g_iald (pc1 := 38) d_Mod_dayGoes_37 rfl sh_437 (by decide) g13 ?_
      refine g_iast (pc1 := 39) d_Mod_dayGoes_38 rfl sh_434 (by decide) (vin_lit (x := 7) (by decide)) ?_
      refine Wp.eqM (M' := uM M12 434 7 (M12 437 (v1 : Int32).toNatClampNeg)) (congrArg (fun z => uM M12 434 z (M12 437 (v1 : Int32).toNatClampNeg)) (by decide)) ?_
      refine Wp.lM h (fun M14 h => ?_)
      refine g_aload_n (pc1 := 40) d_Mod_dayGoes_39 rfl 0 rfl ?_
      refine g_getr (pc1 := 43) d_Mod_dayGoes_40 rfl ⟨_, fo_Mod_116⟩ sh_401 (by decide) (rf_401_49 ld) ?_
      refine g_bipush (pc1 := 45) (v := 8) d_Mod_dayGoes_43 rfl (by decide) ?_
      refine g_aload_n (pc1 := 46) d_Mod_dayGoes_45 rfl 0 rfl ?_
      refine g_getr (pc1 := 49) d_Mod_dayGoes_46 rfl ⟨_, fo_Mod_52⟩ sh_401 (by decide) (rf_401_25 ld) ?_
      refine g_bipush (pc1 := 51) (v := 6) d_Mod_dayGoes_49 rfl (by decide) ?_
      refine g_aload_n (pc1 := 52) d_Mod_dayGoes_51 rfl 0 rfl ?_
      refine g_geti (pc1 := 55) d_Mod_dayGoes_52 rfl ⟨_, fo_Mod_236⟩ sh_401 (by decide) ?_
      refine g_imul (pc1 := 56) d_Mod_dayGoes_55 rfl ?_
      refine g_iload_n (pc1 := 57) d_Mod_dayGoes_56 rfl 1 rfl ?_
      refine g_iadd (pc1 := 58) d_Mod_dayGoes_57 rfl ?_
      obtain ⟨g15, h⟩ := gdn h
      refine g_iald (pc1 := 59) d_Mod_dayGoes_58 rfl sh_413 (by decide) g15 ?_
      refine g_iast (pc1 := 60) d_Mod_dayGoes_59 rfl sh_434 (by decide) (vin_lit (x := 8) (by decide)) ?_
      refine Wp.eqM (M' := uM M14 434 8 (M14 413 (((6 * (M14 401 18)) + v1) : Int32).toNatClampNeg)) (congrArg (fun z => uM M14 434 z (M14 413 (((6 * (M14 401 18)) + v1) : Int32).toNatClampNeg)) (by decide)) ?_
      refine Wp.lM h (fun M16 h => ?_)
      refine g_aload_n (pc1 := 61) d_Mod_dayGoes_60 rfl 0 rfl ?_
      refine g_getr (pc1 := 64) d_Mod_dayGoes_61 rfl ⟨_, fo_Mod_131⟩ sh_401 (by decide) (rf_401_56 ld) ?_
      refine g_iload_n (pc1 := 65) d_Mod_dayGoes_64 rfl 1 rfl ?_
      refine g_aload_n (pc1 := 66) d_Mod_dayGoes_65 rfl 0 rfl ?_
      refine g_getr (pc1 := 69) d_Mod_dayGoes_66 rfl ⟨_, fo_Mod_125⟩ sh_401 (by decide) (rf_401_53 ld) ?_
      refine g_iload_n (pc1 := 70) d_Mod_dayGoes_69 rfl 1 rfl ?_
      obtain ⟨g17, h⟩ := gdn h
      refine g_iald (pc1 := 71) d_Mod_dayGoes_70 rfl sh_437 (by decide) g17 ?_
      refine g_aload_n (pc1 := 72) d_Mod_dayGoes_71 rfl 0 rfl ?_
      refine g_iconst (pc1 := 73) (v := 2) d_Mod_dayGoes_72 rfl (by decide) ?_
      refine g_iconst (pc1 := 74) (v := 0) d_Mod_dayGoes_73 rfl (by decide) ?_
      refine g_bipush (pc1 := 76) (v := (-9)) d_Mod_dayGoes_74 rfl (by decide) ?_
      refine g_bipush (pc1 := 78) (v := 9) d_Mod_dayGoes_76 rfl (by decide) ?_
      refine g_callV0 (pc1 := 81) (As := [.int 2, .int 0, .int (-9), .int 9]) (rest := [.int (M16 437 (v1 : Int32).toNatClampNeg), .int v1, .ref 439]) d_Mod_dayGoes_78 rfl mo_Mod_342 mi_Mod_asks mv_Mod_asks rfl sh_401 (by decide) (by decide) rfl rfl (Nat.le_of_ble_eq_true rfl) ?_
      obtain ⟨r19, M20, hq18, h⟩ := bnd2 h
      refine f_Mod_asks hld  hq18 ?_
      dsimp only [psh]
      refine g_iadd (pc1 := 82) d_Mod_dayGoes_81 rfl ?_
      refine g_iconst (pc1 := 83) (v := 0) d_Mod_dayGoes_82 rfl (by decide) ?_
      refine g_bipush (pc1 := 85) (v := 99) d_Mod_dayGoes_83 rfl (by decide) ?_
      refine g_callS0 (pc1 := 88) (As := [.int ((M16 437 (v1 : Int32).toNatClampNeg) + r19), .int 0, .int 99]) (rest := [.int v1, .ref 439]) d_Mod_dayGoes_85 rfl mo_Mod_330 ms_Mod_held (by decide) rfl rfl (Nat.le_of_ble_eq_true rfl) ?_
      obtain ⟨r22, hq21, h⟩ := bnd h
      refine f_Mod_held hld  hq21 ?_
      dsimp only [psh]
      obtain ⟨g23, h⟩ := gdn h
      refine g_iast (pc1 := 89) d_Mod_dayGoes_88 rfl sh_439 (by decide) g23 ?_
      refine Wp.lM h (fun M24 h => ?_)
      obtain ⟨x25, ex25, h⟩ := ltI h
      refine g_iinc (pc1 := 92) (v := x25) (lv' := [(0, .ref 401), (1, .int x25)]) d_Mod_dayGoes_89 rfl 1 rfl (by rw [ex25]; rfl) (by decide) [1, 0] rfl ?_
      refine g_goto (tgt := 2) d_Mod_dayGoes_92 (by decide) ?_
      exact hK2 x25 M24 h
def F_Mod_dayGoes (M : gM) : Option (gM) :=
  H_Mod_dayGoes_2 FU 0 M
set_option maxHeartbeats 4000000 in
set_option maxRecDepth 20000 in
theorem f_Mod_dayGoes {l : Launch} {ld : Nat} {M : gM} {L : gL} {Q : Option Value → gM → gL → gR → Prop} (hld : isLa ld)   {q : gM} (h : F_Mod_dayGoes M = some q) (hQ : Q none q L (rf ld)) : Tm l y_Mod_dayGoes (0, 0, 447) 447 [.ref 401] M L (rf ld) Q := by
  refine Tm.of (by decide) (Nat.le_of_ble_eq_true rfl) ?_
  show Wp l y_Mod_dayGoes (0, 0, 447) 447 0 0 0 [(0, .ref 401)] [] M L (rf ld) Q
  unfold F_Mod_dayGoes at h
  refine g_iconst (pc1 := 1) (v := 0) d_Mod_dayGoes_0 rfl (by decide) ?_
  refine g_istore_n (pc1 := 2) (lv' := [(0, .ref 401), (1, .int 0)]) d_Mod_dayGoes_1 rfl rfl (by decide) [1, 0] rfl ?_
  exact h_Mod_dayGoes_2 hld  hQ  _ 0 M h

def F_Mod_ends (p1 : Int32) (p2 : Int32) (M : gM) (L : gL) : Option (gM × gL) :=
  bI (F_Mod_must 4 M) (fun M2 => (if (M2 401 13) ≤ 0 then (if (p1 : Int32) < 0 ∨ 403 ≤ (p1 : Int32).toNatClampNeg then none else (if ((M2 401 20) : Int32) < 0 ∨ 21 ≤ ((M2 401 20) : Int32).toNatClampNeg then none else nmL (uL L 409 ((M2 401 20) : Int32).toNatClampNeg (L 407 (p1 : Int32).toNatClampNeg)) (fun L6 => (if ((M2 401 20) : Int32) < 0 ∨ 21 ≤ ((M2 401 20) : Int32).toNatClampNeg then none else nmM (uM M2 410 ((M2 401 20) : Int32).toNatClampNeg p2) (fun M8 => nmM (uM M8 401 20 ((M8 401 20) + 1)) (fun M9 => some (M9, L6))))))) else some (M2, L)))
set_option maxHeartbeats 4000000 in
set_option maxRecDepth 20000 in
theorem f_Mod_ends {l : Launch} {ld : Nat} {M : gM} {L : gL} {Q : Option Value → gM → gL → gR → Prop} (hld : isLa ld) {p1 : Int32} {p2 : Int32}  {q : gM × gL} (h : F_Mod_ends p1 p2 M L = some q) (hQ : Q none q.1 q.2 (rf ld)) : Tm l y_Mod_ends (0, 0, 447) 447 [.ref 401, .int p1, .int p2] M L (rf ld) Q := by
  refine Tm.of (by decide) (Nat.le_of_ble_eq_true rfl) ?_
  show Wp l y_Mod_ends (0, 0, 447) 447 0 0 0 [(0, .ref 401), (1, .int p1), (2, .int p2)] [] M L (rf ld) Q
  unfold F_Mod_ends at h
  refine g_aload_n (pc1 := 1) d_Mod_ends_0 rfl 0 rfl ?_
  refine g_iconst (pc1 := 2) (v := 4) d_Mod_ends_1 rfl (by decide) ?_
  refine g_callV0 (pc1 := 5) (As := [.int 4]) (rest := []) d_Mod_ends_2 rfl mo_Mod_281 mi_Mod_must mv_Mod_must rfl sh_401 (by decide) (by decide) rfl rfl (Nat.le_of_ble_eq_true rfl) ?_
  obtain ⟨M2, hq1, h⟩ := bnd h
  refine f_Mod_must hld  hq1 ?_
  dsimp only [psh]
  refine g_aload_n (pc1 := 6) d_Mod_ends_5 rfl 0 rfl ?_
  refine g_geti (pc1 := 9) d_Mod_ends_6 rfl ⟨_, fo_Mod_206⟩ sh_401 (by decide) ?_
  refine g_if_le (pc1 := 12) (tgt := 13) d_Mod_ends_9 (by decide) rfl (fun c3 => ?_) (fun c3 => ?_)
  · replace h := itp h c3
    refine g_aload_n (pc1 := 14) d_Mod_ends_13 rfl 0 rfl ?_
    refine g_getr (pc1 := 17) d_Mod_ends_14 rfl ⟨_, fo_Mod_40⟩ sh_401 (by decide) (rf_401_21 ld) ?_
    refine g_aload_n (pc1 := 18) d_Mod_ends_17 rfl 0 rfl ?_
    refine g_geti (pc1 := 21) d_Mod_ends_18 rfl ⟨_, fo_Mod_242⟩ sh_401 (by decide) ?_
    refine g_aload_n (pc1 := 22) d_Mod_ends_21 rfl 0 rfl ?_
    refine g_getr (pc1 := 25) d_Mod_ends_22 rfl ⟨_, fo_Mod_30⟩ sh_401 (by decide) (rf_401_8 ld) ?_
    refine g_iload_n (pc1 := 26) d_Mod_ends_25 rfl 1 rfl ?_
    obtain ⟨g4, h⟩ := gdn h
    refine g_lald (pc1 := 27) d_Mod_ends_26 rfl sh_407 (by decide) g4 ?_
    obtain ⟨g5, h⟩ := gdn h
    refine g_last (pc1 := 28) d_Mod_ends_27 rfl sh_409 (by decide) g5 ?_
    refine Wp.lL h (fun L6 h => ?_)
    refine g_aload_n (pc1 := 29) d_Mod_ends_28 rfl 0 rfl ?_
    refine g_getr (pc1 := 32) d_Mod_ends_29 rfl ⟨_, fo_Mod_43⟩ sh_401 (by decide) (rf_401_22 ld) ?_
    refine g_aload_n (pc1 := 33) d_Mod_ends_32 rfl 0 rfl ?_
    refine g_geti (pc1 := 36) d_Mod_ends_33 rfl ⟨_, fo_Mod_242⟩ sh_401 (by decide) ?_
    refine g_iload_n (pc1 := 37) d_Mod_ends_36 rfl 2 rfl ?_
    obtain ⟨g7, h⟩ := gdn h
    refine g_iast (pc1 := 38) d_Mod_ends_37 rfl sh_410 (by decide) g7 ?_
    refine Wp.lM h (fun M8 h => ?_)
    refine g_aload_n (pc1 := 39) d_Mod_ends_38 rfl 0 rfl ?_
    refine g_dup (pc1 := 40) d_Mod_ends_39 rfl rfl ?_
    refine g_geti (pc1 := 43) d_Mod_ends_40 rfl ⟨_, fo_Mod_242⟩ sh_401 (by decide) ?_
    refine g_iconst (pc1 := 44) (v := 1) d_Mod_ends_43 rfl (by decide) ?_
    refine g_iadd (pc1 := 45) d_Mod_ends_44 rfl ?_
    refine g_puti (pc1 := 48) d_Mod_ends_45 rfl fo_Mod_242 (po_12_20 _) sh_401 (by decide) ?_
    refine Wp.lM h (fun M9 h => ?_)
    refine g_return rfl d_Mod_ends_48 rfl ?_
    cases h; exact hQ
  · replace h := itn h c3
    refine g_return rfl d_Mod_ends_12 rfl ?_
    cases h; exact hQ

