def J_Mod_forceBy_55 (v1 : Int32) (v2 : Int32) (v3 : Int32) (M : gM) : Option (Int32 × gM) :=
  bI (F_Mod_looks M) (fun q3 => nmM (uM q3 434 (0 : Int32).toNatClampNeg v3) (fun M5 => nmM (uM M5 434 (1 : Int32).toNatClampNeg v2) (fun M6 => nmM (uM M6 434 (2 : Int32).toNatClampNeg v1) (fun M7 => bI (F_Mod_potMany M7) (fun q8 => nmM (uM M7 434 (3 : Int32).toNatClampNeg q8) (fun M10 => bI (F_Mod_asks 0 v3 0 99 M10) (fun q11 => some (q11.1, q11.2))))))))
set_option maxHeartbeats 4000000 in
set_option maxRecDepth 20000 in
theorem j_Mod_forceBy_55 {l : Launch} {ld : Nat} {Q : Option Value → gM → gL → gR → Prop} (hld : isLa ld)   {q : Int32 × gM} {M : gM} {L : gL} (hQ : Q (some (.int q.1)) q.2 L (rf ld))  {v1 : Int32} {v2 : Int32} {v3 : Int32}  (h : J_Mod_forceBy_55 v1 v2 v3 M = some q) : Wp l y_Mod_forceBy (0, 0, 447) 447 0 0 55 [(0, .ref 401), (1, .int v1), (2, .int v2), (3, .int v3)] [] M L (rf ld) Q := by
  unfold J_Mod_forceBy_55 at h
  refine g_aload_n (pc1 := 56) d_Mod_forceBy_55 rfl 0 rfl ?_
  refine g_callV0 (pc1 := 59) (As := []) (rest := []) d_Mod_forceBy_56 rfl mo_Mod_336 mi_Mod_looks mv_Mod_looks rfl sh_401 (by decide) (by decide) rfl rfl (Nat.le_of_ble_eq_true rfl) ?_
  obtain ⟨q3, hq4, h⟩ := bnd h
  refine f_Mod_looks hld  hq4 ?_
  dsimp only [psh]
  refine g_aload_n (pc1 := 60) d_Mod_forceBy_59 rfl 0 rfl ?_
  refine g_getr (pc1 := 63) d_Mod_forceBy_60 rfl ⟨_, fo_Mod_116⟩ sh_401 (by decide) (rf_401_49 ld) ?_
  refine g_iconst (pc1 := 64) (v := 0) d_Mod_forceBy_63 rfl (by decide) ?_
  refine g_iload_n (pc1 := 65) d_Mod_forceBy_64 rfl 3 rfl ?_
  refine g_iast (pc1 := 66) d_Mod_forceBy_65 rfl sh_434 (by decide) (vin_lit (x := 0) (by decide)) ?_
  refine Wp.lM h (fun M5 h => ?_)
  refine g_aload_n (pc1 := 67) d_Mod_forceBy_66 rfl 0 rfl ?_
  refine g_getr (pc1 := 70) d_Mod_forceBy_67 rfl ⟨_, fo_Mod_116⟩ sh_401 (by decide) (rf_401_49 ld) ?_
  refine g_iconst (pc1 := 71) (v := 1) d_Mod_forceBy_70 rfl (by decide) ?_
  refine g_iload_n (pc1 := 72) d_Mod_forceBy_71 rfl 2 rfl ?_
  refine g_iast (pc1 := 73) d_Mod_forceBy_72 rfl sh_434 (by decide) (vin_lit (x := 1) (by decide)) ?_
  refine Wp.lM h (fun M6 h => ?_)
  refine g_aload_n (pc1 := 74) d_Mod_forceBy_73 rfl 0 rfl ?_
  refine g_getr (pc1 := 77) d_Mod_forceBy_74 rfl ⟨_, fo_Mod_116⟩ sh_401 (by decide) (rf_401_49 ld) ?_
  refine g_iconst (pc1 := 78) (v := 2) d_Mod_forceBy_77 rfl (by decide) ?_
  refine g_iload_n (pc1 := 79) d_Mod_forceBy_78 rfl 1 rfl ?_
  refine g_iast (pc1 := 80) d_Mod_forceBy_79 rfl sh_434 (by decide) (vin_lit (x := 2) (by decide)) ?_
  refine Wp.lM h (fun M7 h => ?_)
  refine g_aload_n (pc1 := 81) d_Mod_forceBy_80 rfl 0 rfl ?_
  refine g_getr (pc1 := 84) d_Mod_forceBy_81 rfl ⟨_, fo_Mod_116⟩ sh_401 (by decide) (rf_401_49 ld) ?_
  refine g_iconst (pc1 := 85) (v := 3) d_Mod_forceBy_84 rfl (by decide) ?_
  refine g_aload_n (pc1 := 86) d_Mod_forceBy_85 rfl 0 rfl ?_
  refine g_callV0 (pc1 := 89) (As := []) (rest := [.int 3, .ref 434]) d_Mod_forceBy_86 rfl mo_Mod_339 mi_Mod_potMany mv_Mod_potMany rfl sh_401 (by decide) (by decide) rfl rfl (Nat.le_of_ble_eq_true rfl) ?_
  obtain ⟨q8, hq9, h⟩ := bnd h
  refine f_Mod_potMany hld  hq9 ?_
  dsimp only [psh]
  refine g_iast (pc1 := 90) d_Mod_forceBy_89 rfl sh_434 (by decide) (vin_lit (x := 3) (by decide)) ?_
  refine Wp.lM h (fun M10 h => ?_)
  refine g_aload_n (pc1 := 91) d_Mod_forceBy_90 rfl 0 rfl ?_
  refine g_iconst (pc1 := 92) (v := 0) d_Mod_forceBy_91 rfl (by decide) ?_
  refine g_iload_n (pc1 := 93) d_Mod_forceBy_92 rfl 3 rfl ?_
  refine g_iconst (pc1 := 94) (v := 0) d_Mod_forceBy_93 rfl (by decide) ?_
  refine g_bipush (pc1 := 96) (v := 99) d_Mod_forceBy_94 rfl (by decide) ?_
  refine g_callV0 (pc1 := 99) (As := [.int 0, .int v3, .int 0, .int 99]) (rest := []) d_Mod_forceBy_96 rfl mo_Mod_342 mi_Mod_asks mv_Mod_asks rfl sh_401 (by decide) (by decide) rfl rfl (Nat.le_of_ble_eq_true rfl) ?_
  obtain ⟨q11, hq12, h⟩ := bnd h
  refine f_Mod_asks hld  hq12 ?_
  dsimp only [psh]
  refine g_ireturn (Or.inl rfl) d_Mod_forceBy_99 rfl ?_
  cases h; exact hQ
def B_Mod_forceBy_5 (v1 : Int32) (v2 : Int32) (M : gM) (K5 : Int32 → Int32 → Option (Int32 × gM)) : Int32 → Int32 → Option (Int32 × gM) := fun v3 v4 =>
  (if ((M 401 18) : Int32) < 0 ∨ 2 ≤ ((M 401 18) : Int32).toNatClampNeg then none else (if (M 411 ((M 401 18) : Int32).toNatClampNeg) ≤ v4 then J_Mod_forceBy_55 v1 v2 v3 M else (if (v4 : Int32) < 0 ∨ 6 ≤ (v4 : Int32).toNatClampNeg then none else (if (((3 * ((6 * (M 401 18)) + v4)) + v1) : Int32) < 0 ∨ 36 ≤ (((3 * ((6 * (M 401 18)) + v4)) + v1) : Int32).toNatClampNeg then none else nmI (v3 + ((M 438 (v4 : Int32).toNatClampNeg) * (M 414 (((3 * ((6 * (M 401 18)) + v4)) + v1) : Int32).toNatClampNeg))) (fun x15 => nmI (v4 + 1) (fun x16 => K5 x15 x16))))))
def H_Mod_forceBy_5 (v1 : Int32) (v2 : Int32) (M : gM) : Nat → Int32 → Int32 → Option (Int32 × gM) := lpK (B_Mod_forceBy_5 v1 v2 M) (fun _ _ => none)
set_option maxHeartbeats 4000000 in
set_option maxRecDepth 20000 in
theorem h_Mod_forceBy_5 {l : Launch} {ld : Nat} {Q : Option Value → gM → gL → gR → Prop} (hld : isLa ld)   {q : Int32 × gM} {M : gM} {L : gL} (hQ : Q (some (.int q.1)) q.2 L (rf ld))  {v1 : Int32} {v2 : Int32}  : ∀ (f : Nat) (v3 : Int32) (v4 : Int32), H_Mod_forceBy_5 v1 v2 M f v3 v4 = some q → Wp l y_Mod_forceBy (0, 0, 447) 447 0 0 5 [(0, .ref 401), (1, .int v1), (2, .int v2), (3, .int v3), (4, .int v4)] [] M L (rf ld) Q := by
  intro f
  induction f with
  | zero => intro v3 v4 h; cases h
  | succ f hK5 =>
    intro v3 v4 h
    replace h : B_Mod_forceBy_5 v1 v2 M (H_Mod_forceBy_5 v1 v2 M f) v3 v4 = some q := h
    unfold B_Mod_forceBy_5 at h
    refine g_iload (pc1 := 7) d_Mod_forceBy_5 rfl 4 rfl ?_
    refine g_aload_n (pc1 := 8) d_Mod_forceBy_7 rfl 0 rfl ?_
    refine g_getr (pc1 := 11) d_Mod_forceBy_8 rfl ⟨_, fo_Mod_46⟩ sh_401 (by decide) (rf_401_23 ld) ?_
    refine g_aload_n (pc1 := 12) d_Mod_forceBy_11 rfl 0 rfl ?_
    refine g_geti (pc1 := 15) d_Mod_forceBy_12 rfl ⟨_, fo_Mod_236⟩ sh_401 (by decide) ?_
    obtain ⟨g1, h⟩ := gdn h
    refine g_iald (pc1 := 16) d_Mod_forceBy_15 rfl sh_411 (by decide) g1 ?_
    refine g_icmp_ge (pc1 := 19) (tgt := 55) d_Mod_forceBy_16 (by decide) rfl (fun c2 => ?_) (fun c2 => ?_)
    · replace h := itp h c2
      refine Wp.loc (lv' := [(0, .ref 401), (1, .int v1), (2, .int v2), (3, .int v3)]) [0, 1, 2, 3] rfl ?_
      exact j_Mod_forceBy_55 hld  hQ  h
    · replace h := itn h c2
      refine g_iload_n (pc1 := 20) d_Mod_forceBy_19 rfl 3 rfl ?_
      refine g_aload_n (pc1 := 21) d_Mod_forceBy_20 rfl 0 rfl ?_
      refine g_getr (pc1 := 24) d_Mod_forceBy_21 rfl ⟨_, fo_Mod_128⟩ sh_401 (by decide) (rf_401_55 ld) ?_
      refine g_iload (pc1 := 26) d_Mod_forceBy_24 rfl 4 rfl ?_
      obtain ⟨g13, h⟩ := gdn h
      refine g_iald (pc1 := 27) d_Mod_forceBy_26 rfl sh_438 (by decide) g13 ?_
      refine g_aload_n (pc1 := 28) d_Mod_forceBy_27 rfl 0 rfl ?_
      refine g_getr (pc1 := 31) d_Mod_forceBy_28 rfl ⟨_, fo_Mod_55⟩ sh_401 (by decide) (rf_401_26 ld) ?_
      refine g_iconst (pc1 := 32) (v := 3) d_Mod_forceBy_31 rfl (by decide) ?_
      refine g_bipush (pc1 := 34) (v := 6) d_Mod_forceBy_32 rfl (by decide) ?_
      refine g_aload_n (pc1 := 35) d_Mod_forceBy_34 rfl 0 rfl ?_
      refine g_geti (pc1 := 38) d_Mod_forceBy_35 rfl ⟨_, fo_Mod_236⟩ sh_401 (by decide) ?_
      refine g_imul (pc1 := 39) d_Mod_forceBy_38 rfl ?_
      refine g_iload (pc1 := 41) d_Mod_forceBy_39 rfl 4 rfl ?_
      refine g_iadd (pc1 := 42) d_Mod_forceBy_41 rfl ?_
      refine g_imul (pc1 := 43) d_Mod_forceBy_42 rfl ?_
      refine g_iload_n (pc1 := 44) d_Mod_forceBy_43 rfl 1 rfl ?_
      refine g_iadd (pc1 := 45) d_Mod_forceBy_44 rfl ?_
      obtain ⟨g14, h⟩ := gdn h
      refine g_iald (pc1 := 46) d_Mod_forceBy_45 rfl sh_414 (by decide) g14 ?_
      refine g_imul (pc1 := 47) d_Mod_forceBy_46 rfl ?_
      refine g_iadd (pc1 := 48) d_Mod_forceBy_47 rfl ?_
      refine Wp.lI h (fun x15 h => ?_)
      refine g_istore_n (pc1 := 49) (lv' := [(0, .ref 401), (1, .int v1), (2, .int v2), (3, .int x15), (4, .int v4)]) d_Mod_forceBy_48 rfl rfl (by decide) [1, 2, 3, 0, 4] rfl ?_
      obtain ⟨x16, ex16, h⟩ := ltI h
      refine g_iinc (pc1 := 52) (v := x16) (lv' := [(0, .ref 401), (1, .int v1), (2, .int v2), (3, .int x15), (4, .int x16)]) d_Mod_forceBy_49 rfl 4 rfl (by rw [ex16]; rfl) (by decide) [1, 2, 3, 4, 0] rfl ?_
      refine g_goto (tgt := 5) d_Mod_forceBy_52 (by decide) ?_
      exact hK5 x15 x16 h
def F_Mod_forceBy (p1 : Int32) (p2 : Int32) (M : gM) : Option (Int32 × gM) :=
  H_Mod_forceBy_5 p1 p2 M FU 0 0
set_option maxHeartbeats 4000000 in
set_option maxRecDepth 20000 in
theorem f_Mod_forceBy {l : Launch} {ld : Nat} {M : gM} {L : gL} {Q : Option Value → gM → gL → gR → Prop} (hld : isLa ld) {p1 : Int32} {p2 : Int32}  {q : Int32 × gM} (h : F_Mod_forceBy p1 p2 M = some q) (hQ : Q (some (.int q.1)) q.2 L (rf ld)) : Tm l y_Mod_forceBy (0, 0, 447) 447 [.ref 401, .int p1, .int p2] M L (rf ld) Q := by
  refine Tm.of (by decide) (Nat.le_of_ble_eq_true rfl) ?_
  show Wp l y_Mod_forceBy (0, 0, 447) 447 0 0 0 [(0, .ref 401), (1, .int p1), (2, .int p2)] [] M L (rf ld) Q
  unfold F_Mod_forceBy at h
  refine g_iconst (pc1 := 1) (v := 0) d_Mod_forceBy_0 rfl (by decide) ?_
  refine g_istore_n (pc1 := 2) (lv' := [(0, .ref 401), (1, .int p1), (2, .int p2), (3, .int 0)]) d_Mod_forceBy_1 rfl rfl (by decide) [1, 2, 3, 0] rfl ?_
  refine g_iconst (pc1 := 3) (v := 0) d_Mod_forceBy_2 rfl (by decide) ?_
  refine g_istore (pc1 := 5) (lv' := [(0, .ref 401), (1, .int p1), (2, .int p2), (3, .int 0), (4, .int 0)]) d_Mod_forceBy_3 rfl (by decide) [1, 2, 3, 4, 0] rfl ?_
  exact h_Mod_forceBy_5 hld  hQ  _ 0 0 h

def J_Mod_knownFood_67 (v1 : Int32) (M : gM) (L : gL) : Option (Int32 × gM) :=
  bI (F_Mod_wrong 4 v1 M) (fun q6 => some ((-1), q6))
set_option maxHeartbeats 4000000 in
set_option maxRecDepth 20000 in
theorem j_Mod_knownFood_67 {l : Launch} {ld : Nat} {Q : Option Value → gM → gL → gR → Prop} (hld : isLa ld)   {q : Int32 × gM} {M : gM} {L : gL} (hQ : Q (some (.int q.1)) q.2 L (rf ld))  {v1 : Int32}  (h : J_Mod_knownFood_67 v1 M L = some q) : Wp l y_Mod_knownFood (0, 0, 447) 447 0 0 67 [(0, .ref 401), (1, .int v1)] [] M L (rf ld) Q := by
  unfold J_Mod_knownFood_67 at h
  refine g_aload_n (pc1 := 68) d_Mod_knownFood_67 rfl 0 rfl ?_
  refine g_iconst (pc1 := 69) (v := 4) d_Mod_knownFood_68 rfl (by decide) ?_
  refine g_iload_n (pc1 := 70) d_Mod_knownFood_69 rfl 1 rfl ?_
  refine g_callV0 (pc1 := 73) (As := [.int 4, .int v1]) (rest := []) d_Mod_knownFood_70 rfl mo_Mod_287 mi_Mod_wrong mv_Mod_wrong rfl sh_401 (by decide) (by decide) rfl rfl (Nat.le_of_ble_eq_true rfl) ?_
  obtain ⟨q6, hq7, h⟩ := bnd h
  refine f_Mod_wrong hld  hq7 ?_
  dsimp only [psh]
  refine g_iconst (pc1 := 74) (v := (-1)) d_Mod_knownFood_73 rfl (by decide) ?_
  refine g_ireturn (Or.inl rfl) d_Mod_knownFood_74 rfl ?_
  cases h; exact hQ
def J_Mod_knownFood_61 (K21 : Int32 → Option (Int32 × gM)) (v1 : Int32) (v2 : Int32) (M : gM) (L : gL) : Option (Int32 × gM) :=
  nmI (v2 + 1) (fun x11 => K21 x11)
set_option maxHeartbeats 4000000 in
set_option maxRecDepth 20000 in
theorem j_Mod_knownFood_61 {l : Launch} {ld : Nat} {Q : Option Value → gM → gL → gR → Prop} (hld : isLa ld)   {q : Int32 × gM} {M : gM} {L : gL} (hQ : Q (some (.int q.1)) q.2 L (rf ld)) {K21 : Int32 → Option (Int32 × gM)} {v1 : Int32} {v2 : Int32} (hK21 : ∀ (w2 : Int32), K21 w2 = some q → Wp l y_Mod_knownFood (0, 0, 447) 447 0 0 21 [(0, .ref 401), (1, .int v1), (2, .int w2)] [] M L (rf ld) Q) (h : J_Mod_knownFood_61 K21 v1 v2 M L = some q) : Wp l y_Mod_knownFood (0, 0, 447) 447 0 0 61 [(0, .ref 401), (1, .int v1), (2, .int v2)] [] M L (rf ld) Q := by
  unfold J_Mod_knownFood_61 at h
  obtain ⟨x11, ex11, h⟩ := ltI h
  refine g_iinc (pc1 := 64) (v := x11) (lv' := [(0, .ref 401), (1, .int v1), (2, .int x11)]) d_Mod_knownFood_61 rfl 2 rfl (by rw [ex11]; rfl) (by decide) [1, 2, 0] rfl ?_
  refine g_goto (tgt := 21) d_Mod_knownFood_64 (by decide) ?_
  exact hK21 x11 h
def J_Mod_knownFood_54 (v2 : Int32) (M : gM) (L : gL) : Option (Int32 × gM) :=
  (if (v2 : Int32) < 0 ∨ 21 ≤ (v2 : Int32).toNatClampNeg then none else some ((M 410 (v2 : Int32).toNatClampNeg), M))
set_option maxHeartbeats 4000000 in
set_option maxRecDepth 20000 in
theorem j_Mod_knownFood_54 {l : Launch} {ld : Nat} {Q : Option Value → gM → gL → gR → Prop} (hld : isLa ld)   {q : Int32 × gM} {M : gM} {L : gL} (hQ : Q (some (.int q.1)) q.2 L (rf ld))  {v2 : Int32}  (h : J_Mod_knownFood_54 v2 M L = some q) : Wp l y_Mod_knownFood (0, 0, 447) 447 0 0 54 [(0, .ref 401), (2, .int v2)] [] M L (rf ld) Q := by
  unfold J_Mod_knownFood_54 at h
  refine g_aload_n (pc1 := 55) d_Mod_knownFood_54 rfl 0 rfl ?_
  refine g_getr (pc1 := 58) d_Mod_knownFood_55 rfl ⟨_, fo_Mod_43⟩ sh_401 (by decide) (rf_401_22 ld) ?_
  refine g_iload_n (pc1 := 59) d_Mod_knownFood_58 rfl 1 rfl ?_
  obtain ⟨g14, h⟩ := gdn h
  refine g_iald (pc1 := 60) d_Mod_knownFood_59 rfl sh_410 (by decide) g14 ?_
  refine g_ireturn (Or.inl rfl) d_Mod_knownFood_60 rfl ?_
  cases h; exact hQ
def B_Mod_knownFood_21 (v1 : Int32) (M : gM) (L : gL) (K21 : Int32 → Option (Int32 × gM)) : Int32 → Option (Int32 × gM) := fun v2 =>
  (if (M 401 20) ≤ v2 then J_Mod_knownFood_67 v1 M L else (if (v2 : Int32) < 0 ∨ 21 ≤ (v2 : Int32).toNatClampNeg then none else (if (v1 : Int32) < 0 ∨ 403 ≤ (v1 : Int32).toNatClampNeg then none else (if (lg_cmp (L 409 (v2 : Int32).toNatClampNeg) (L 407 (v1 : Int32).toNatClampNeg)) = 0 then (if (v2 : Int32) < 0 ∨ 21 ≤ (v2 : Int32).toNatClampNeg then none else (if (M 410 (v2 : Int32).toNatClampNeg) < 0 then J_Mod_knownFood_61 K21 v1 v2 M L else J_Mod_knownFood_54 v2 M L)) else J_Mod_knownFood_61 K21 v1 v2 M L))))
def H_Mod_knownFood_21 (v1 : Int32) (M : gM) (L : gL) : Nat → Int32 → Option (Int32 × gM) := lpK (B_Mod_knownFood_21 v1 M L) (fun _ => none)
set_option maxHeartbeats 4000000 in
set_option maxRecDepth 20000 in
theorem h_Mod_knownFood_21 {l : Launch} {ld : Nat} {Q : Option Value → gM → gL → gR → Prop} (hld : isLa ld)   {q : Int32 × gM} {M : gM} {L : gL} (hQ : Q (some (.int q.1)) q.2 L (rf ld))  {v1 : Int32}  : ∀ (f : Nat) (v2 : Int32), H_Mod_knownFood_21 v1 M L f v2 = some q → Wp l y_Mod_knownFood (0, 0, 447) 447 0 0 21 [(0, .ref 401), (1, .int v1), (2, .int v2)] [] M L (rf ld) Q := by
  intro f
  induction f with
  | zero => intro v2 h; cases h
  | succ f hK21 =>
    intro v2 h
    replace h : B_Mod_knownFood_21 v1 M L (H_Mod_knownFood_21 v1 M L f) v2 = some q := h
    unfold B_Mod_knownFood_21 at h
    refine g_iload_n (pc1 := 22) d_Mod_knownFood_21 rfl 2 rfl ?_
    refine g_aload_n (pc1 := 23) d_Mod_knownFood_22 rfl 0 rfl ?_
    refine g_geti (pc1 := 26) d_Mod_knownFood_23 rfl ⟨_, fo_Mod_242⟩ sh_401 (by decide) ?_
    refine g_icmp_ge (pc1 := 29) (tgt := 67) d_Mod_knownFood_26 (by decide) rfl (fun c5 => ?_) (fun c5 => ?_)
    · replace h := itp h c5
      refine Wp.loc (lv' := [(0, .ref 401), (1, .int v1)]) [0, 1] rfl ?_
      exact j_Mod_knownFood_67 hld  hQ  h
    · replace h := itn h c5
      refine g_aload_n (pc1 := 30) d_Mod_knownFood_29 rfl 0 rfl ?_
      refine g_getr (pc1 := 33) d_Mod_knownFood_30 rfl ⟨_, fo_Mod_40⟩ sh_401 (by decide) (rf_401_21 ld) ?_
      refine g_iload_n (pc1 := 34) d_Mod_knownFood_33 rfl 2 rfl ?_
      obtain ⟨g8, h⟩ := gdn h
      refine g_lald (pc1 := 35) d_Mod_knownFood_34 rfl sh_409 (by decide) g8 ?_
      refine g_aload_n (pc1 := 36) d_Mod_knownFood_35 rfl 0 rfl ?_
      refine g_getr (pc1 := 39) d_Mod_knownFood_36 rfl ⟨_, fo_Mod_30⟩ sh_401 (by decide) (rf_401_8 ld) ?_
      refine g_iload_n (pc1 := 40) d_Mod_knownFood_39 rfl 1 rfl ?_
      obtain ⟨g9, h⟩ := gdn h
      refine g_lald (pc1 := 41) d_Mod_knownFood_40 rfl sh_407 (by decide) g9 ?_
      refine g_lcmp (pc1 := 42) d_Mod_knownFood_41 rfl ?_
      refine g_if_ne (pc1 := 45) (tgt := 61) d_Mod_knownFood_42 (by decide) rfl (fun c10 => ?_) (fun c10 => ?_)
      · replace h := itn h c10
        exact j_Mod_knownFood_61 hld  hQ hK21 h
      · replace h := itp h c10
        refine g_aload_n (pc1 := 46) d_Mod_knownFood_45 rfl 0 rfl ?_
        refine g_getr (pc1 := 49) d_Mod_knownFood_46 rfl ⟨_, fo_Mod_43⟩ sh_401 (by decide) (rf_401_22 ld) ?_
        refine g_iload_n (pc1 := 50) d_Mod_knownFood_49 rfl 2 rfl ?_
        obtain ⟨g12, h⟩ := gdn h
        refine g_iald (pc1 := 51) d_Mod_knownFood_50 rfl sh_410 (by decide) g12 ?_
        refine g_if_lt (pc1 := 54) (tgt := 61) d_Mod_knownFood_51 (by decide) rfl (fun c13 => ?_) (fun c13 => ?_)
        · replace h := itp h c13
          exact j_Mod_knownFood_61 hld  hQ hK21 h
        · replace h := itn h c13
          refine Wp.loc (lv' := [(0, .ref 401), (2, .int v2)]) [0, 2] rfl ?_
          exact j_Mod_knownFood_54 hld  hQ  h
def F_Mod_knownFood (M : gM) (L : gL) : Option (Int32 × gM) :=
  nmI (M 401 11) (fun x1 => bI (F_Mod_must 1 M) (fun q2 => (if (q2 401 13) ≤ 0 then H_Mod_knownFood_21 x1 q2 L FU 0 else some ((-1), q2))))
set_option maxHeartbeats 4000000 in
set_option maxRecDepth 20000 in
theorem f_Mod_knownFood {l : Launch} {ld : Nat} {M : gM} {L : gL} {Q : Option Value → gM → gL → gR → Prop} (hld : isLa ld)   {q : Int32 × gM} (h : F_Mod_knownFood M L = some q) (hQ : Q (some (.int q.1)) q.2 L (rf ld)) : Tm l y_Mod_knownFood (0, 0, 447) 447 [.ref 401] M L (rf ld) Q := by
  refine Tm.of (by decide) (Nat.le_of_ble_eq_true rfl) ?_
  show Wp l y_Mod_knownFood (0, 0, 447) 447 0 0 0 [(0, .ref 401)] [] M L (rf ld) Q
  unfold F_Mod_knownFood at h
  refine g_aload_n (pc1 := 1) d_Mod_knownFood_0 rfl 0 rfl ?_
  refine g_geti (pc1 := 4) d_Mod_knownFood_1 rfl ⟨_, fo_Mod_209⟩ sh_401 (by decide) ?_
  refine Wp.lI h (fun x1 h => ?_)
  refine g_istore_n (pc1 := 5) (lv' := [(0, .ref 401), (1, .int x1)]) d_Mod_knownFood_4 rfl rfl (by decide) [1, 0] rfl ?_
  refine g_aload_n (pc1 := 6) d_Mod_knownFood_5 rfl 0 rfl ?_
  refine g_iconst (pc1 := 7) (v := 1) d_Mod_knownFood_6 rfl (by decide) ?_
  refine g_callV0 (pc1 := 10) (As := [.int 1]) (rest := []) d_Mod_knownFood_7 rfl mo_Mod_281 mi_Mod_must mv_Mod_must rfl sh_401 (by decide) (by decide) rfl rfl (Nat.le_of_ble_eq_true rfl) ?_
  obtain ⟨q2, hq3, h⟩ := bnd h
  refine f_Mod_must hld  hq3 ?_
  dsimp only [psh]
  refine g_aload_n (pc1 := 11) d_Mod_knownFood_10 rfl 0 rfl ?_
  refine g_geti (pc1 := 14) d_Mod_knownFood_11 rfl ⟨_, fo_Mod_206⟩ sh_401 (by decide) ?_
  refine g_if_le (pc1 := 17) (tgt := 19) d_Mod_knownFood_14 (by decide) rfl (fun c4 => ?_) (fun c4 => ?_)
  · replace h := itp h c4
    refine g_iconst (pc1 := 20) (v := 0) d_Mod_knownFood_19 rfl (by decide) ?_
    refine g_istore_n (pc1 := 21) (lv' := [(0, .ref 401), (1, .int x1), (2, .int 0)]) d_Mod_knownFood_20 rfl rfl (by decide) [1, 2, 0] rfl ?_
    exact h_Mod_knownFood_21 hld  hQ  _ 0 h
  · replace h := itn h c4
    refine g_iconst (pc1 := 18) (v := (-1)) d_Mod_knownFood_17 rfl (by decide) ?_
    refine g_ireturn (Or.inl rfl) d_Mod_knownFood_18 rfl ?_
    cases h; exact hQ

def J_Mod_named_49 (K12 : Int32 → gM → Option (Int32 × gM)) (v1 : Int32) (v2 : Int32) (M : gM) (L : gL) : Option (Int32 × gM) :=
  nmI (v2 + 1) (fun x9 => K12 x9 M)
set_option maxHeartbeats 4000000 in
set_option maxRecDepth 20000 in
theorem j_Mod_named_49 {l : Launch} {ld : Nat} {Q : Option Value → gM → gL → gR → Prop} (hld : isLa ld)   {q : Int32 × gM} {M : gM} {L : gL} (hQ : Q (some (.int q.1)) q.2 L (rf ld)) {K12 : Int32 → gM → Option (Int32 × gM)} {v1 : Int32} {v2 : Int32} (hK12 : ∀ (w2 : Int32) (M : gM), K12 w2 M = some q → Wp l y_Mod_named (0, 0, 447) 447 0 0 12 [(0, .ref 401), (1, .int v1), (2, .int w2)] [] M L (rf ld) Q) (h : J_Mod_named_49 K12 v1 v2 M L = some q) : Wp l y_Mod_named (0, 0, 447) 447 0 0 49 [(0, .ref 401), (1, .int v1), (2, .int v2)] [] M L (rf ld) Q := by
  unfold J_Mod_named_49 at h
  obtain ⟨x9, ex9, h⟩ := ltI h
  refine g_iinc (pc1 := 52) (v := x9) (lv' := [(0, .ref 401), (1, .int v1), (2, .int x9)]) d_Mod_named_49 rfl 2 rfl (by rw [ex9]; rfl) (by decide) [1, 2, 0] rfl ?_
  refine g_goto (tgt := 12) d_Mod_named_52 (by decide) ?_
  exact hK12 x9 M h
def B_Mod_named_12 (v1 : Int32) (L : gL) (K12 : Int32 → gM → Option (Int32 × gM)) : Int32 → gM → Option (Int32 × gM) := fun v2 M =>
  (if (M 401 20) ≤ v2 then some (v1, M) else (if (M 401 13) = 0 then (if (v2 : Int32) < 0 ∨ 21 ≤ (v2 : Int32).toNatClampNeg then none else (if (v1 : Int32) < 0 ∨ 403 ≤ (v1 : Int32).toNatClampNeg then none else (if (lg_cmp (L 409 (v2 : Int32).toNatClampNeg) (L 407 (v1 : Int32).toNatClampNeg)) = 0 then bI (F_Mod_wrong 3 v1 M) (fun q10 => J_Mod_named_49 K12 v1 v2 q10 L) else J_Mod_named_49 K12 v1 v2 M L))) else some (v1, M)))
def H_Mod_named_12 (v1 : Int32) (L : gL) : Nat → Int32 → gM → Option (Int32 × gM) := lpK (B_Mod_named_12 v1 L) (fun _ _ => none)
set_option maxHeartbeats 4000000 in
set_option maxRecDepth 20000 in
theorem h_Mod_named_12 {l : Launch} {ld : Nat} {Q : Option Value → gM → gL → gR → Prop} (hld : isLa ld)   {q : Int32 × gM} {L : gL} (hQ : Q (some (.int q.1)) q.2 L (rf ld))  {v1 : Int32}  : ∀ (f : Nat) (v2 : Int32) (M : gM), H_Mod_named_12 v1 L f v2 M = some q → Wp l y_Mod_named (0, 0, 447) 447 0 0 12 [(0, .ref 401), (1, .int v1), (2, .int v2)] [] M L (rf ld) Q := by
  intro f
  induction f with
  | zero => intro v2 M h; cases h
  | succ f hK12 =>
    intro v2 M h
    replace h : B_Mod_named_12 v1 L (H_Mod_named_12 v1 L f) v2 M = some q := h
    unfold B_Mod_named_12 at h
    refine g_iload_n (pc1 := 13) d_Mod_named_12 rfl 2 rfl ?_
    refine g_aload_n (pc1 := 14) d_Mod_named_13 rfl 0 rfl ?_
    refine g_geti (pc1 := 17) d_Mod_named_14 rfl ⟨_, fo_Mod_242⟩ sh_401 (by decide) ?_
    refine g_icmp_ge (pc1 := 20) (tgt := 55) d_Mod_named_17 (by decide) rfl (fun c4 => ?_) (fun c4 => ?_)
    · replace h := itp h c4
      refine g_iload_n (pc1 := 56) d_Mod_named_55 rfl 1 rfl ?_
      refine g_ireturn (Or.inl rfl) d_Mod_named_56 rfl ?_
      cases h; exact hQ
    · replace h := itn h c4
      refine g_aload_n (pc1 := 21) d_Mod_named_20 rfl 0 rfl ?_
      refine g_geti (pc1 := 24) d_Mod_named_21 rfl ⟨_, fo_Mod_206⟩ sh_401 (by decide) ?_
      refine g_if_ne (pc1 := 27) (tgt := 55) d_Mod_named_24 (by decide) rfl (fun c5 => ?_) (fun c5 => ?_)
      · replace h := itn h c5
        refine g_iload_n (pc1 := 56) d_Mod_named_55 rfl 1 rfl ?_
        refine g_ireturn (Or.inl rfl) d_Mod_named_56 rfl ?_
        cases h; exact hQ
      · replace h := itp h c5
        refine g_aload_n (pc1 := 28) d_Mod_named_27 rfl 0 rfl ?_
        refine g_getr (pc1 := 31) d_Mod_named_28 rfl ⟨_, fo_Mod_40⟩ sh_401 (by decide) (rf_401_21 ld) ?_
        refine g_iload_n (pc1 := 32) d_Mod_named_31 rfl 2 rfl ?_
        obtain ⟨g6, h⟩ := gdn h
        refine g_lald (pc1 := 33) d_Mod_named_32 rfl sh_409 (by decide) g6 ?_
        refine g_aload_n (pc1 := 34) d_Mod_named_33 rfl 0 rfl ?_
        refine g_getr (pc1 := 37) d_Mod_named_34 rfl ⟨_, fo_Mod_30⟩ sh_401 (by decide) (rf_401_8 ld) ?_
        refine g_iload_n (pc1 := 38) d_Mod_named_37 rfl 1 rfl ?_
        obtain ⟨g7, h⟩ := gdn h
        refine g_lald (pc1 := 39) d_Mod_named_38 rfl sh_407 (by decide) g7 ?_
        refine g_lcmp (pc1 := 40) d_Mod_named_39 rfl ?_
        refine g_if_ne (pc1 := 43) (tgt := 49) d_Mod_named_40 (by decide) rfl (fun c8 => ?_) (fun c8 => ?_)
        · replace h := itn h c8
          exact j_Mod_named_49 hld  hQ hK12 h
        · replace h := itp h c8
          refine g_aload_n (pc1 := 44) d_Mod_named_43 rfl 0 rfl ?_
          refine g_iconst (pc1 := 45) (v := 3) d_Mod_named_44 rfl (by decide) ?_
          refine g_iload_n (pc1 := 46) d_Mod_named_45 rfl 1 rfl ?_
          refine g_callV0 (pc1 := 49) (As := [.int 3, .int v1]) (rest := []) d_Mod_named_46 rfl mo_Mod_287 mi_Mod_wrong mv_Mod_wrong rfl sh_401 (by decide) (by decide) rfl rfl (Nat.le_of_ble_eq_true rfl) ?_
          obtain ⟨q10, hq11, h⟩ := bnd h
          refine f_Mod_wrong hld  hq11 ?_
          dsimp only [psh]
          exact j_Mod_named_49 hld  hQ hK12 h
def F_Mod_named (M : gM) (L : gL) : Option (Int32 × gM) :=
  nmI (M 401 11) (fun x1 => bI (F_Mod_must 1 M) (fun q2 => H_Mod_named_12 x1 L FU 0 q2))
set_option maxHeartbeats 4000000 in
set_option maxRecDepth 20000 in
theorem f_Mod_named {l : Launch} {ld : Nat} {M : gM} {L : gL} {Q : Option Value → gM → gL → gR → Prop} (hld : isLa ld)   {q : Int32 × gM} (h : F_Mod_named M L = some q) (hQ : Q (some (.int q.1)) q.2 L (rf ld)) : Tm l y_Mod_named (0, 0, 447) 447 [.ref 401] M L (rf ld) Q := by
  refine Tm.of (by decide) (Nat.le_of_ble_eq_true rfl) ?_
  show Wp l y_Mod_named (0, 0, 447) 447 0 0 0 [(0, .ref 401)] [] M L (rf ld) Q
  unfold F_Mod_named at h
  refine g_aload_n (pc1 := 1) d_Mod_named_0 rfl 0 rfl ?_
  refine g_geti (pc1 := 4) d_Mod_named_1 rfl ⟨_, fo_Mod_209⟩ sh_401 (by decide) ?_
  refine Wp.lI h (fun x1 h => ?_)
  refine g_istore_n (pc1 := 5) (lv' := [(0, .ref 401), (1, .int x1)]) d_Mod_named_4 rfl rfl (by decide) [1, 0] rfl ?_
  refine g_aload_n (pc1 := 6) d_Mod_named_5 rfl 0 rfl ?_
  refine g_iconst (pc1 := 7) (v := 1) d_Mod_named_6 rfl (by decide) ?_
  refine g_callV0 (pc1 := 10) (As := [.int 1]) (rest := []) d_Mod_named_7 rfl mo_Mod_281 mi_Mod_must mv_Mod_must rfl sh_401 (by decide) (by decide) rfl rfl (Nat.le_of_ble_eq_true rfl) ?_
  obtain ⟨q2, hq3, h⟩ := bnd h
  refine f_Mod_must hld  hq3 ?_
  dsimp only [psh]
  refine g_iconst (pc1 := 11) (v := 0) d_Mod_named_10 rfl (by decide) ?_
  refine g_istore_n (pc1 := 12) (lv' := [(0, .ref 401), (1, .int x1), (2, .int 0)]) d_Mod_named_11 rfl rfl (by decide) [1, 2, 0] rfl ?_
  exact h_Mod_named_12 hld  hQ  _ 0 q2 h

def F_Mod_boundNow (p1 : Int32) (p2 : Int32) (M : gM) : Option (Int32 × gM) :=
  (if ((15 + p1) : Int32) < 0 ∨ 38 ≤ ((15 + p1) : Int32).toNatClampNeg then none else (if 0 ≤ (M 437 ((15 + p1) : Int32).toNatClampNeg) then (if (((19 + (3 * p1)) + p2) : Int32) < 0 ∨ 38 ≤ (((19 + (3 * p1)) + p2) : Int32).toNatClampNeg then none else (if ((15 + p1) : Int32) < 0 ∨ 38 ≤ ((15 + p1) : Int32).toNatClampNeg then none else bI (F_Mod_boundBy p1 p2 (M 437 (((19 + (3 * p1)) + p2) : Int32).toNatClampNeg) ((M 437 (35 : Int32).toNatClampNeg) - (M 437 ((15 + p1) : Int32).toNatClampNeg)) M) (fun q5 => some (q5.1, q5.2)))) else some (0, M)))
set_option maxHeartbeats 4000000 in
set_option maxRecDepth 20000 in
theorem f_Mod_boundNow {l : Launch} {ld : Nat} {M : gM} {L : gL} {Q : Option Value → gM → gL → gR → Prop} (hld : isLa ld) {p1 : Int32} {p2 : Int32}  {q : Int32 × gM} (h : F_Mod_boundNow p1 p2 M = some q) (hQ : Q (some (.int q.1)) q.2 L (rf ld)) : Tm l y_Mod_boundNow (0, 0, 447) 447 [.ref 401, .int p1, .int p2] M L (rf ld) Q := by
  refine Tm.of (by decide) (Nat.le_of_ble_eq_true rfl) ?_
  show Wp l y_Mod_boundNow (0, 0, 447) 447 0 0 0 [(0, .ref 401), (1, .int p1), (2, .int p2)] [] M L (rf ld) Q
  unfold F_Mod_boundNow at h
  refine g_aload_n (pc1 := 1) d_Mod_boundNow_0 rfl 0 rfl ?_
  refine g_getr (pc1 := 4) d_Mod_boundNow_1 rfl ⟨_, fo_Mod_125⟩ sh_401 (by decide) (rf_401_53 ld) ?_
  refine g_bipush (pc1 := 6) (v := 15) d_Mod_boundNow_4 rfl (by decide) ?_
  refine g_iload_n (pc1 := 7) d_Mod_boundNow_6 rfl 1 rfl ?_
  refine g_iadd (pc1 := 8) d_Mod_boundNow_7 rfl ?_
  obtain ⟨g1, h⟩ := gdn h
  refine g_iald (pc1 := 9) d_Mod_boundNow_8 rfl sh_437 (by decide) g1 ?_
  refine g_if_ge (pc1 := 12) (tgt := 16) d_Mod_boundNow_9 (by decide) rfl (fun c2 => ?_) (fun c2 => ?_)
  · replace h := itp h c2
    refine g_aload_n (pc1 := 17) d_Mod_boundNow_16 rfl 0 rfl ?_
    refine g_iload_n (pc1 := 18) d_Mod_boundNow_17 rfl 1 rfl ?_
    refine g_iload_n (pc1 := 19) d_Mod_boundNow_18 rfl 2 rfl ?_
    refine g_aload_n (pc1 := 20) d_Mod_boundNow_19 rfl 0 rfl ?_
    refine g_getr (pc1 := 23) d_Mod_boundNow_20 rfl ⟨_, fo_Mod_125⟩ sh_401 (by decide) (rf_401_53 ld) ?_
    refine g_bipush (pc1 := 25) (v := 19) d_Mod_boundNow_23 rfl (by decide) ?_
    refine g_iconst (pc1 := 26) (v := 3) d_Mod_boundNow_25 rfl (by decide) ?_
    refine g_iload_n (pc1 := 27) d_Mod_boundNow_26 rfl 1 rfl ?_
    refine g_imul (pc1 := 28) d_Mod_boundNow_27 rfl ?_
    refine g_iadd (pc1 := 29) d_Mod_boundNow_28 rfl ?_
    refine g_iload_n (pc1 := 30) d_Mod_boundNow_29 rfl 2 rfl ?_
    refine g_iadd (pc1 := 31) d_Mod_boundNow_30 rfl ?_
    obtain ⟨g3, h⟩ := gdn h
    refine g_iald (pc1 := 32) d_Mod_boundNow_31 rfl sh_437 (by decide) g3 ?_
    refine g_aload_n (pc1 := 33) d_Mod_boundNow_32 rfl 0 rfl ?_
    refine g_getr (pc1 := 36) d_Mod_boundNow_33 rfl ⟨_, fo_Mod_125⟩ sh_401 (by decide) (rf_401_53 ld) ?_
    refine g_bipush (pc1 := 38) (v := 35) d_Mod_boundNow_36 rfl (by decide) ?_
    refine g_iald (pc1 := 39) d_Mod_boundNow_38 rfl sh_437 (by decide) (vin_lit (x := 35) (by decide)) ?_
    refine g_aload_n (pc1 := 40) d_Mod_boundNow_39 rfl 0 rfl ?_
    refine g_getr (pc1 := 43) d_Mod_boundNow_40 rfl ⟨_, fo_Mod_125⟩ sh_401 (by decide) (rf_401_53 ld) ?_
    refine g_bipush (pc1 := 45) (v := 15) d_Mod_boundNow_43 rfl (by decide) ?_
    refine g_iload_n (pc1 := 46) d_Mod_boundNow_45 rfl 1 rfl ?_
    refine g_iadd (pc1 := 47) d_Mod_boundNow_46 rfl ?_
    obtain ⟨g4, h⟩ := gdn h
    refine g_iald (pc1 := 48) d_Mod_boundNow_47 rfl sh_437 (by decide) g4 ?_
    refine g_isub (pc1 := 49) d_Mod_boundNow_48 rfl ?_
    refine g_callV0 (pc1 := 52) (As := [.int p1, .int p2, .int (M 437 (((19 + (3 * p1)) + p2) : Int32).toNatClampNeg), .int ((M 437 (35 : Int32).toNatClampNeg) - (M 437 ((15 + p1) : Int32).toNatClampNeg))]) (rest := []) d_Mod_boundNow_49 rfl mo_Mod_346 mi_Mod_boundBy mv_Mod_boundBy rfl sh_401 (by decide) (by decide) rfl rfl (Nat.le_of_ble_eq_true rfl) ?_
    obtain ⟨q5, hq6, h⟩ := bnd h
    refine f_Mod_boundBy hld  hq6 ?_
    dsimp only [psh]
    refine g_ireturn (Or.inl rfl) d_Mod_boundNow_52 rfl ?_
    cases h; exact hQ
  · replace h := itn h c2
    refine g_iconst (pc1 := 13) (v := 0) d_Mod_boundNow_12 rfl (by decide) ?_
    refine g_goto (tgt := 52) d_Mod_boundNow_13 (by decide) ?_
    refine g_ireturn (Or.inl rfl) d_Mod_boundNow_52 rfl ?_
    cases h; exact hQ

def J_Mod_cooks_227 (v1 : Int32) (v3 : Int32) (M : gM) : Option (Int32 × gM) :=
  (if ((6 + v1) : Int32) < 0 ∨ 38 ≤ ((6 + v1) : Int32).toNatClampNeg then none else (if ((6 + v1) : Int32) < 0 ∨ 38 ≤ ((6 + v1) : Int32).toNatClampNeg then none else nmM (uM M 437 ((6 + v1) : Int32).toNatClampNeg ((M 437 ((6 + v1) : Int32).toNatClampNeg) + 1)) (fun M27 => nmM (uM M27 437 (37 : Int32).toNatClampNeg ((M27 437 (37 : Int32).toNatClampNeg) + 1)) (fun M28 => some (v3, M28)))))
set_option maxHeartbeats 4000000 in
set_option maxRecDepth 20000 in
theorem j_Mod_cooks_227 {l : Launch} {ld : Nat} {Q : Option Value → gM → gL → gR → Prop} (hld : isLa ld)   {q : Int32 × gM} {M : gM} {L : gL} (hQ : Q (some (.int q.1)) q.2 L (rf ld))  {v1 : Int32} {v3 : Int32}  (h : J_Mod_cooks_227 v1 v3 M = some q) : Wp l y_Mod_cooks (0, 0, 447) 447 0 0 227 [(0, .ref 401), (1, .int v1), (3, .int v3)] [] M L (rf ld) Q := by
  unfold J_Mod_cooks_227 at h
  refine g_aload_n (pc1 := 228) d_Mod_cooks_227 rfl 0 rfl ?_
  refine g_getr (pc1 := 231) d_Mod_cooks_228 rfl ⟨_, fo_Mod_125⟩ sh_401 (by decide) (rf_401_53 ld) ?_
  refine g_bipush (pc1 := 233) (v := 6) d_Mod_cooks_231 rfl (by decide) ?_
  refine g_iload_n (pc1 := 234) d_Mod_cooks_233 rfl 1 rfl ?_
  refine g_iadd (pc1 := 235) d_Mod_cooks_234 rfl ?_
  refine g_dup2 (pc1 := 236) d_Mod_cooks_235 rfl rfl rfl ?_
  obtain ⟨g25, h⟩ := gdn h
  refine g_iald (pc1 := 237) d_Mod_cooks_236 rfl sh_437 (by decide) g25 ?_
  refine g_iconst (pc1 := 238) (v := 1) d_Mod_cooks_237 rfl (by decide) ?_
  refine g_iadd (pc1 := 239) d_Mod_cooks_238 rfl ?_
  obtain ⟨g26, h⟩ := gdn h
  refine g_iast (pc1 := 240) d_Mod_cooks_239 rfl sh_437 (by decide) g26 ?_
  refine Wp.lM h (fun M27 h => ?_)
  refine g_aload_n (pc1 := 241) d_Mod_cooks_240 rfl 0 rfl ?_
  refine g_getr (pc1 := 244) d_Mod_cooks_241 rfl ⟨_, fo_Mod_125⟩ sh_401 (by decide) (rf_401_53 ld) ?_
  refine g_bipush (pc1 := 246) (v := 37) d_Mod_cooks_244 rfl (by decide) ?_
  refine g_dup2 (pc1 := 247) d_Mod_cooks_246 rfl rfl rfl ?_
  refine g_iald (pc1 := 248) d_Mod_cooks_247 rfl sh_437 (by decide) (vin_lit (x := 37) (by decide)) ?_
  refine g_iconst (pc1 := 249) (v := 1) d_Mod_cooks_248 rfl (by decide) ?_
  refine g_iadd (pc1 := 250) d_Mod_cooks_249 rfl ?_
  refine g_iast (pc1 := 251) d_Mod_cooks_250 rfl sh_437 (by decide) (vin_lit (x := 37) (by decide)) ?_
  refine Wp.lM h (fun M28 h => ?_)
  refine g_iload_n (pc1 := 252) d_Mod_cooks_251 rfl 2 rfl ?_
  refine g_ireturn (Or.inl rfl) d_Mod_cooks_252 rfl ?_
  cases h; exact hQ
def B_Mod_cooks_198 (v1 : Int32) (v2 : Int32) (v3 : Int32) (K198 : Int32 → gM → Option (Int32 × gM)) : Int32 → gM → Option (Int32 × gM) := fun v4 M =>
  (if 3 ≤ v4 then J_Mod_cooks_227 v1 v3 M else bI (F_Mod_forceBy v4 v2 M) (fun q29 => (if ((12 + v4) : Int32) < 0 ∨ 38 ≤ ((12 + v4) : Int32).toNatClampNeg then none else nmM (uM q29.2 437 ((12 + v4) : Int32).toNatClampNeg q29.1) (fun M32 => nmI (v4 + 1) (fun x33 => K198 x33 M32)))))
def H_Mod_cooks_198 (v1 : Int32) (v2 : Int32) (v3 : Int32) : Nat → Int32 → gM → Option (Int32 × gM) := lpK (B_Mod_cooks_198 v1 v2 v3) (fun _ _ => none)
set_option maxHeartbeats 4000000 in
set_option maxRecDepth 20000 in
theorem h_Mod_cooks_198 {l : Launch} {ld : Nat} {Q : Option Value → gM → gL → gR → Prop} (hld : isLa ld)   {q : Int32 × gM} {L : gL} (hQ : Q (some (.int q.1)) q.2 L (rf ld))  {v1 : Int32} {v2 : Int32} {v3 : Int32}  : ∀ (f : Nat) (v4 : Int32) (M : gM), H_Mod_cooks_198 v1 v2 v3 f v4 M = some q → Wp l y_Mod_cooks (0, 0, 447) 447 0 0 198 [(0, .ref 401), (1, .int v1), (2, .int v2), (3, .int v3), (4, .int v4)] [] M L (rf ld) Q := by
  intro f
  induction f with
  | zero => intro v4 M h; cases h
  | succ f hK198 =>
    intro v4 M h
    replace h : B_Mod_cooks_198 v1 v2 v3 (H_Mod_cooks_198 v1 v2 v3 f) v4 M = some q := h
    unfold B_Mod_cooks_198 at h
    refine g_iload (pc1 := 200) d_Mod_cooks_198 rfl 4 rfl ?_
    refine g_iconst (pc1 := 201) (v := 3) d_Mod_cooks_200 rfl (by decide) ?_
    refine g_icmp_ge (pc1 := 204) (tgt := 227) d_Mod_cooks_201 (by decide) rfl (fun c24 => ?_) (fun c24 => ?_)
    · replace h := itp h c24
      refine Wp.loc (lv' := [(0, .ref 401), (1, .int v1), (3, .int v3)]) [0, 1, 3] rfl ?_
      exact j_Mod_cooks_227 hld  hQ  h
    · replace h := itn h c24
      refine g_aload_n (pc1 := 205) d_Mod_cooks_204 rfl 0 rfl ?_
      refine g_getr (pc1 := 208) d_Mod_cooks_205 rfl ⟨_, fo_Mod_125⟩ sh_401 (by decide) (rf_401_53 ld) ?_
      refine g_bipush (pc1 := 210) (v := 12) d_Mod_cooks_208 rfl (by decide) ?_
      refine g_iload (pc1 := 212) d_Mod_cooks_210 rfl 4 rfl ?_
      refine g_iadd (pc1 := 213) d_Mod_cooks_212 rfl ?_
      refine g_aload_n (pc1 := 214) d_Mod_cooks_213 rfl 0 rfl ?_
      refine g_iload (pc1 := 216) d_Mod_cooks_214 rfl 4 rfl ?_
      refine g_iload_n (pc1 := 217) d_Mod_cooks_216 rfl 2 rfl ?_
      refine g_callV0 (pc1 := 220) (As := [.int v4, .int v2]) (rest := [.int (12 + v4), .ref 437]) d_Mod_cooks_217 rfl mo_Mod_359 mi_Mod_forceBy mv_Mod_forceBy rfl sh_401 (by decide) (by decide) rfl rfl (Nat.le_of_ble_eq_true rfl) ?_
      obtain ⟨q29, hq30, h⟩ := bnd h
      refine f_Mod_forceBy hld  hq30 ?_
      dsimp only [psh]
      obtain ⟨g31, h⟩ := gdn h
      refine g_iast (pc1 := 221) d_Mod_cooks_220 rfl sh_437 (by decide) g31 ?_
      refine Wp.lM h (fun M32 h => ?_)
      obtain ⟨x33, ex33, h⟩ := ltI h
      refine g_iinc (pc1 := 224) (v := x33) (lv' := [(0, .ref 401), (1, .int v1), (2, .int v2), (3, .int v3), (4, .int x33)]) d_Mod_cooks_221 rfl 4 rfl (by rw [ex33]; rfl) (by decide) [1, 2, 3, 4, 0] rfl ?_
      refine g_goto (tgt := 198) d_Mod_cooks_224 (by decide) ?_
      exact hK198 x33 M32 h
def J_Mod_cooks_187 (v1 : Int32) (v2 : Int32) (v3 : Int32) (M : gM) : Option (Int32 × gM) :=
  nmM (uM M 437 (11 : Int32).toNatClampNeg v1) (fun M23 => H_Mod_cooks_198 v1 v2 v3 FU 0 M23)
set_option maxHeartbeats 4000000 in
set_option maxRecDepth 20000 in
theorem j_Mod_cooks_187 {l : Launch} {ld : Nat} {Q : Option Value → gM → gL → gR → Prop} (hld : isLa ld)   {q : Int32 × gM} {M : gM} {L : gL} (hQ : Q (some (.int q.1)) q.2 L (rf ld))  {v1 : Int32} {v2 : Int32} {v3 : Int32}  (h : J_Mod_cooks_187 v1 v2 v3 M = some q) : Wp l y_Mod_cooks (0, 0, 447) 447 0 0 187 [(0, .ref 401), (1, .int v1), (2, .int v2), (3, .int v3)] [] M L (rf ld) Q := by
  unfold J_Mod_cooks_187 at h
  refine g_aload_n (pc1 := 188) d_Mod_cooks_187 rfl 0 rfl ?_
  refine g_getr (pc1 := 191) d_Mod_cooks_188 rfl ⟨_, fo_Mod_125⟩ sh_401 (by decide) (rf_401_53 ld) ?_
  refine g_bipush (pc1 := 193) (v := 11) d_Mod_cooks_191 rfl (by decide) ?_
  refine g_iload_n (pc1 := 194) d_Mod_cooks_193 rfl 1 rfl ?_
  refine g_iast (pc1 := 195) d_Mod_cooks_194 rfl sh_437 (by decide) (vin_lit (x := 11) (by decide)) ?_
  refine Wp.lM h (fun M23 h => ?_)
  refine g_iconst (pc1 := 196) (v := 0) d_Mod_cooks_195 rfl (by decide) ?_
  refine g_istore (pc1 := 198) (lv' := [(0, .ref 401), (1, .int v1), (2, .int v2), (3, .int v3), (4, .int 0)]) d_Mod_cooks_196 rfl (by decide) [1, 2, 3, 4, 0] rfl ?_
  exact h_Mod_cooks_198 hld  hQ  _ 0 M23 h
def J_Mod_cooks_163 (v1 : Int32) (v2 : Int32) (v3 : Int32) (M : gM) : Option (Int32 × gM) :=
  (if v3 < 0 then J_Mod_cooks_187 v1 v2 v3 M else (if (v3 : Int32) < 0 ∨ 38 ≤ (v3 : Int32).toNatClampNeg then none else (if (v3 : Int32) < 0 ∨ 38 ≤ (v3 : Int32).toNatClampNeg then none else nmM (uM M 437 (v3 : Int32).toNatClampNeg ((M 437 (v3 : Int32).toNatClampNeg) - 1)) (fun M36 => (if (v3 : Int32) < 0 ∨ 6 ≤ (v3 : Int32).toNatClampNeg then none else (if (v3 : Int32) < 0 ∨ 6 ≤ (v3 : Int32).toNatClampNeg then none else nmM (uM M36 438 (v3 : Int32).toNatClampNeg ((M36 438 (v3 : Int32).toNatClampNeg) + 1)) (fun M39 => J_Mod_cooks_187 v1 v2 v3 M39)))))))
set_option maxHeartbeats 4000000 in
set_option maxRecDepth 20000 in
theorem j_Mod_cooks_163 {l : Launch} {ld : Nat} {Q : Option Value → gM → gL → gR → Prop} (hld : isLa ld)   {q : Int32 × gM} {M : gM} {L : gL} (hQ : Q (some (.int q.1)) q.2 L (rf ld))  {v1 : Int32} {v2 : Int32} {v3 : Int32}  (h : J_Mod_cooks_163 v1 v2 v3 M = some q) : Wp l y_Mod_cooks (0, 0, 447) 447 0 0 163 [(0, .ref 401), (1, .int v1), (2, .int v2), (3, .int v3)] [] M L (rf ld) Q := by
  unfold J_Mod_cooks_163 at h
  refine g_iload_n (pc1 := 164) d_Mod_cooks_163 rfl 3 rfl ?_
  refine g_if_lt (pc1 := 167) (tgt := 187) d_Mod_cooks_164 (by decide) rfl (fun c22 => ?_) (fun c22 => ?_)
  · replace h := itp h c22
    exact j_Mod_cooks_187 hld  hQ  h
  · replace h := itn h c22
    refine g_aload_n (pc1 := 168) d_Mod_cooks_167 rfl 0 rfl ?_
    refine g_getr (pc1 := 171) d_Mod_cooks_168 rfl ⟨_, fo_Mod_125⟩ sh_401 (by decide) (rf_401_53 ld) ?_
    refine g_iload_n (pc1 := 172) d_Mod_cooks_171 rfl 3 rfl ?_
    refine g_dup2 (pc1 := 173) d_Mod_cooks_172 rfl rfl rfl ?_
    obtain ⟨g34, h⟩ := gdn h
    refine g_iald (pc1 := 174) d_Mod_cooks_173 rfl sh_437 (by decide) g34 ?_
    refine g_iconst (pc1 := 175) (v := 1) d_Mod_cooks_174 rfl (by decide) ?_
    refine g_isub (pc1 := 176) d_Mod_cooks_175 rfl ?_
    obtain ⟨g35, h⟩ := gdn h
    refine g_iast (pc1 := 177) d_Mod_cooks_176 rfl sh_437 (by decide) g35 ?_
    refine Wp.lM h (fun M36 h => ?_)
    refine g_aload_n (pc1 := 178) d_Mod_cooks_177 rfl 0 rfl ?_
    refine g_getr (pc1 := 181) d_Mod_cooks_178 rfl ⟨_, fo_Mod_128⟩ sh_401 (by decide) (rf_401_55 ld) ?_
    refine g_iload_n (pc1 := 182) d_Mod_cooks_181 rfl 3 rfl ?_
    refine g_dup2 (pc1 := 183) d_Mod_cooks_182 rfl rfl rfl ?_
    obtain ⟨g37, h⟩ := gdn h
    refine g_iald (pc1 := 184) d_Mod_cooks_183 rfl sh_438 (by decide) g37 ?_
    refine g_iconst (pc1 := 185) (v := 1) d_Mod_cooks_184 rfl (by decide) ?_
    refine g_iadd (pc1 := 186) d_Mod_cooks_185 rfl ?_
    obtain ⟨g38, h⟩ := gdn h
    refine g_iast (pc1 := 187) d_Mod_cooks_186 rfl sh_438 (by decide) g38 ?_
    refine Wp.lM h (fun M39 h => ?_)
    exact j_Mod_cooks_187 hld  hQ  h
def J_Mod_cooks_147 (v1 : Int32) (v2 : Int32) (v3 : Int32) (M : gM) : Option (Int32 × gM) :=
  (if v3 < 0 then J_Mod_cooks_163 v1 v2 v3 M else (if (v3 : Int32) < 0 ∨ 38 ≤ (v3 : Int32).toNatClampNeg then none else (if (M 437 (v3 : Int32).toNatClampNeg) = 0 then J_Mod_cooks_163 v1 v2 (-2) M else J_Mod_cooks_163 v1 v2 v3 M)))
set_option maxHeartbeats 4000000 in
set_option maxRecDepth 20000 in
theorem j_Mod_cooks_147 {l : Launch} {ld : Nat} {Q : Option Value → gM → gL → gR → Prop} (hld : isLa ld)   {q : Int32 × gM} {M : gM} {L : gL} (hQ : Q (some (.int q.1)) q.2 L (rf ld))  {v1 : Int32} {v2 : Int32} {v3 : Int32}  (h : J_Mod_cooks_147 v1 v2 v3 M = some q) : Wp l y_Mod_cooks (0, 0, 447) 447 0 0 147 [(0, .ref 401), (1, .int v1), (2, .int v2), (3, .int v3)] [] M L (rf ld) Q := by
  unfold J_Mod_cooks_147 at h
  refine g_iload_n (pc1 := 148) d_Mod_cooks_147 rfl 3 rfl ?_
  refine g_if_lt (pc1 := 151) (tgt := 163) d_Mod_cooks_148 (by decide) rfl (fun c21 => ?_) (fun c21 => ?_)
  · replace h := itp h c21
    exact j_Mod_cooks_163 hld  hQ  h
  · replace h := itn h c21
    refine g_aload_n (pc1 := 152) d_Mod_cooks_151 rfl 0 rfl ?_
    refine g_getr (pc1 := 155) d_Mod_cooks_152 rfl ⟨_, fo_Mod_125⟩ sh_401 (by decide) (rf_401_53 ld) ?_
    refine g_iload_n (pc1 := 156) d_Mod_cooks_155 rfl 3 rfl ?_
    obtain ⟨g40, h⟩ := gdn h
    refine g_iald (pc1 := 157) d_Mod_cooks_156 rfl sh_437 (by decide) g40 ?_
    refine g_if_ne (pc1 := 160) (tgt := 163) d_Mod_cooks_157 (by decide) rfl (fun c41 => ?_) (fun c41 => ?_)
    · replace h := itn h c41
      exact j_Mod_cooks_163 hld  hQ  h
    · replace h := itp h c41
      refine g_bipush (pc1 := 162) (v := (-2)) d_Mod_cooks_160 rfl (by decide) ?_
      refine g_istore_n (pc1 := 163) (lv' := [(0, .ref 401), (1, .int v1), (2, .int v2), (3, .int (-2))]) d_Mod_cooks_162 rfl rfl (by decide) [1, 2, 3, 0] rfl ?_
      exact j_Mod_cooks_163 hld  hQ  h
def J_Mod_cooks_55 (v1 : Int32) (v2 : Int32) (M : gM) : Option (Int32 × gM) :=
  bI (F_Mod_potPrice M) (fun q7 => nmM (uM M 437 (36 : Int32).toNatClampNeg ((M 437 (36 : Int32).toNatClampNeg) + q7)) (fun M9 => bI (F_Mod_looks M9) (fun q10 => nmM (uM q10 434 (1 : Int32).toNatClampNeg v2) (fun M12 => bI (F_Mod_potMany M12) (fun q13 => nmM (uM M12 434 (3 : Int32).toNatClampNeg q13) (fun M15 => bI (F_Mod_lotOf (8 * (M15 437 (37 : Int32).toNatClampNeg)) 100 M15) (fun q16 => bI (F_Mod_asks 3 0 0 100 M15) (fun q18 => (if q18.1 ≤ q16 then J_Mod_cooks_147 v1 v2 (-2) q18.2 else (if ((q18.2 401 18) : Int32) < 0 ∨ 2 ≤ ((q18.2 401 18) : Int32).toNatClampNeg then none else bI (F_Mod_lotOf ((8 * (q18.2 437 (37 : Int32).toNatClampNeg)) + 1) (q18.2 411 ((q18.2 401 18) : Int32).toNatClampNeg) q18.2) (fun q43 => J_Mod_cooks_147 v1 v2 q43 q18.2)))))))))))
set_option maxHeartbeats 4000000 in
set_option maxRecDepth 20000 in
theorem j_Mod_cooks_55 {l : Launch} {ld : Nat} {Q : Option Value → gM → gL → gR → Prop} (hld : isLa ld)   {q : Int32 × gM} {M : gM} {L : gL} (hQ : Q (some (.int q.1)) q.2 L (rf ld))  {v1 : Int32} {v2 : Int32}  (h : J_Mod_cooks_55 v1 v2 M = some q) : Wp l y_Mod_cooks (0, 0, 447) 447 0 0 55 [(0, .ref 401), (1, .int v1), (2, .int v2)] [] M L (rf ld) Q := by
  unfold J_Mod_cooks_55 at h
  refine g_aload_n (pc1 := 56) d_Mod_cooks_55 rfl 0 rfl ?_
  refine g_getr (pc1 := 59) d_Mod_cooks_56 rfl ⟨_, fo_Mod_125⟩ sh_401 (by decide) (rf_401_53 ld) ?_
  refine g_bipush (pc1 := 61) (v := 36) d_Mod_cooks_59 rfl (by decide) ?_
  refine g_dup2 (pc1 := 62) d_Mod_cooks_61 rfl rfl rfl ?_
  refine g_iald (pc1 := 63) d_Mod_cooks_62 rfl sh_437 (by decide) (vin_lit (x := 36) (by decide)) ?_
  refine g_aload_n (pc1 := 64) d_Mod_cooks_63 rfl 0 rfl ?_
  refine g_callV0 (pc1 := 67) (As := []) (rest := [.int (M 437 (36 : Int32).toNatClampNeg), .int 36, .ref 437]) d_Mod_cooks_64 rfl mo_Mod_362 mi_Mod_potPrice mv_Mod_potPrice rfl sh_401 (by decide) (by decide) rfl rfl (Nat.le_of_ble_eq_true rfl) ?_
  obtain ⟨q7, hq8, h⟩ := bnd h
  refine f_Mod_potPrice hld  hq8 ?_
  dsimp only [psh]
  refine g_iadd (pc1 := 68) d_Mod_cooks_67 rfl ?_
  refine g_iast (pc1 := 69) d_Mod_cooks_68 rfl sh_437 (by decide) (vin_lit (x := 36) (by decide)) ?_
  refine Wp.lM h (fun M9 h => ?_)
  refine g_aload_n (pc1 := 70) d_Mod_cooks_69 rfl 0 rfl ?_
  refine g_callV0 (pc1 := 73) (As := []) (rest := []) d_Mod_cooks_70 rfl mo_Mod_336 mi_Mod_looks mv_Mod_looks rfl sh_401 (by decide) (by decide) rfl rfl (Nat.le_of_ble_eq_true rfl) ?_
  obtain ⟨q10, hq11, h⟩ := bnd h
  refine f_Mod_looks hld  hq11 ?_
  dsimp only [psh]
  refine g_aload_n (pc1 := 74) d_Mod_cooks_73 rfl 0 rfl ?_
  refine g_getr (pc1 := 77) d_Mod_cooks_74 rfl ⟨_, fo_Mod_116⟩ sh_401 (by decide) (rf_401_49 ld) ?_
  refine g_iconst (pc1 := 78) (v := 1) d_Mod_cooks_77 rfl (by decide) ?_
  refine g_iload_n (pc1 := 79) d_Mod_cooks_78 rfl 2 rfl ?_
  refine g_iast (pc1 := 80) d_Mod_cooks_79 rfl sh_434 (by decide) (vin_lit (x := 1) (by decide)) ?_
  refine Wp.lM h (fun M12 h => ?_)
  refine g_aload_n (pc1 := 81) d_Mod_cooks_80 rfl 0 rfl ?_
  refine g_getr (pc1 := 84) d_Mod_cooks_81 rfl ⟨_, fo_Mod_116⟩ sh_401 (by decide) (rf_401_49 ld) ?_
  refine g_iconst (pc1 := 85) (v := 3) d_Mod_cooks_84 rfl (by decide) ?_
  refine g_aload_n (pc1 := 86) d_Mod_cooks_85 rfl 0 rfl ?_
  refine g_callV0 (pc1 := 89) (As := []) (rest := [.int 3, .ref 434]) d_Mod_cooks_86 rfl mo_Mod_339 mi_Mod_potMany mv_Mod_potMany rfl sh_401 (by decide) (by decide) rfl rfl (Nat.le_of_ble_eq_true rfl) ?_
  obtain ⟨q13, hq14, h⟩ := bnd h
  refine f_Mod_potMany hld  hq14 ?_
  dsimp only [psh]
  refine g_iast (pc1 := 90) d_Mod_cooks_89 rfl sh_434 (by decide) (vin_lit (x := 3) (by decide)) ?_
  refine Wp.lM h (fun M15 h => ?_)
  refine g_bipush (pc1 := 92) (v := (-2)) d_Mod_cooks_90 rfl (by decide) ?_
  refine g_istore_n (pc1 := 93) (lv' := [(0, .ref 401), (1, .int v1), (2, .int v2), (3, .int (-2))]) d_Mod_cooks_92 rfl rfl (by decide) [1, 2, 3, 0] rfl ?_
  refine g_aload_n (pc1 := 94) d_Mod_cooks_93 rfl 0 rfl ?_
  refine g_bipush (pc1 := 96) (v := 8) d_Mod_cooks_94 rfl (by decide) ?_
  refine g_aload_n (pc1 := 97) d_Mod_cooks_96 rfl 0 rfl ?_
  refine g_getr (pc1 := 100) d_Mod_cooks_97 rfl ⟨_, fo_Mod_125⟩ sh_401 (by decide) (rf_401_53 ld) ?_
  refine g_bipush (pc1 := 102) (v := 37) d_Mod_cooks_100 rfl (by decide) ?_
  refine g_iald (pc1 := 103) d_Mod_cooks_102 rfl sh_437 (by decide) (vin_lit (x := 37) (by decide)) ?_
  refine g_imul (pc1 := 104) d_Mod_cooks_103 rfl ?_
  refine g_bipush (pc1 := 106) (v := 100) d_Mod_cooks_104 rfl (by decide) ?_
  refine g_callV0 (pc1 := 109) (As := [.int (8 * (M15 437 (37 : Int32).toNatClampNeg)), .int 100]) (rest := []) d_Mod_cooks_106 rfl mo_Mod_365 mi_Mod_lotOf mv_Mod_lotOf rfl sh_401 (by decide) (by decide) rfl rfl (Nat.le_of_ble_eq_true rfl) ?_
  obtain ⟨q16, hq17, h⟩ := bnd h
  refine f_Mod_lotOf hld  hq17 ?_
  dsimp only [psh]
  refine g_aload_n (pc1 := 110) d_Mod_cooks_109 rfl 0 rfl ?_
  refine g_iconst (pc1 := 111) (v := 3) d_Mod_cooks_110 rfl (by decide) ?_
  refine g_iconst (pc1 := 112) (v := 0) d_Mod_cooks_111 rfl (by decide) ?_
  refine g_iconst (pc1 := 113) (v := 0) d_Mod_cooks_112 rfl (by decide) ?_
  refine g_bipush (pc1 := 115) (v := 100) d_Mod_cooks_113 rfl (by decide) ?_
  refine g_callV0 (pc1 := 118) (As := [.int 3, .int 0, .int 0, .int 100]) (rest := [.int q16]) d_Mod_cooks_115 rfl mo_Mod_342 mi_Mod_asks mv_Mod_asks rfl sh_401 (by decide) (by decide) rfl rfl (Nat.le_of_ble_eq_true rfl) ?_
  obtain ⟨q18, hq19, h⟩ := bnd h
  refine f_Mod_asks hld  hq19 ?_
  dsimp only [psh]
  refine g_icmp_ge (pc1 := 121) (tgt := 147) d_Mod_cooks_118 (by decide) rfl (fun c20 => ?_) (fun c20 => ?_)
  · replace h := itp h c20
    exact j_Mod_cooks_147 hld  hQ  h
  · replace h := itn h c20
    refine g_aload_n (pc1 := 122) d_Mod_cooks_121 rfl 0 rfl ?_
    refine g_bipush (pc1 := 124) (v := 8) d_Mod_cooks_122 rfl (by decide) ?_
    refine g_aload_n (pc1 := 125) d_Mod_cooks_124 rfl 0 rfl ?_
    refine g_getr (pc1 := 128) d_Mod_cooks_125 rfl ⟨_, fo_Mod_125⟩ sh_401 (by decide) (rf_401_53 ld) ?_
    refine g_bipush (pc1 := 130) (v := 37) d_Mod_cooks_128 rfl (by decide) ?_
    refine g_iald (pc1 := 131) d_Mod_cooks_130 rfl sh_437 (by decide) (vin_lit (x := 37) (by decide)) ?_
    refine g_imul (pc1 := 132) d_Mod_cooks_131 rfl ?_
    refine g_iconst (pc1 := 133) (v := 1) d_Mod_cooks_132 rfl (by decide) ?_
    refine g_iadd (pc1 := 134) d_Mod_cooks_133 rfl ?_
    refine g_aload_n (pc1 := 135) d_Mod_cooks_134 rfl 0 rfl ?_
    refine g_getr (pc1 := 138) d_Mod_cooks_135 rfl ⟨_, fo_Mod_46⟩ sh_401 (by decide) (rf_401_23 ld) ?_
    refine g_aload_n (pc1 := 139) d_Mod_cooks_138 rfl 0 rfl ?_
    refine g_geti (pc1 := 142) d_Mod_cooks_139 rfl ⟨_, fo_Mod_236⟩ sh_401 (by decide) ?_
    obtain ⟨g42, h⟩ := gdn h
    refine g_iald (pc1 := 143) d_Mod_cooks_142 rfl sh_411 (by decide) g42 ?_
    refine g_callV0 (pc1 := 146) (As := [.int ((8 * (q18.2 437 (37 : Int32).toNatClampNeg)) + 1), .int (q18.2 411 ((q18.2 401 18) : Int32).toNatClampNeg)]) (rest := []) d_Mod_cooks_143 rfl mo_Mod_365 mi_Mod_lotOf mv_Mod_lotOf rfl sh_401 (by decide) (by decide) rfl rfl (Nat.le_of_ble_eq_true rfl) ?_
    obtain ⟨q43, hq44, h⟩ := bnd h
    refine f_Mod_lotOf hld  hq44 ?_
    dsimp only [psh]
    refine g_istore_n (pc1 := 147) (lv' := [(0, .ref 401), (1, .int v1), (2, .int v2), (3, .int q43)]) d_Mod_cooks_146 rfl rfl (by decide) [1, 2, 3, 0] rfl ?_
    exact j_Mod_cooks_147 hld  hQ  h
def B_Mod_cooks_21 (v1 : Int32) (v2 : Int32) (K21 : Int32 → gM → Option (Int32 × gM)) : Int32 → gM → Option (Int32 × gM) := fun v3 M =>
  (if ((M 401 18) : Int32) < 0 ∨ 2 ≤ ((M 401 18) : Int32).toNatClampNeg then none else (if (M 411 ((M 401 18) : Int32).toNatClampNeg) ≤ v3 then J_Mod_cooks_55 v1 v2 M else (if (v3 : Int32) < 0 ∨ 38 ≤ (v3 : Int32).toNatClampNeg then none else (if (v3 : Int32) < 0 ∨ 6 ≤ (v3 : Int32).toNatClampNeg then none else (if (v3 : Int32) < 0 ∨ 38 ≤ (v3 : Int32).toNatClampNeg then none else nmM (uM M 437 (v3 : Int32).toNatClampNeg ((M 437 (v3 : Int32).toNatClampNeg) - (M 438 (v3 : Int32).toNatClampNeg))) (fun M48 => nmI (v3 + 1) (fun x49 => K21 x49 M48)))))))
def H_Mod_cooks_21 (v1 : Int32) (v2 : Int32) : Nat → Int32 → gM → Option (Int32 × gM) := lpK (B_Mod_cooks_21 v1 v2) (fun _ _ => none)
set_option maxHeartbeats 4000000 in
set_option maxRecDepth 20000 in
theorem h_Mod_cooks_21 {l : Launch} {ld : Nat} {Q : Option Value → gM → gL → gR → Prop} (hld : isLa ld)   {q : Int32 × gM} {L : gL} (hQ : Q (some (.int q.1)) q.2 L (rf ld))  {v1 : Int32} {v2 : Int32}  : ∀ (f : Nat) (v3 : Int32) (M : gM), H_Mod_cooks_21 v1 v2 f v3 M = some q → Wp l y_Mod_cooks (0, 0, 447) 447 0 0 21 [(0, .ref 401), (1, .int v1), (2, .int v2), (3, .int v3)] [] M L (rf ld) Q := by
  intro f
  induction f with
  | zero => intro v3 M h; cases h
  | succ f hK21 =>
    intro v3 M h
    replace h : B_Mod_cooks_21 v1 v2 (H_Mod_cooks_21 v1 v2 f) v3 M = some q := h
    unfold B_Mod_cooks_21 at h
    refine g_iload_n (pc1 := 22) d_Mod_cooks_21 rfl 3 rfl ?_
    refine g_aload_n (pc1 := 23) d_Mod_cooks_22 rfl 0 rfl ?_
    refine g_getr (pc1 := 26) d_Mod_cooks_23 rfl ⟨_, fo_Mod_46⟩ sh_401 (by decide) (rf_401_23 ld) ?_
    refine g_aload_n (pc1 := 27) d_Mod_cooks_26 rfl 0 rfl ?_
    refine g_geti (pc1 := 30) d_Mod_cooks_27 rfl ⟨_, fo_Mod_236⟩ sh_401 (by decide) ?_
    obtain ⟨g5, h⟩ := gdn h
    refine g_iald (pc1 := 31) d_Mod_cooks_30 rfl sh_411 (by decide) g5 ?_
    refine g_icmp_ge (pc1 := 34) (tgt := 55) d_Mod_cooks_31 (by decide) rfl (fun c6 => ?_) (fun c6 => ?_)
    · replace h := itp h c6
      refine Wp.loc (lv' := [(0, .ref 401), (1, .int v1), (2, .int v2)]) [0, 1, 2] rfl ?_
      exact j_Mod_cooks_55 hld  hQ  h
    · replace h := itn h c6
      refine g_aload_n (pc1 := 35) d_Mod_cooks_34 rfl 0 rfl ?_
      refine g_getr (pc1 := 38) d_Mod_cooks_35 rfl ⟨_, fo_Mod_125⟩ sh_401 (by decide) (rf_401_53 ld) ?_
      refine g_iload_n (pc1 := 39) d_Mod_cooks_38 rfl 3 rfl ?_
      refine g_dup2 (pc1 := 40) d_Mod_cooks_39 rfl rfl rfl ?_
      obtain ⟨g45, h⟩ := gdn h
      refine g_iald (pc1 := 41) d_Mod_cooks_40 rfl sh_437 (by decide) g45 ?_
      refine g_aload_n (pc1 := 42) d_Mod_cooks_41 rfl 0 rfl ?_
      refine g_getr (pc1 := 45) d_Mod_cooks_42 rfl ⟨_, fo_Mod_128⟩ sh_401 (by decide) (rf_401_55 ld) ?_
      refine g_iload_n (pc1 := 46) d_Mod_cooks_45 rfl 3 rfl ?_
      obtain ⟨g46, h⟩ := gdn h
      refine g_iald (pc1 := 47) d_Mod_cooks_46 rfl sh_438 (by decide) g46 ?_
      refine g_isub (pc1 := 48) d_Mod_cooks_47 rfl ?_
      obtain ⟨g47, h⟩ := gdn h
      refine g_iast (pc1 := 49) d_Mod_cooks_48 rfl sh_437 (by decide) g47 ?_
      refine Wp.lM h (fun M48 h => ?_)
      obtain ⟨x49, ex49, h⟩ := ltI h
      refine g_iinc (pc1 := 52) (v := x49) (lv' := [(0, .ref 401), (1, .int v1), (2, .int v2), (3, .int x49)]) d_Mod_cooks_49 rfl 3 rfl (by rw [ex49]; rfl) (by decide) [1, 2, 3, 0] rfl ?_
      refine g_goto (tgt := 21) d_Mod_cooks_52 (by decide) ?_
      exact hK21 x49 M48 h
def F_Mod_cooks (p1 : Int32) (M : gM) : Option (Int32 × gM) :=
  (if (((5 * (M 401 18)) + p1) : Int32) < 0 ∨ 10 ≤ (((5 * (M 401 18)) + p1) : Int32).toNatClampNeg then none else nmI (M 416 (((5 * (M 401 18)) + p1) : Int32).toNatClampNeg) (fun x2 => bI (F_Mod_fillsPot p1 M) (fun q3 => H_Mod_cooks_21 p1 x2 FU 0 q3)))
set_option maxHeartbeats 4000000 in
set_option maxRecDepth 20000 in
theorem f_Mod_cooks {l : Launch} {ld : Nat} {M : gM} {L : gL} {Q : Option Value → gM → gL → gR → Prop} (hld : isLa ld) {p1 : Int32}  {q : Int32 × gM} (h : F_Mod_cooks p1 M = some q) (hQ : Q (some (.int q.1)) q.2 L (rf ld)) : Tm l y_Mod_cooks (0, 0, 447) 447 [.ref 401, .int p1] M L (rf ld) Q := by
  refine Tm.of (by decide) (Nat.le_of_ble_eq_true rfl) ?_
  show Wp l y_Mod_cooks (0, 0, 447) 447 0 0 0 [(0, .ref 401), (1, .int p1)] [] M L (rf ld) Q
  unfold F_Mod_cooks at h
  refine g_aload_n (pc1 := 1) d_Mod_cooks_0 rfl 0 rfl ?_
  refine g_getr (pc1 := 4) d_Mod_cooks_1 rfl ⟨_, fo_Mod_61⟩ sh_401 (by decide) (rf_401_28 ld) ?_
  refine g_iconst (pc1 := 5) (v := 5) d_Mod_cooks_4 rfl (by decide) ?_
  refine g_aload_n (pc1 := 6) d_Mod_cooks_5 rfl 0 rfl ?_
  refine g_geti (pc1 := 9) d_Mod_cooks_6 rfl ⟨_, fo_Mod_236⟩ sh_401 (by decide) ?_
  refine g_imul (pc1 := 10) d_Mod_cooks_9 rfl ?_
  refine g_iload_n (pc1 := 11) d_Mod_cooks_10 rfl 1 rfl ?_
  refine g_iadd (pc1 := 12) d_Mod_cooks_11 rfl ?_
  obtain ⟨g1, h⟩ := gdn h
  refine g_iald (pc1 := 13) d_Mod_cooks_12 rfl sh_416 (by decide) g1 ?_
  refine Wp.lI h (fun x2 h => ?_)
  refine g_istore_n (pc1 := 14) (lv' := [(0, .ref 401), (1, .int p1), (2, .int x2)]) d_Mod_cooks_13 rfl rfl (by decide) [1, 2, 0] rfl ?_
  refine g_aload_n (pc1 := 15) d_Mod_cooks_14 rfl 0 rfl ?_
  refine g_iload_n (pc1 := 16) d_Mod_cooks_15 rfl 1 rfl ?_
  refine g_callV0 (pc1 := 19) (As := [.int p1]) (rest := []) d_Mod_cooks_16 rfl mo_Mod_356 mi_Mod_fillsPot mv_Mod_fillsPot rfl sh_401 (by decide) (by decide) rfl rfl (Nat.le_of_ble_eq_true rfl) ?_
  obtain ⟨q3, hq4, h⟩ := bnd h
  refine f_Mod_fillsPot hld  hq4 ?_
  dsimp only [psh]
  refine g_iconst (pc1 := 20) (v := 0) d_Mod_cooks_19 rfl (by decide) ?_
  refine g_istore_n (pc1 := 21) (lv' := [(0, .ref 401), (1, .int p1), (2, .int x2), (3, .int 0)]) d_Mod_cooks_20 rfl rfl (by decide) [1, 2, 3, 0] rfl ?_
  exact h_Mod_cooks_21 hld  hQ  _ 0 q3 h

def F_Mod_dish (p1 : Int32) (p2 : Int32) (M : gM) : Option (Int32 × gM) :=
  bI (F_Mod_isDish p1 M) (fun q1 => (if q1 = 0 then some ((-1), M) else bI (F_Mod_copies M) (fun q4 => bI (F_Mod_fillsPot p1 q4) (fun q6 => (if p2 = 0 then (if (((5 * (q6 401 18)) + p1) : Int32) < 0 ∨ 10 ≤ (((5 * (q6 401 18)) + p1) : Int32).toNatClampNeg then none else some ((q6 416 (((5 * (q6 401 18)) + p1) : Int32).toNatClampNeg), q6)) else (if p2 = 1 then bI (F_Mod_potMany q6) (fun q11 => some (q11, q6)) else (if p2 = 2 then bI (F_Mod_potPrice q6) (fun q14 => some (q14, q6)) else (if p2 = 3 then (if (((5 * (q6 401 18)) + p1) : Int32) < 0 ∨ 10 ≤ (((5 * (q6 401 18)) + p1) : Int32).toNatClampNeg then none else bI (F_Mod_forceBy (p2 - 3) (q6 416 (((5 * (q6 401 18)) + p1) : Int32).toNatClampNeg) q6) (fun q18 => some (q18.1, q18.2))) else (if p2 = 4 then (if (((5 * (q6 401 18)) + p1) : Int32) < 0 ∨ 10 ≤ (((5 * (q6 401 18)) + p1) : Int32).toNatClampNeg then none else bI (F_Mod_forceBy (p2 - 3) (q6 416 (((5 * (q6 401 18)) + p1) : Int32).toNatClampNeg) q6) (fun q22 => some (q22.1, q22.2))) else (if p2 = 5 then (if (((5 * (q6 401 18)) + p1) : Int32) < 0 ∨ 10 ≤ (((5 * (q6 401 18)) + p1) : Int32).toNatClampNeg then none else bI (F_Mod_forceBy (p2 - 3) (q6 416 (((5 * (q6 401 18)) + p1) : Int32).toNatClampNeg) q6) (fun q26 => some (q26.1, q26.2))) else (if p2 = 6 then (if ((6 + p1) : Int32) < 0 ∨ 38 ≤ ((6 + p1) : Int32).toNatClampNeg then none else some ((q6 437 ((6 + p1) : Int32).toNatClampNeg), q6)) else some ((-1), q6))))))))))))
set_option maxHeartbeats 4000000 in
set_option maxRecDepth 20000 in
theorem f_Mod_dish {l : Launch} {ld : Nat} {M : gM} {L : gL} {Q : Option Value → gM → gL → gR → Prop} (hld : isLa ld) {p1 : Int32} {p2 : Int32}  {q : Int32 × gM} (h : F_Mod_dish p1 p2 M = some q) (hQ : Q (some (.int q.1)) q.2 L (rf ld)) : Tm l y_Mod_dish (0, 0, 447) 447 [.ref 401, .int p1, .int p2] M L (rf ld) Q := by
  refine Tm.of (by decide) (Nat.le_of_ble_eq_true rfl) ?_
  show Wp l y_Mod_dish (0, 0, 447) 447 0 0 0 [(0, .ref 401), (1, .int p1), (2, .int p2)] [] M L (rf ld) Q
  unfold F_Mod_dish at h
  refine g_aload_n (pc1 := 1) d_Mod_dish_0 rfl 0 rfl ?_
  refine g_iload_n (pc1 := 2) d_Mod_dish_1 rfl 1 rfl ?_
  refine g_callV0 (pc1 := 5) (As := [.int p1]) (rest := []) d_Mod_dish_2 rfl mo_Mod_374 mi_Mod_isDish mv_Mod_isDish rfl sh_401 (by decide) (by decide) rfl rfl (Nat.le_of_ble_eq_true rfl) ?_
  obtain ⟨q1, hq2, h⟩ := bnd h
  refine f_Mod_isDish hld  hq2 ?_
  dsimp only [psh]
  refine g_if_ne (pc1 := 8) (tgt := 10) d_Mod_dish_5 (by decide) rfl (fun c3 => ?_) (fun c3 => ?_)
  · replace h := itn h c3
    refine g_aload_n (pc1 := 11) d_Mod_dish_10 rfl 0 rfl ?_
    refine g_callV0 (pc1 := 14) (As := []) (rest := []) d_Mod_dish_11 rfl mo_Mod_377 mi_Mod_copies mv_Mod_copies rfl sh_401 (by decide) (by decide) rfl rfl (Nat.le_of_ble_eq_true rfl) ?_
    obtain ⟨q4, hq5, h⟩ := bnd h
    refine f_Mod_copies hld  hq5 ?_
    dsimp only [psh]
    refine g_aload_n (pc1 := 15) d_Mod_dish_14 rfl 0 rfl ?_
    refine g_iload_n (pc1 := 16) d_Mod_dish_15 rfl 1 rfl ?_
    refine g_callV0 (pc1 := 19) (As := [.int p1]) (rest := []) d_Mod_dish_16 rfl mo_Mod_356 mi_Mod_fillsPot mv_Mod_fillsPot rfl sh_401 (by decide) (by decide) rfl rfl (Nat.le_of_ble_eq_true rfl) ?_
    obtain ⟨q6, hq7, h⟩ := bnd h
    refine f_Mod_fillsPot hld  hq7 ?_
    dsimp only [psh]
    refine g_iload_n (pc1 := 20) d_Mod_dish_19 rfl 2 rfl ?_
    by_cases c8 : p2 = 0
    · replace h := itp h c8
      refine g_tabK (tgt := 64) (off := 44) d_Mod_dish_20 c8 (by decide) (by decide) (by decide) (by decide) ?_
      refine g_aload_n (pc1 := 65) d_Mod_dish_64 rfl 0 rfl ?_
      refine g_getr (pc1 := 68) d_Mod_dish_65 rfl ⟨_, fo_Mod_61⟩ sh_401 (by decide) (rf_401_28 ld) ?_
      refine g_iconst (pc1 := 69) (v := 5) d_Mod_dish_68 rfl (by decide) ?_
      refine g_aload_n (pc1 := 70) d_Mod_dish_69 rfl 0 rfl ?_
      refine g_geti (pc1 := 73) d_Mod_dish_70 rfl ⟨_, fo_Mod_236⟩ sh_401 (by decide) ?_
      refine g_imul (pc1 := 74) d_Mod_dish_73 rfl ?_
      refine g_iload_n (pc1 := 75) d_Mod_dish_74 rfl 1 rfl ?_
      refine g_iadd (pc1 := 76) d_Mod_dish_75 rfl ?_
      obtain ⟨g9, h⟩ := gdn h
      refine g_iald (pc1 := 77) d_Mod_dish_76 rfl sh_416 (by decide) g9 ?_
      refine g_ireturn (Or.inl rfl) d_Mod_dish_77 rfl ?_
      cases h; exact hQ
    replace h := itn h c8
    by_cases c10 : p2 = 1
    · replace h := itp h c10
      refine g_tabK (tgt := 78) (off := 58) d_Mod_dish_20 c10 (by decide) (by decide) (by decide) (by decide) ?_
      refine g_aload_n (pc1 := 79) d_Mod_dish_78 rfl 0 rfl ?_
      refine g_callV0 (pc1 := 82) (As := []) (rest := []) d_Mod_dish_79 rfl mo_Mod_339 mi_Mod_potMany mv_Mod_potMany rfl sh_401 (by decide) (by decide) rfl rfl (Nat.le_of_ble_eq_true rfl) ?_
      obtain ⟨q11, hq12, h⟩ := bnd h
      refine f_Mod_potMany hld  hq12 ?_
      dsimp only [psh]
      refine g_ireturn (Or.inl rfl) d_Mod_dish_82 rfl ?_
      cases h; exact hQ
    replace h := itn h c10
    by_cases c13 : p2 = 2
    · replace h := itp h c13
      refine g_tabK (tgt := 83) (off := 63) d_Mod_dish_20 c13 (by decide) (by decide) (by decide) (by decide) ?_
      refine g_aload_n (pc1 := 84) d_Mod_dish_83 rfl 0 rfl ?_
      refine g_callV0 (pc1 := 87) (As := []) (rest := []) d_Mod_dish_84 rfl mo_Mod_362 mi_Mod_potPrice mv_Mod_potPrice rfl sh_401 (by decide) (by decide) rfl rfl (Nat.le_of_ble_eq_true rfl) ?_
      obtain ⟨q14, hq15, h⟩ := bnd h
      refine f_Mod_potPrice hld  hq15 ?_
      dsimp only [psh]
      refine g_ireturn (Or.inl rfl) d_Mod_dish_87 rfl ?_
      cases h; exact hQ
    replace h := itn h c13
    by_cases c16 : p2 = 3
    · replace h := itp h c16
      refine g_tabK (tgt := 88) (off := 68) d_Mod_dish_20 c16 (by decide) (by decide) (by decide) (by decide) ?_
      refine g_aload_n (pc1 := 89) d_Mod_dish_88 rfl 0 rfl ?_
      refine g_iload_n (pc1 := 90) d_Mod_dish_89 rfl 2 rfl ?_
      refine g_iconst (pc1 := 91) (v := 3) d_Mod_dish_90 rfl (by decide) ?_
      refine g_isub (pc1 := 92) d_Mod_dish_91 rfl ?_
      refine g_aload_n (pc1 := 93) d_Mod_dish_92 rfl 0 rfl ?_
      refine g_getr (pc1 := 96) d_Mod_dish_93 rfl ⟨_, fo_Mod_61⟩ sh_401 (by decide) (rf_401_28 ld) ?_
      refine g_iconst (pc1 := 97) (v := 5) d_Mod_dish_96 rfl (by decide) ?_
      refine g_aload_n (pc1 := 98) d_Mod_dish_97 rfl 0 rfl ?_
      refine g_geti (pc1 := 101) d_Mod_dish_98 rfl ⟨_, fo_Mod_236⟩ sh_401 (by decide) ?_
      refine g_imul (pc1 := 102) d_Mod_dish_101 rfl ?_
      refine g_iload_n (pc1 := 103) d_Mod_dish_102 rfl 1 rfl ?_
      refine g_iadd (pc1 := 104) d_Mod_dish_103 rfl ?_
      obtain ⟨g17, h⟩ := gdn h
      refine g_iald (pc1 := 105) d_Mod_dish_104 rfl sh_416 (by decide) g17 ?_
      refine g_callV0 (pc1 := 108) (As := [.int (p2 - 3), .int (q6 416 (((5 * (q6 401 18)) + p1) : Int32).toNatClampNeg)]) (rest := []) d_Mod_dish_105 rfl mo_Mod_359 mi_Mod_forceBy mv_Mod_forceBy rfl sh_401 (by decide) (by decide) rfl rfl (Nat.le_of_ble_eq_true rfl) ?_
      obtain ⟨q18, hq19, h⟩ := bnd h
      refine f_Mod_forceBy hld  hq19 ?_
      dsimp only [psh]
      refine g_ireturn (Or.inl rfl) d_Mod_dish_108 rfl ?_
      cases h; exact hQ
    replace h := itn h c16
    by_cases c20 : p2 = 4
    · replace h := itp h c20
      refine g_tabK (tgt := 88) (off := 68) d_Mod_dish_20 c20 (by decide) (by decide) (by decide) (by decide) ?_
      refine g_aload_n (pc1 := 89) d_Mod_dish_88 rfl 0 rfl ?_
      refine g_iload_n (pc1 := 90) d_Mod_dish_89 rfl 2 rfl ?_
      refine g_iconst (pc1 := 91) (v := 3) d_Mod_dish_90 rfl (by decide) ?_
      refine g_isub (pc1 := 92) d_Mod_dish_91 rfl ?_
      refine g_aload_n (pc1 := 93) d_Mod_dish_92 rfl 0 rfl ?_
      refine g_getr (pc1 := 96) d_Mod_dish_93 rfl ⟨_, fo_Mod_61⟩ sh_401 (by decide) (rf_401_28 ld) ?_
      refine g_iconst (pc1 := 97) (v := 5) d_Mod_dish_96 rfl (by decide) ?_
      refine g_aload_n (pc1 := 98) d_Mod_dish_97 rfl 0 rfl ?_
      refine g_geti (pc1 := 101) d_Mod_dish_98 rfl ⟨_, fo_Mod_236⟩ sh_401 (by decide) ?_
      refine g_imul (pc1 := 102) d_Mod_dish_101 rfl ?_
      refine g_iload_n (pc1 := 103) d_Mod_dish_102 rfl 1 rfl ?_
      refine g_iadd (pc1 := 104) d_Mod_dish_103 rfl ?_
      obtain ⟨g21, h⟩ := gdn h
      refine g_iald (pc1 := 105) d_Mod_dish_104 rfl sh_416 (by decide) g21 ?_
      refine g_callV0 (pc1 := 108) (As := [.int (p2 - 3), .int (q6 416 (((5 * (q6 401 18)) + p1) : Int32).toNatClampNeg)]) (rest := []) d_Mod_dish_105 rfl mo_Mod_359 mi_Mod_forceBy mv_Mod_forceBy rfl sh_401 (by decide) (by decide) rfl rfl (Nat.le_of_ble_eq_true rfl) ?_
      obtain ⟨q22, hq23, h⟩ := bnd h
      refine f_Mod_forceBy hld  hq23 ?_
      dsimp only [psh]
      refine g_ireturn (Or.inl rfl) d_Mod_dish_108 rfl ?_
      cases h; exact hQ
    replace h := itn h c20
    by_cases c24 : p2 = 5
    · replace h := itp h c24
      refine g_tabK (tgt := 88) (off := 68) d_Mod_dish_20 c24 (by decide) (by decide) (by decide) (by decide) ?_
      refine g_aload_n (pc1 := 89) d_Mod_dish_88 rfl 0 rfl ?_
      refine g_iload_n (pc1 := 90) d_Mod_dish_89 rfl 2 rfl ?_
      refine g_iconst (pc1 := 91) (v := 3) d_Mod_dish_90 rfl (by decide) ?_
      refine g_isub (pc1 := 92) d_Mod_dish_91 rfl ?_
      refine g_aload_n (pc1 := 93) d_Mod_dish_92 rfl 0 rfl ?_
      refine g_getr (pc1 := 96) d_Mod_dish_93 rfl ⟨_, fo_Mod_61⟩ sh_401 (by decide) (rf_401_28 ld) ?_
      refine g_iconst (pc1 := 97) (v := 5) d_Mod_dish_96 rfl (by decide) ?_
      refine g_aload_n (pc1 := 98) d_Mod_dish_97 rfl 0 rfl ?_
      refine g_geti (pc1 := 101) d_Mod_dish_98 rfl ⟨_, fo_Mod_236⟩ sh_401 (by decide) ?_
      refine g_imul (pc1 := 102) d_Mod_dish_101 rfl ?_
      refine g_iload_n (pc1 := 103) d_Mod_dish_102 rfl 1 rfl ?_
      refine g_iadd (pc1 := 104) d_Mod_dish_103 rfl ?_
      obtain ⟨g25, h⟩ := gdn h
      refine g_iald (pc1 := 105) d_Mod_dish_104 rfl sh_416 (by decide) g25 ?_
      refine g_callV0 (pc1 := 108) (As := [.int (p2 - 3), .int (q6 416 (((5 * (q6 401 18)) + p1) : Int32).toNatClampNeg)]) (rest := []) d_Mod_dish_105 rfl mo_Mod_359 mi_Mod_forceBy mv_Mod_forceBy rfl sh_401 (by decide) (by decide) rfl rfl (Nat.le_of_ble_eq_true rfl) ?_
      obtain ⟨q26, hq27, h⟩ := bnd h
      refine f_Mod_forceBy hld  hq27 ?_
      dsimp only [psh]
      refine g_ireturn (Or.inl rfl) d_Mod_dish_108 rfl ?_
      cases h; exact hQ
    replace h := itn h c24
    by_cases c28 : p2 = 6
    · replace h := itp h c28
      refine g_tabK (tgt := 109) (off := 89) d_Mod_dish_20 c28 (by decide) (by decide) (by decide) (by decide) ?_
      refine g_aload_n (pc1 := 110) d_Mod_dish_109 rfl 0 rfl ?_
      refine g_getr (pc1 := 113) d_Mod_dish_110 rfl ⟨_, fo_Mod_125⟩ sh_401 (by decide) (rf_401_53 ld) ?_
      refine g_bipush (pc1 := 115) (v := 6) d_Mod_dish_113 rfl (by decide) ?_
      refine g_iload_n (pc1 := 116) d_Mod_dish_115 rfl 1 rfl ?_
      refine g_iadd (pc1 := 117) d_Mod_dish_116 rfl ?_
      obtain ⟨g29, h⟩ := gdn h
      refine g_iald (pc1 := 118) d_Mod_dish_117 rfl sh_437 (by decide) g29 ?_
      refine g_ireturn (Or.inl rfl) d_Mod_dish_118 rfl ?_
      cases h; exact hQ
    replace h := itn h c28
    refine g_tabOut (tgt := 119) d_Mod_dish_20 (by
      have nc8 := neT (a := 0) c8 (by decide)
      have nc10 := neT (a := 1) c10 (by decide)
      have nc13 := neT (a := 2) c13 (by decide)
      have nc16 := neT (a := 3) c16 (by decide)
      have nc20 := neT (a := 4) c20 (by decide)
      have nc24 := neT (a := 5) c24 (by decide)
      have nc28 := neT (a := 6) c28 (by decide)
      omega) (by decide) ?_
    refine g_iconst (pc1 := 120) (v := (-1)) d_Mod_dish_119 rfl (by decide) ?_
    refine g_ireturn (Or.inl rfl) d_Mod_dish_120 rfl ?_
    cases h; exact hQ
  · replace h := itp h c3
    refine g_iconst (pc1 := 9) (v := (-1)) d_Mod_dish_8 rfl (by decide) ?_
    refine g_ireturn (Or.inl rfl) d_Mod_dish_9 rfl ?_
    cases h; exact hQ

def B_Mod_eatsDish_23 (v1 : Int32) (v2 : Int32) (K23 : Int32 → gM → Option (gM)) : Int32 → gM → Option (gM) := fun v3 M =>
  (if 3 ≤ v3 then some M else (if (((5 * (M 401 18)) + v2) : Int32) < 0 ∨ 10 ≤ (((5 * (M 401 18)) + v2) : Int32).toNatClampNeg then none else bI (F_Mod_forceBy v3 (M 416 (((5 * (M 401 18)) + v2) : Int32).toNatClampNeg) M) (fun q7 => (if (((19 + (3 * v1)) + v3) : Int32) < 0 ∨ 38 ≤ (((19 + (3 * v1)) + v3) : Int32).toNatClampNeg then none else nmM (uM q7.2 437 (((19 + (3 * v1)) + v3) : Int32).toNatClampNeg q7.1) (fun M10 => nmI (v3 + 1) (fun x11 => K23 x11 M10))))))
def H_Mod_eatsDish_23 (v1 : Int32) (v2 : Int32) : Nat → Int32 → gM → Option (gM) := lpK (B_Mod_eatsDish_23 v1 v2) (fun _ _ => none)
set_option maxHeartbeats 4000000 in
set_option maxRecDepth 20000 in
theorem h_Mod_eatsDish_23 {l : Launch} {ld : Nat} {Q : Option Value → gM → gL → gR → Prop} (hld : isLa ld)   {q : gM} {L : gL} (hQ : Q none q L (rf ld))  {v1 : Int32} {v2 : Int32}  : ∀ (f : Nat) (v3 : Int32) (M : gM), H_Mod_eatsDish_23 v1 v2 f v3 M = some q → Wp l y_Mod_eatsDish (0, 0, 447) 447 0 0 23 [(0, .ref 401), (1, .int v1), (2, .int v2), (3, .int v3)] [] M L (rf ld) Q := by
  intro f
  induction f with
  | zero => intro v3 M h; cases h
  | succ f hK23 =>
    intro v3 M h
    replace h : B_Mod_eatsDish_23 v1 v2 (H_Mod_eatsDish_23 v1 v2 f) v3 M = some q := h
    unfold B_Mod_eatsDish_23 at h
    refine g_iload_n (pc1 := 24) d_Mod_eatsDish_23 rfl 3 rfl ?_
    refine g_iconst (pc1 := 25) (v := 3) d_Mod_eatsDish_24 rfl (by decide) ?_
    refine g_icmp_ge (pc1 := 28) (tgt := 65) d_Mod_eatsDish_25 (by decide) rfl (fun c5 => ?_) (fun c5 => ?_)
    · replace h := itp h c5
      refine g_return rfl d_Mod_eatsDish_65 rfl ?_
      cases h; exact hQ
    · replace h := itn h c5
      refine g_aload_n (pc1 := 29) d_Mod_eatsDish_28 rfl 0 rfl ?_
      refine g_getr (pc1 := 32) d_Mod_eatsDish_29 rfl ⟨_, fo_Mod_125⟩ sh_401 (by decide) (rf_401_53 ld) ?_
      refine g_bipush (pc1 := 34) (v := 19) d_Mod_eatsDish_32 rfl (by decide) ?_
      refine g_iconst (pc1 := 35) (v := 3) d_Mod_eatsDish_34 rfl (by decide) ?_
      refine g_iload_n (pc1 := 36) d_Mod_eatsDish_35 rfl 1 rfl ?_
      refine g_imul (pc1 := 37) d_Mod_eatsDish_36 rfl ?_
      refine g_iadd (pc1 := 38) d_Mod_eatsDish_37 rfl ?_
      refine g_iload_n (pc1 := 39) d_Mod_eatsDish_38 rfl 3 rfl ?_
      refine g_iadd (pc1 := 40) d_Mod_eatsDish_39 rfl ?_
      refine g_aload_n (pc1 := 41) d_Mod_eatsDish_40 rfl 0 rfl ?_
      refine g_iload_n (pc1 := 42) d_Mod_eatsDish_41 rfl 3 rfl ?_
      refine g_aload_n (pc1 := 43) d_Mod_eatsDish_42 rfl 0 rfl ?_
      refine g_getr (pc1 := 46) d_Mod_eatsDish_43 rfl ⟨_, fo_Mod_61⟩ sh_401 (by decide) (rf_401_28 ld) ?_
      refine g_iconst (pc1 := 47) (v := 5) d_Mod_eatsDish_46 rfl (by decide) ?_
      refine g_aload_n (pc1 := 48) d_Mod_eatsDish_47 rfl 0 rfl ?_
      refine g_geti (pc1 := 51) d_Mod_eatsDish_48 rfl ⟨_, fo_Mod_236⟩ sh_401 (by decide) ?_
      refine g_imul (pc1 := 52) d_Mod_eatsDish_51 rfl ?_
      refine g_iload_n (pc1 := 53) d_Mod_eatsDish_52 rfl 2 rfl ?_
      refine g_iadd (pc1 := 54) d_Mod_eatsDish_53 rfl ?_
      obtain ⟨g6, h⟩ := gdn h
      refine g_iald (pc1 := 55) d_Mod_eatsDish_54 rfl sh_416 (by decide) g6 ?_
      refine g_callV0 (pc1 := 58) (As := [.int v3, .int (M 416 (((5 * (M 401 18)) + v2) : Int32).toNatClampNeg)]) (rest := [.int ((19 + (3 * v1)) + v3), .ref 437]) d_Mod_eatsDish_55 rfl mo_Mod_359 mi_Mod_forceBy mv_Mod_forceBy rfl sh_401 (by decide) (by decide) rfl rfl (Nat.le_of_ble_eq_true rfl) ?_
      obtain ⟨q7, hq8, h⟩ := bnd h
      refine f_Mod_forceBy hld  hq8 ?_
      dsimp only [psh]
      obtain ⟨g9, h⟩ := gdn h
      refine g_iast (pc1 := 59) d_Mod_eatsDish_58 rfl sh_437 (by decide) g9 ?_
      refine Wp.lM h (fun M10 h => ?_)
      obtain ⟨x11, ex11, h⟩ := ltI h
      refine g_iinc (pc1 := 62) (v := x11) (lv' := [(0, .ref 401), (1, .int v1), (2, .int v2), (3, .int x11)]) d_Mod_eatsDish_59 rfl 3 rfl (by rw [ex11]; rfl) (by decide) [1, 2, 3, 0] rfl ?_
      refine g_goto (tgt := 23) d_Mod_eatsDish_62 (by decide) ?_
      exact hK23 x11 M10 h
def F_Mod_eatsDish (p1 : Int32) (p2 : Int32) (M : gM) : Option (gM) :=
  bI (F_Mod_fillsPot p2 M) (fun q1 => (if ((15 + p1) : Int32) < 0 ∨ 38 ≤ ((15 + p1) : Int32).toNatClampNeg then none else nmM (uM q1 437 ((15 + p1) : Int32).toNatClampNeg (q1 437 (35 : Int32).toNatClampNeg)) (fun M4 => H_Mod_eatsDish_23 p1 p2 FU 0 M4)))
set_option maxHeartbeats 4000000 in
set_option maxRecDepth 20000 in
theorem f_Mod_eatsDish {l : Launch} {ld : Nat} {M : gM} {L : gL} {Q : Option Value → gM → gL → gR → Prop} (hld : isLa ld) {p1 : Int32} {p2 : Int32}  {q : gM} (h : F_Mod_eatsDish p1 p2 M = some q) (hQ : Q none q L (rf ld)) : Tm l y_Mod_eatsDish (0, 0, 447) 447 [.ref 401, .int p1, .int p2] M L (rf ld) Q := by
  refine Tm.of (by decide) (Nat.le_of_ble_eq_true rfl) ?_
  show Wp l y_Mod_eatsDish (0, 0, 447) 447 0 0 0 [(0, .ref 401), (1, .int p1), (2, .int p2)] [] M L (rf ld) Q
  unfold F_Mod_eatsDish at h
  refine g_aload_n (pc1 := 1) d_Mod_eatsDish_0 rfl 0 rfl ?_
  refine g_iload_n (pc1 := 2) d_Mod_eatsDish_1 rfl 2 rfl ?_
  refine g_callV0 (pc1 := 5) (As := [.int p2]) (rest := []) d_Mod_eatsDish_2 rfl mo_Mod_356 mi_Mod_fillsPot mv_Mod_fillsPot rfl sh_401 (by decide) (by decide) rfl rfl (Nat.le_of_ble_eq_true rfl) ?_
  obtain ⟨q1, hq2, h⟩ := bnd h
  refine f_Mod_fillsPot hld  hq2 ?_
  dsimp only [psh]
  refine g_aload_n (pc1 := 6) d_Mod_eatsDish_5 rfl 0 rfl ?_
  refine g_getr (pc1 := 9) d_Mod_eatsDish_6 rfl ⟨_, fo_Mod_125⟩ sh_401 (by decide) (rf_401_53 ld) ?_
  refine g_bipush (pc1 := 11) (v := 15) d_Mod_eatsDish_9 rfl (by decide) ?_
  refine g_iload_n (pc1 := 12) d_Mod_eatsDish_11 rfl 1 rfl ?_
  refine g_iadd (pc1 := 13) d_Mod_eatsDish_12 rfl ?_
  refine g_aload_n (pc1 := 14) d_Mod_eatsDish_13 rfl 0 rfl ?_
  refine g_getr (pc1 := 17) d_Mod_eatsDish_14 rfl ⟨_, fo_Mod_125⟩ sh_401 (by decide) (rf_401_53 ld) ?_
  refine g_bipush (pc1 := 19) (v := 35) d_Mod_eatsDish_17 rfl (by decide) ?_
  refine g_iald (pc1 := 20) d_Mod_eatsDish_19 rfl sh_437 (by decide) (vin_lit (x := 35) (by decide)) ?_
  obtain ⟨g3, h⟩ := gdn h
  refine g_iast (pc1 := 21) d_Mod_eatsDish_20 rfl sh_437 (by decide) g3 ?_
  refine Wp.lM h (fun M4 h => ?_)
  refine g_iconst (pc1 := 22) (v := 0) d_Mod_eatsDish_21 rfl (by decide) ?_
  refine g_istore_n (pc1 := 23) (lv' := [(0, .ref 401), (1, .int p1), (2, .int p2), (3, .int 0)]) d_Mod_eatsDish_22 rfl rfl (by decide) [1, 2, 3, 0] rfl ?_
  exact h_Mod_eatsDish_23 hld  hQ  _ 0 M4 h

def B_Mod_goes_2 (v1 : Int32) (K2 : Int32 → gM → Option (gM)) : Int32 → gM → Option (gM) := fun v2 M =>
  (if v1 ≤ v2 then some M else bI (F_Mod_dayGoes M) (fun q2 => nmI (v2 + 1) (fun x4 => K2 x4 q2)))
def H_Mod_goes_2 (v1 : Int32) : Nat → Int32 → gM → Option (gM) := lpK (B_Mod_goes_2 v1) (fun _ _ => none)
set_option maxHeartbeats 4000000 in
set_option maxRecDepth 20000 in
theorem h_Mod_goes_2 {l : Launch} {ld : Nat} {Q : Option Value → gM → gL → gR → Prop} (hld : isLa ld)   {q : gM} {L : gL} (hQ : Q none q L (rf ld))  {v1 : Int32}  : ∀ (f : Nat) (v2 : Int32) (M : gM), H_Mod_goes_2 v1 f v2 M = some q → Wp l y_Mod_goes (0, 0, 447) 447 0 0 2 [(0, .ref 401), (1, .int v1), (2, .int v2)] [] M L (rf ld) Q := by
  intro f
  induction f with
  | zero => intro v2 M h; cases h
  | succ f hK2 =>
    intro v2 M h
    replace h : B_Mod_goes_2 v1 (H_Mod_goes_2 v1 f) v2 M = some q := h
    unfold B_Mod_goes_2 at h
    refine g_iload_n (pc1 := 3) d_Mod_goes_2 rfl 2 rfl ?_
    refine g_iload_n (pc1 := 4) d_Mod_goes_3 rfl 1 rfl ?_
    refine g_icmp_ge (pc1 := 7) (tgt := 17) d_Mod_goes_4 (by decide) rfl (fun c1 => ?_) (fun c1 => ?_)
    · replace h := itp h c1
      refine g_return rfl d_Mod_goes_17 rfl ?_
      cases h; exact hQ
    · replace h := itn h c1
      refine g_aload_n (pc1 := 8) d_Mod_goes_7 rfl 0 rfl ?_
      refine g_callV0 (pc1 := 11) (As := []) (rest := []) d_Mod_goes_8 rfl mo_Mod_368 mi_Mod_dayGoes mv_Mod_dayGoes rfl sh_401 (by decide) (by decide) rfl rfl (Nat.le_of_ble_eq_true rfl) ?_
      obtain ⟨q2, hq3, h⟩ := bnd h
      refine f_Mod_dayGoes hld  hq3 ?_
      dsimp only [psh]
      obtain ⟨x4, ex4, h⟩ := ltI h
      refine g_iinc (pc1 := 14) (v := x4) (lv' := [(0, .ref 401), (1, .int v1), (2, .int x4)]) d_Mod_goes_11 rfl 2 rfl (by rw [ex4]; rfl) (by decide) [1, 2, 0] rfl ?_
      refine g_goto (tgt := 2) d_Mod_goes_14 (by decide) ?_
      exact hK2 x4 q2 h
def F_Mod_goes (p1 : Int32) (M : gM) : Option (gM) :=
  H_Mod_goes_2 p1 FU 0 M
set_option maxHeartbeats 4000000 in
set_option maxRecDepth 20000 in
theorem f_Mod_goes {l : Launch} {ld : Nat} {M : gM} {L : gL} {Q : Option Value → gM → gL → gR → Prop} (hld : isLa ld) {p1 : Int32}  {q : gM} (h : F_Mod_goes p1 M = some q) (hQ : Q none q L (rf ld)) : Tm l y_Mod_goes (0, 0, 447) 447 [.ref 401, .int p1] M L (rf ld) Q := by
  refine Tm.of (by decide) (Nat.le_of_ble_eq_true rfl) ?_
  show Wp l y_Mod_goes (0, 0, 447) 447 0 0 0 [(0, .ref 401), (1, .int p1)] [] M L (rf ld) Q
  unfold F_Mod_goes at h
  refine g_iconst (pc1 := 1) (v := 0) d_Mod_goes_0 rfl (by decide) ?_
  refine g_istore_n (pc1 := 2) (lv' := [(0, .ref 401), (1, .int p1), (2, .int 0)]) d_Mod_goes_1 rfl rfl (by decide) [1, 2, 0] rfl ?_
  exact h_Mod_goes_2 hld  hQ  _ 0 M h

def B_Mod_isAsKnown_2 (v1 : Int32) (K2 : Int32 → gM → Option (Int32 × gM)) : Int32 → gM → Option (Int32 × gM) := fun v2 M =>
  (if v1 ≤ v2 then some (1, M) else (if (v2 : Int32) < 0 ∨ 20 ≤ (v2 : Int32).toNatClampNeg then none else (if (v2 : Int32) < 0 ∨ 20 ≤ (v2 : Int32).toNatClampNeg then none else bI (F_Mod_forceBy (M 441 (v2 : Int32).toNatClampNeg) (M 442 (v2 : Int32).toNatClampNeg) M) (fun q4 => (if (v2 : Int32) < 0 ∨ 20 ≤ (v2 : Int32).toNatClampNeg then none else (if q4.1 = (q4.2 443 (v2 : Int32).toNatClampNeg) then nmI (v2 + 1) (fun x8 => K2 x8 q4.2) else some (0, q4.2)))))))
def H_Mod_isAsKnown_2 (v1 : Int32) : Nat → Int32 → gM → Option (Int32 × gM) := lpK (B_Mod_isAsKnown_2 v1) (fun _ _ => none)
set_option maxHeartbeats 4000000 in
set_option maxRecDepth 20000 in
theorem h_Mod_isAsKnown_2 {l : Launch} {ld : Nat} {Q : Option Value → gM → gL → gR → Prop} (hld : isLa ld)   {q : Int32 × gM} {L : gL} (hQ : Q (some (.int q.1)) q.2 L (rf ld))  {v1 : Int32}  : ∀ (f : Nat) (v2 : Int32) (M : gM), H_Mod_isAsKnown_2 v1 f v2 M = some q → Wp l y_Mod_isAsKnown (0, 0, 447) 447 0 0 2 [(0, .ref 401), (1, .int v1), (2, .int v2)] [] M L (rf ld) Q := by
  intro f
  induction f with
  | zero => intro v2 M h; cases h
  | succ f hK2 =>
    intro v2 M h
    replace h : B_Mod_isAsKnown_2 v1 (H_Mod_isAsKnown_2 v1 f) v2 M = some q := h
    unfold B_Mod_isAsKnown_2 at h
    refine g_iload_n (pc1 := 3) d_Mod_isAsKnown_2 rfl 2 rfl ?_
    refine g_iload_n (pc1 := 4) d_Mod_isAsKnown_3 rfl 1 rfl ?_
    refine g_icmp_ge (pc1 := 7) (tgt := 40) d_Mod_isAsKnown_4 (by decide) rfl (fun c1 => ?_) (fun c1 => ?_)
    · replace h := itp h c1
      refine g_iconst (pc1 := 41) (v := 1) d_Mod_isAsKnown_40 rfl (by decide) ?_
      refine g_ireturn (Or.inr ⟨rfl, rfl⟩) d_Mod_isAsKnown_41 rfl ?_
      cases h; exact hQ
    · replace h := itn h c1
      refine g_aload_n (pc1 := 8) d_Mod_isAsKnown_7 rfl 0 rfl ?_
      refine g_aload_n (pc1 := 9) d_Mod_isAsKnown_8 rfl 0 rfl ?_
      refine g_getr (pc1 := 12) d_Mod_isAsKnown_9 rfl ⟨_, fo_Mod_137⟩ sh_401 (by decide) (rf_401_65 ld) ?_
      refine g_iload_n (pc1 := 13) d_Mod_isAsKnown_12 rfl 2 rfl ?_
      obtain ⟨g2, h⟩ := gdn h
      refine g_iald (pc1 := 14) d_Mod_isAsKnown_13 rfl sh_441 (by decide) g2 ?_
      refine g_aload_n (pc1 := 15) d_Mod_isAsKnown_14 rfl 0 rfl ?_
      refine g_getr (pc1 := 18) d_Mod_isAsKnown_15 rfl ⟨_, fo_Mod_140⟩ sh_401 (by decide) (rf_401_66 ld) ?_
      refine g_iload_n (pc1 := 19) d_Mod_isAsKnown_18 rfl 2 rfl ?_
      obtain ⟨g3, h⟩ := gdn h
      refine g_iald (pc1 := 20) d_Mod_isAsKnown_19 rfl sh_442 (by decide) g3 ?_
      refine g_callV0 (pc1 := 23) (As := [.int (M 441 (v2 : Int32).toNatClampNeg), .int (M 442 (v2 : Int32).toNatClampNeg)]) (rest := []) d_Mod_isAsKnown_20 rfl mo_Mod_359 mi_Mod_forceBy mv_Mod_forceBy rfl sh_401 (by decide) (by decide) rfl rfl (Nat.le_of_ble_eq_true rfl) ?_
      obtain ⟨q4, hq5, h⟩ := bnd h
      refine f_Mod_forceBy hld  hq5 ?_
      dsimp only [psh]
      refine g_aload_n (pc1 := 24) d_Mod_isAsKnown_23 rfl 0 rfl ?_
      refine g_getr (pc1 := 27) d_Mod_isAsKnown_24 rfl ⟨_, fo_Mod_143⟩ sh_401 (by decide) (rf_401_67 ld) ?_
      refine g_iload_n (pc1 := 28) d_Mod_isAsKnown_27 rfl 2 rfl ?_
      obtain ⟨g6, h⟩ := gdn h
      refine g_iald (pc1 := 29) d_Mod_isAsKnown_28 rfl sh_443 (by decide) g6 ?_
      refine g_icmp_eq (pc1 := 32) (tgt := 34) d_Mod_isAsKnown_29 (by decide) rfl (fun c7 => ?_) (fun c7 => ?_)
      · replace h := itp h c7
        obtain ⟨x8, ex8, h⟩ := ltI h
        refine g_iinc (pc1 := 37) (v := x8) (lv' := [(0, .ref 401), (1, .int v1), (2, .int x8)]) d_Mod_isAsKnown_34 rfl 2 rfl (by rw [ex8]; rfl) (by decide) [1, 2, 0] rfl ?_
        refine g_goto (tgt := 2) d_Mod_isAsKnown_37 (by decide) ?_
        exact hK2 x8 q4.2 h
      · replace h := itn h c7
        refine g_iconst (pc1 := 33) (v := 0) d_Mod_isAsKnown_32 rfl (by decide) ?_
        refine g_ireturn (Or.inr ⟨rfl, rfl⟩) d_Mod_isAsKnown_33 rfl ?_
        cases h; exact hQ
def F_Mod_isAsKnown (p1 : Int32) (M : gM) : Option (Int32 × gM) :=
  H_Mod_isAsKnown_2 p1 FU 0 M
set_option maxHeartbeats 4000000 in
set_option maxRecDepth 20000 in
theorem f_Mod_isAsKnown {l : Launch} {ld : Nat} {M : gM} {L : gL} {Q : Option Value → gM → gL → gR → Prop} (hld : isLa ld) {p1 : Int32}  {q : Int32 × gM} (h : F_Mod_isAsKnown p1 M = some q) (hQ : Q (some (.int q.1)) q.2 L (rf ld)) : Tm l y_Mod_isAsKnown (0, 0, 447) 447 [.ref 401, .int p1] M L (rf ld) Q := by
  refine Tm.of (by decide) (Nat.le_of_ble_eq_true rfl) ?_
  show Wp l y_Mod_isAsKnown (0, 0, 447) 447 0 0 0 [(0, .ref 401), (1, .int p1)] [] M L (rf ld) Q
  unfold F_Mod_isAsKnown at h
  refine g_iconst (pc1 := 1) (v := 0) d_Mod_isAsKnown_0 rfl (by decide) ?_
  refine g_istore_n (pc1 := 2) (lv' := [(0, .ref 401), (1, .int p1), (2, .int 0)]) d_Mod_isAsKnown_1 rfl rfl (by decide) [1, 2, 0] rfl ?_
  exact h_Mod_isAsKnown_2 hld  hQ  _ 0 M h

def J_Mod_pinch_144 (v2 : Int32) (v4 : Int32) (v5 : Int32) (M : gM) : Option (Int32 × gM) :=
  (if v2 = 0 then some (v4, M) else some (v5, M))
set_option maxHeartbeats 4000000 in
set_option maxRecDepth 20000 in
theorem j_Mod_pinch_144 {l : Launch} {ld : Nat} {Q : Option Value → gM → gL → gR → Prop} (hld : isLa ld)   {q : Int32 × gM} {M : gM} {L : gL} (hQ : Q (some (.int q.1)) q.2 L (rf ld))  {v2 : Int32} {v4 : Int32} {v5 : Int32}  (h : J_Mod_pinch_144 v2 v4 v5 M = some q) : Wp l y_Mod_pinch (0, 0, 447) 447 0 0 144 [(2, .int v2), (4, .int v4), (5, .int v5)] [] M L (rf ld) Q := by
  unfold J_Mod_pinch_144 at h
  refine g_iload_n (pc1 := 145) d_Mod_pinch_144 rfl 0 rfl ?_
  refine g_if_ne (pc1 := 148) (tgt := 153) d_Mod_pinch_145 (by decide) rfl (fun c13 => ?_) (fun c13 => ?_)
  · replace h := itn h c13
    refine g_iload (pc1 := 155) d_Mod_pinch_153 rfl 2 rfl ?_
    refine g_ireturn (Or.inl rfl) d_Mod_pinch_155 rfl ?_
    cases h; exact hQ
  · replace h := itp h c13
    refine g_iload (pc1 := 150) d_Mod_pinch_148 rfl 1 rfl ?_
    refine g_goto (tgt := 155) d_Mod_pinch_150 (by decide) ?_
    refine g_ireturn (Or.inl rfl) d_Mod_pinch_155 rfl ?_
    cases h; exact hQ
def J_Mod_pinch_138 (K46 : Int32 → Int32 → Int32 → gM → Option (Int32 × gM)) (v1 : Int32) (v2 : Int32) (v3 : Int32) (v4 : Int32) (v5 : Int32) (v6 : Int32) (M : gM) : Option (Int32 × gM) :=
  nmI (v6 + 1) (fun x16 => K46 v4 v5 x16 M)
set_option maxHeartbeats 4000000 in
set_option maxRecDepth 20000 in
theorem j_Mod_pinch_138 {l : Launch} {ld : Nat} {Q : Option Value → gM → gL → gR → Prop} (hld : isLa ld)   {q : Int32 × gM} {M : gM} {L : gL} (hQ : Q (some (.int q.1)) q.2 L (rf ld)) {K46 : Int32 → Int32 → Int32 → gM → Option (Int32 × gM)} {v1 : Int32} {v2 : Int32} {v3 : Int32} {v4 : Int32} {v5 : Int32} {v6 : Int32} (hK46 : ∀ (w4 : Int32) (w5 : Int32) (w6 : Int32) (M : gM), K46 w4 w5 w6 M = some q → Wp l y_Mod_pinch (0, 0, 447) 447 0 0 46 [(0, .ref 401), (1, .int v1), (2, .int v2), (3, .int v3), (4, .int w4), (5, .int w5), (6, .int w6)] [] M L (rf ld) Q) (h : J_Mod_pinch_138 K46 v1 v2 v3 v4 v5 v6 M = some q) : Wp l y_Mod_pinch (0, 0, 447) 447 0 0 138 [(0, .ref 401), (1, .int v1), (2, .int v2), (3, .int v3), (4, .int v4), (5, .int v5), (6, .int v6)] [] M L (rf ld) Q := by
  unfold J_Mod_pinch_138 at h
  obtain ⟨x16, ex16, h⟩ := ltI h
  refine g_iinc (pc1 := 141) (v := x16) (lv' := [(0, .ref 401), (1, .int v1), (2, .int v2), (3, .int v3), (4, .int v4), (5, .int v5), (6, .int x16)]) d_Mod_pinch_138 rfl 6 rfl (by rw [ex16]; rfl) (by decide) [1, 2, 3, 4, 5, 6, 0] rfl ?_
  refine g_goto (tgt := 46) d_Mod_pinch_141 (by decide) ?_
  exact hK46 v4 v5 x16 M h
def J_Mod_pinch_120 (K46 : Int32 → Int32 → Int32 → gM → Option (Int32 × gM)) (v1 : Int32) (v2 : Int32) (v3 : Int32) (v4 : Int32) (v5 : Int32) (v6 : Int32) (v7 : Int32) (M : gM) : Option (Int32 × gM) :=
  (if v5 < v7 then J_Mod_pinch_138 K46 v1 v2 v3 v6 v7 v6 M else J_Mod_pinch_138 K46 v1 v2 v3 v4 v5 v6 M)
set_option maxHeartbeats 4000000 in
set_option maxRecDepth 20000 in
theorem j_Mod_pinch_120 {l : Launch} {ld : Nat} {Q : Option Value → gM → gL → gR → Prop} (hld : isLa ld)   {q : Int32 × gM} {M : gM} {L : gL} (hQ : Q (some (.int q.1)) q.2 L (rf ld)) {K46 : Int32 → Int32 → Int32 → gM → Option (Int32 × gM)} {v1 : Int32} {v2 : Int32} {v3 : Int32} {v4 : Int32} {v5 : Int32} {v6 : Int32} {v7 : Int32} (hK46 : ∀ (w4 : Int32) (w5 : Int32) (w6 : Int32) (M : gM), K46 w4 w5 w6 M = some q → Wp l y_Mod_pinch (0, 0, 447) 447 0 0 46 [(0, .ref 401), (1, .int v1), (2, .int v2), (3, .int v3), (4, .int w4), (5, .int w5), (6, .int w6)] [] M L (rf ld) Q) (h : J_Mod_pinch_120 K46 v1 v2 v3 v4 v5 v6 v7 M = some q) : Wp l y_Mod_pinch (0, 0, 447) 447 0 0 120 [(0, .ref 401), (1, .int v1), (2, .int v2), (3, .int v3), (4, .int v4), (5, .int v5), (6, .int v6), (7, .int v7)] [] M L (rf ld) Q := by
  unfold J_Mod_pinch_120 at h
  refine g_iload (pc1 := 122) d_Mod_pinch_120 rfl 7 rfl ?_
  refine g_iload (pc1 := 124) d_Mod_pinch_122 rfl 5 rfl ?_
  refine g_icmp_gt (pc1 := 127) (tgt := 130) d_Mod_pinch_124 (by decide) rfl (fun c15 => ?_) (fun c15 => ?_)
  · replace h := itp h c15
    refine g_iload (pc1 := 132) d_Mod_pinch_130 rfl 6 rfl ?_
    refine g_istore (pc1 := 134) (lv' := [(0, .ref 401), (1, .int v1), (2, .int v2), (3, .int v3), (4, .int v6), (5, .int v5), (6, .int v6), (7, .int v7)]) d_Mod_pinch_132 rfl (by decide) [1, 2, 3, 4, 0, 5, 6, 7] rfl ?_
    refine g_iload (pc1 := 136) d_Mod_pinch_134 rfl 7 rfl ?_
    refine g_istore (pc1 := 138) (lv' := [(0, .ref 401), (1, .int v1), (2, .int v2), (3, .int v3), (4, .int v6), (5, .int v7), (6, .int v6), (7, .int v7)]) d_Mod_pinch_136 rfl (by decide) [1, 2, 3, 4, 5, 0, 6, 7] rfl ?_
    refine Wp.loc (lv' := [(0, .ref 401), (1, .int v1), (2, .int v2), (3, .int v3), (4, .int v6), (5, .int v7), (6, .int v6)]) [0, 1, 2, 3, 4, 5, 6] rfl ?_
    exact j_Mod_pinch_138 hld  hQ hK46 h
  · replace h := itn h c15
    refine g_goto (tgt := 138) d_Mod_pinch_127 (by decide) ?_
    refine Wp.loc (lv' := [(0, .ref 401), (1, .int v1), (2, .int v2), (3, .int v3), (4, .int v4), (5, .int v5), (6, .int v6)]) [0, 1, 2, 3, 4, 5, 6] rfl ?_
    exact j_Mod_pinch_138 hld  hQ hK46 h
def B_Mod_pinch_66 (K46 : Int32 → Int32 → Int32 → gM → Option (Int32 × gM)) (v1 : Int32) (v2 : Int32) (v3 : Int32) (v4 : Int32) (v5 : Int32) (v6 : Int32) (K66 : Int32 → Int32 → gM → Option (Int32 × gM)) : Int32 → Int32 → gM → Option (Int32 × gM) := fun v7 v8 M =>
  (if 3 ≤ v8 then J_Mod_pinch_120 K46 v1 v2 v3 v4 v5 v6 v7 M else bI (F_Mod_fillsPot v1 M) (fun q17 => bI (F_Mod_forceBy v8 v3 q17) (fun q19 => (if (v6 : Int32) < 0 ∨ 6 ≤ (v6 : Int32).toNatClampNeg then none else (if (v6 : Int32) < 0 ∨ 6 ≤ (v6 : Int32).toNatClampNeg then none else nmM (uM q19.2 438 (v6 : Int32).toNatClampNeg ((q19.2 438 (v6 : Int32).toNatClampNeg) + 1)) (fun M23 => bI (F_Mod_forceBy v8 v3 M23) (fun q24 => bI (F_Mod_off q19.1 q24.1) (fun q26 => nmI (v7 + q26) (fun x28 => nmI (v8 + 1) (fun x29 => K66 x28 x29 q24.2))))))))))
def H_Mod_pinch_66 (K46 : Int32 → Int32 → Int32 → gM → Option (Int32 × gM)) (v1 : Int32) (v2 : Int32) (v3 : Int32) (v4 : Int32) (v5 : Int32) (v6 : Int32) : Nat → Int32 → Int32 → gM → Option (Int32 × gM) := lpK (B_Mod_pinch_66 K46 v1 v2 v3 v4 v5 v6) (fun _ _ _ => none)
set_option maxHeartbeats 4000000 in
set_option maxRecDepth 20000 in
theorem h_Mod_pinch_66 {l : Launch} {ld : Nat} {Q : Option Value → gM → gL → gR → Prop} (hld : isLa ld)   {q : Int32 × gM} {L : gL} (hQ : Q (some (.int q.1)) q.2 L (rf ld)) {K46 : Int32 → Int32 → Int32 → gM → Option (Int32 × gM)} {v1 : Int32} {v2 : Int32} {v3 : Int32} {v4 : Int32} {v5 : Int32} {v6 : Int32} (hK46 : ∀ (w4 : Int32) (w5 : Int32) (w6 : Int32) (M : gM), K46 w4 w5 w6 M = some q → Wp l y_Mod_pinch (0, 0, 447) 447 0 0 46 [(0, .ref 401), (1, .int v1), (2, .int v2), (3, .int v3), (4, .int w4), (5, .int w5), (6, .int w6)] [] M L (rf ld) Q) : ∀ (f : Nat) (v7 : Int32) (v8 : Int32) (M : gM), H_Mod_pinch_66 K46 v1 v2 v3 v4 v5 v6 f v7 v8 M = some q → Wp l y_Mod_pinch (0, 0, 447) 447 0 0 66 [(0, .ref 401), (1, .int v1), (2, .int v2), (3, .int v3), (4, .int v4), (5, .int v5), (6, .int v6), (7, .int v7), (8, .int v8)] [] M L (rf ld) Q := by
  intro f
  induction f with
  | zero => intro v7 v8 M h; cases h
  | succ f hK66 =>
    intro v7 v8 M h
    replace h : B_Mod_pinch_66 K46 v1 v2 v3 v4 v5 v6 (H_Mod_pinch_66 K46 v1 v2 v3 v4 v5 v6 f) v7 v8 M = some q := h
    unfold B_Mod_pinch_66 at h
    refine g_iload (pc1 := 68) d_Mod_pinch_66 rfl 8 rfl ?_
    refine g_iconst (pc1 := 69) (v := 3) d_Mod_pinch_68 rfl (by decide) ?_
    refine g_icmp_ge (pc1 := 72) (tgt := 120) d_Mod_pinch_69 (by decide) rfl (fun c14 => ?_) (fun c14 => ?_)
    · replace h := itp h c14
      refine Wp.loc (lv' := [(0, .ref 401), (1, .int v1), (2, .int v2), (3, .int v3), (4, .int v4), (5, .int v5), (6, .int v6), (7, .int v7)]) [0, 1, 2, 3, 4, 5, 6, 7] rfl ?_
      exact j_Mod_pinch_120 hld  hQ hK46 h
    · replace h := itn h c14
      refine g_aload_n (pc1 := 73) d_Mod_pinch_72 rfl 0 rfl ?_
      refine g_iload_n (pc1 := 74) d_Mod_pinch_73 rfl 1 rfl ?_
      refine g_callV0 (pc1 := 77) (As := [.int v1]) (rest := []) d_Mod_pinch_74 rfl mo_Mod_356 mi_Mod_fillsPot mv_Mod_fillsPot rfl sh_401 (by decide) (by decide) rfl rfl (Nat.le_of_ble_eq_true rfl) ?_
      obtain ⟨q17, hq18, h⟩ := bnd h
      refine f_Mod_fillsPot hld  hq18 ?_
      dsimp only [psh]
      refine g_aload_n (pc1 := 78) d_Mod_pinch_77 rfl 0 rfl ?_
      refine g_iload (pc1 := 80) d_Mod_pinch_78 rfl 8 rfl ?_
      refine g_iload_n (pc1 := 81) d_Mod_pinch_80 rfl 3 rfl ?_
      refine g_callV0 (pc1 := 84) (As := [.int v8, .int v3]) (rest := []) d_Mod_pinch_81 rfl mo_Mod_359 mi_Mod_forceBy mv_Mod_forceBy rfl sh_401 (by decide) (by decide) rfl rfl (Nat.le_of_ble_eq_true rfl) ?_
      obtain ⟨q19, hq20, h⟩ := bnd h
      refine f_Mod_forceBy hld  hq20 ?_
      dsimp only [psh]
      refine g_istore (pc1 := 86) (lv' := [(0, .ref 401), (1, .int v1), (2, .int v2), (3, .int v3), (4, .int v4), (5, .int v5), (6, .int v6), (7, .int v7), (8, .int v8), (9, .int q19.1)]) d_Mod_pinch_84 rfl (by decide) [1, 2, 3, 4, 5, 6, 7, 8, 9, 0] rfl ?_
      refine g_aload_n (pc1 := 87) d_Mod_pinch_86 rfl 0 rfl ?_
      refine g_getr (pc1 := 90) d_Mod_pinch_87 rfl ⟨_, fo_Mod_128⟩ sh_401 (by decide) (rf_401_55 ld) ?_
      refine g_iload (pc1 := 92) d_Mod_pinch_90 rfl 6 rfl ?_
      refine g_dup2 (pc1 := 93) d_Mod_pinch_92 rfl rfl rfl ?_
      obtain ⟨g21, h⟩ := gdn h
      refine g_iald (pc1 := 94) d_Mod_pinch_93 rfl sh_438 (by decide) g21 ?_
      refine g_iconst (pc1 := 95) (v := 1) d_Mod_pinch_94 rfl (by decide) ?_
      refine g_iadd (pc1 := 96) d_Mod_pinch_95 rfl ?_
      obtain ⟨g22, h⟩ := gdn h
      refine g_iast (pc1 := 97) d_Mod_pinch_96 rfl sh_438 (by decide) g22 ?_
      refine Wp.lM h (fun M23 h => ?_)
      refine g_iload (pc1 := 99) d_Mod_pinch_97 rfl 7 rfl ?_
      refine g_iload (pc1 := 101) d_Mod_pinch_99 rfl 9 rfl ?_
      refine g_aload_n (pc1 := 102) d_Mod_pinch_101 rfl 0 rfl ?_
      refine g_iload (pc1 := 104) d_Mod_pinch_102 rfl 8 rfl ?_
      refine g_iload_n (pc1 := 105) d_Mod_pinch_104 rfl 3 rfl ?_
      refine g_callV0 (pc1 := 108) (As := [.int v8, .int v3]) (rest := [.int q19.1, .int v7]) d_Mod_pinch_105 rfl mo_Mod_359 mi_Mod_forceBy mv_Mod_forceBy rfl sh_401 (by decide) (by decide) rfl rfl (Nat.le_of_ble_eq_true rfl) ?_
      obtain ⟨q24, hq25, h⟩ := bnd h
      refine f_Mod_forceBy hld  hq25 ?_
      dsimp only [psh]
      refine g_callS0 (pc1 := 111) (As := [.int q19.1, .int q24.1]) (rest := [.int v7]) d_Mod_pinch_108 rfl mo_Mod_425 ms_Mod_off (by decide) rfl rfl (Nat.le_of_ble_eq_true rfl) ?_
      obtain ⟨q26, hq27, h⟩ := bnd h
      refine f_Mod_off hld  hq27 ?_
      dsimp only [psh]
      refine g_iadd (pc1 := 112) d_Mod_pinch_111 rfl ?_
      refine Wp.lI h (fun x28 h => ?_)
      refine g_istore (pc1 := 114) (lv' := [(0, .ref 401), (1, .int v1), (2, .int v2), (3, .int v3), (4, .int v4), (5, .int v5), (6, .int v6), (7, .int x28), (8, .int v8), (9, .int q19.1)]) d_Mod_pinch_112 rfl (by decide) [1, 2, 3, 4, 5, 6, 7, 0, 8, 9] rfl ?_
      obtain ⟨x29, ex29, h⟩ := ltI h
      refine g_iinc (pc1 := 117) (v := x29) (lv' := [(0, .ref 401), (1, .int v1), (2, .int v2), (3, .int v3), (4, .int v4), (5, .int v5), (6, .int v6), (7, .int x28), (8, .int x29), (9, .int q19.1)]) d_Mod_pinch_114 rfl 8 rfl (by rw [ex29]; rfl) (by decide) [1, 2, 3, 4, 5, 6, 7, 8, 0, 9] rfl ?_
      refine g_goto (tgt := 66) d_Mod_pinch_117 (by decide) ?_
      refine Wp.loc (lv' := [(0, .ref 401), (1, .int v1), (2, .int v2), (3, .int v3), (4, .int v4), (5, .int v5), (6, .int v6), (7, .int x28), (8, .int x29)]) [0, 1, 2, 3, 4, 5, 6, 7, 8] rfl ?_
      exact hK66 x28 x29 q24.2 h
def B_Mod_pinch_46 (v1 : Int32) (v2 : Int32) (v3 : Int32) (K46 : Int32 → Int32 → Int32 → gM → Option (Int32 × gM)) : Int32 → Int32 → Int32 → gM → Option (Int32 × gM) := fun v4 v5 v6 M =>
  (if ((M 401 18) : Int32) < 0 ∨ 2 ≤ ((M 401 18) : Int32).toNatClampNeg then none else (if (M 411 ((M 401 18) : Int32).toNatClampNeg) ≤ v6 then J_Mod_pinch_144 v2 v4 v5 M else H_Mod_pinch_66 K46 v1 v2 v3 v4 v5 v6 FU 0 0 M))
def H_Mod_pinch_46 (v1 : Int32) (v2 : Int32) (v3 : Int32) : Nat → Int32 → Int32 → Int32 → gM → Option (Int32 × gM) := lpK (B_Mod_pinch_46 v1 v2 v3) (fun _ _ _ _ => none)
set_option maxHeartbeats 4000000 in
set_option maxRecDepth 20000 in
theorem h_Mod_pinch_46 {l : Launch} {ld : Nat} {Q : Option Value → gM → gL → gR → Prop} (hld : isLa ld)   {q : Int32 × gM} {L : gL} (hQ : Q (some (.int q.1)) q.2 L (rf ld))  {v1 : Int32} {v2 : Int32} {v3 : Int32}  : ∀ (f : Nat) (v4 : Int32) (v5 : Int32) (v6 : Int32) (M : gM), H_Mod_pinch_46 v1 v2 v3 f v4 v5 v6 M = some q → Wp l y_Mod_pinch (0, 0, 447) 447 0 0 46 [(0, .ref 401), (1, .int v1), (2, .int v2), (3, .int v3), (4, .int v4), (5, .int v5), (6, .int v6)] [] M L (rf ld) Q := by
  intro f
  induction f with
  | zero => intro v4 v5 v6 M h; cases h
  | succ f hK46 =>
    intro v4 v5 v6 M h
    replace h : B_Mod_pinch_46 v1 v2 v3 (H_Mod_pinch_46 v1 v2 v3 f) v4 v5 v6 M = some q := h
    unfold B_Mod_pinch_46 at h
    refine g_iload (pc1 := 48) d_Mod_pinch_46 rfl 6 rfl ?_
    refine g_aload_n (pc1 := 49) d_Mod_pinch_48 rfl 0 rfl ?_
    refine g_getr (pc1 := 52) d_Mod_pinch_49 rfl ⟨_, fo_Mod_46⟩ sh_401 (by decide) (rf_401_23 ld) ?_
    refine g_aload_n (pc1 := 53) d_Mod_pinch_52 rfl 0 rfl ?_
    refine g_geti (pc1 := 56) d_Mod_pinch_53 rfl ⟨_, fo_Mod_236⟩ sh_401 (by decide) ?_
    obtain ⟨g11, h⟩ := gdn h
    refine g_iald (pc1 := 57) d_Mod_pinch_56 rfl sh_411 (by decide) g11 ?_
    refine g_icmp_ge (pc1 := 60) (tgt := 144) d_Mod_pinch_57 (by decide) rfl (fun c12 => ?_) (fun c12 => ?_)
    · replace h := itp h c12
      refine Wp.loc (lv' := [(2, .int v2), (4, .int v4), (5, .int v5)]) [2, 4, 5] rfl ?_
      exact j_Mod_pinch_144 hld  hQ  h
    · replace h := itn h c12
      refine g_iconst (pc1 := 61) (v := 0) d_Mod_pinch_60 rfl (by decide) ?_
      refine g_istore (pc1 := 63) (lv' := [(0, .ref 401), (1, .int v1), (2, .int v2), (3, .int v3), (4, .int v4), (5, .int v5), (6, .int v6), (7, .int 0)]) d_Mod_pinch_61 rfl (by decide) [1, 2, 3, 4, 5, 6, 7, 0] rfl ?_
      refine g_iconst (pc1 := 64) (v := 0) d_Mod_pinch_63 rfl (by decide) ?_
      refine g_istore (pc1 := 66) (lv' := [(0, .ref 401), (1, .int v1), (2, .int v2), (3, .int v3), (4, .int v4), (5, .int v5), (6, .int v6), (7, .int 0), (8, .int 0)]) d_Mod_pinch_64 rfl (by decide) [1, 2, 3, 4, 5, 6, 7, 8, 0] rfl ?_
      exact h_Mod_pinch_66 hld  hQ hK46 _ 0 0 M h
def F_Mod_pinch (p1 : Int32) (p2 : Int32) (M : gM) : Option (Int32 × gM) :=
  bI (F_Mod_isDish p1 M) (fun q1 => (if q1 = 0 then some ((-1), M) else bI (F_Mod_in p2 0 1) (fun q4 => (if q4 = 0 then some ((-1), M) else bI (F_Mod_copies M) (fun q7 => (if (((5 * (q7 401 18)) + p1) : Int32) < 0 ∨ 10 ≤ (((5 * (q7 401 18)) + p1) : Int32).toNatClampNeg then none else nmI (q7 416 (((5 * (q7 401 18)) + p1) : Int32).toNatClampNeg) (fun x10 => H_Mod_pinch_46 p1 p2 x10 FU 0 (-1) 0 q7)))))))
set_option maxHeartbeats 4000000 in
set_option maxRecDepth 20000 in
theorem f_Mod_pinch {l : Launch} {ld : Nat} {M : gM} {L : gL} {Q : Option Value → gM → gL → gR → Prop} (hld : isLa ld) {p1 : Int32} {p2 : Int32}  {q : Int32 × gM} (h : F_Mod_pinch p1 p2 M = some q) (hQ : Q (some (.int q.1)) q.2 L (rf ld)) : Tm l y_Mod_pinch (0, 0, 447) 447 [.ref 401, .int p1, .int p2] M L (rf ld) Q := by
  refine Tm.of (by decide) (Nat.le_of_ble_eq_true rfl) ?_
  show Wp l y_Mod_pinch (0, 0, 447) 447 0 0 0 [(0, .ref 401), (1, .int p1), (2, .int p2)] [] M L (rf ld) Q
  unfold F_Mod_pinch at h
  refine g_aload_n (pc1 := 1) d_Mod_pinch_0 rfl 0 rfl ?_
  refine g_iload_n (pc1 := 2) d_Mod_pinch_1 rfl 1 rfl ?_
  refine g_callV0 (pc1 := 5) (As := [.int p1]) (rest := []) d_Mod_pinch_2 rfl mo_Mod_374 mi_Mod_isDish mv_Mod_isDish rfl sh_401 (by decide) (by decide) rfl rfl (Nat.le_of_ble_eq_true rfl) ?_
  obtain ⟨q1, hq2, h⟩ := bnd h
  refine f_Mod_isDish hld  hq2 ?_
  dsimp only [psh]
  refine g_if_eq (pc1 := 8) (tgt := 17) d_Mod_pinch_5 (by decide) rfl (fun c3 => ?_) (fun c3 => ?_)
  · replace h := itp h c3
    refine g_iconst (pc1 := 18) (v := (-1)) d_Mod_pinch_17 rfl (by decide) ?_
    refine g_ireturn (Or.inl rfl) d_Mod_pinch_18 rfl ?_
    cases h; exact hQ
  · replace h := itn h c3
    refine g_iload_n (pc1 := 9) d_Mod_pinch_8 rfl 2 rfl ?_
    refine g_iconst (pc1 := 10) (v := 0) d_Mod_pinch_9 rfl (by decide) ?_
    refine g_iconst (pc1 := 11) (v := 1) d_Mod_pinch_10 rfl (by decide) ?_
    refine g_callS0 (pc1 := 14) (As := [.int p2, .int 0, .int 1]) (rest := []) d_Mod_pinch_11 rfl mo_Mod_316 ms_Mod_in (by decide) rfl rfl (Nat.le_of_ble_eq_true rfl) ?_
    obtain ⟨q4, hq5, h⟩ := bnd h
    refine f_Mod_in hld  hq5 ?_
    dsimp only [psh]
    refine g_if_ne (pc1 := 17) (tgt := 19) d_Mod_pinch_14 (by decide) rfl (fun c6 => ?_) (fun c6 => ?_)
    · replace h := itn h c6
      refine g_aload_n (pc1 := 20) d_Mod_pinch_19 rfl 0 rfl ?_
      refine g_callV0 (pc1 := 23) (As := []) (rest := []) d_Mod_pinch_20 rfl mo_Mod_377 mi_Mod_copies mv_Mod_copies rfl sh_401 (by decide) (by decide) rfl rfl (Nat.le_of_ble_eq_true rfl) ?_
      obtain ⟨q7, hq8, h⟩ := bnd h
      refine f_Mod_copies hld  hq8 ?_
      dsimp only [psh]
      refine g_aload_n (pc1 := 24) d_Mod_pinch_23 rfl 0 rfl ?_
      refine g_getr (pc1 := 27) d_Mod_pinch_24 rfl ⟨_, fo_Mod_61⟩ sh_401 (by decide) (rf_401_28 ld) ?_
      refine g_iconst (pc1 := 28) (v := 5) d_Mod_pinch_27 rfl (by decide) ?_
      refine g_aload_n (pc1 := 29) d_Mod_pinch_28 rfl 0 rfl ?_
      refine g_geti (pc1 := 32) d_Mod_pinch_29 rfl ⟨_, fo_Mod_236⟩ sh_401 (by decide) ?_
      refine g_imul (pc1 := 33) d_Mod_pinch_32 rfl ?_
      refine g_iload_n (pc1 := 34) d_Mod_pinch_33 rfl 1 rfl ?_
      refine g_iadd (pc1 := 35) d_Mod_pinch_34 rfl ?_
      obtain ⟨g9, h⟩ := gdn h
      refine g_iald (pc1 := 36) d_Mod_pinch_35 rfl sh_416 (by decide) g9 ?_
      refine Wp.lI h (fun x10 h => ?_)
      refine g_istore_n (pc1 := 37) (lv' := [(0, .ref 401), (1, .int p1), (2, .int p2), (3, .int x10)]) d_Mod_pinch_36 rfl rfl (by decide) [1, 2, 3, 0] rfl ?_
      refine g_iconst (pc1 := 38) (v := 0) d_Mod_pinch_37 rfl (by decide) ?_
      refine g_istore (pc1 := 40) (lv' := [(0, .ref 401), (1, .int p1), (2, .int p2), (3, .int x10), (4, .int 0)]) d_Mod_pinch_38 rfl (by decide) [1, 2, 3, 4, 0] rfl ?_
      refine g_iconst (pc1 := 41) (v := (-1)) d_Mod_pinch_40 rfl (by decide) ?_
      refine g_istore (pc1 := 43) (lv' := [(0, .ref 401), (1, .int p1), (2, .int p2), (3, .int x10), (4, .int 0), (5, .int (-1))]) d_Mod_pinch_41 rfl (by decide) [1, 2, 3, 4, 5, 0] rfl ?_
      refine g_iconst (pc1 := 44) (v := 0) d_Mod_pinch_43 rfl (by decide) ?_
      refine g_istore (pc1 := 46) (lv' := [(0, .ref 401), (1, .int p1), (2, .int p2), (3, .int x10), (4, .int 0), (5, .int (-1)), (6, .int 0)]) d_Mod_pinch_44 rfl (by decide) [1, 2, 3, 4, 5, 6, 0] rfl ?_
      exact h_Mod_pinch_46 hld  hQ  _ 0 (-1) 0 q7 h
    · replace h := itp h c6
      refine g_iconst (pc1 := 18) (v := (-1)) d_Mod_pinch_17 rfl (by decide) ?_
      refine g_ireturn (Or.inl rfl) d_Mod_pinch_18 rfl ?_
      cases h; exact hQ

def J_Mod_potAt_46 (K3 : Int32 → gM → Option (Int32 × gM)) (v1 : Int32) (v2 : Int32) (v3 : Int32) (v4 : Int32) (M : gM) : Option (Int32 × gM) :=
  nmI (v4 + 1) (fun x5 => K3 x5 M)
set_option maxHeartbeats 4000000 in
set_option maxRecDepth 20000 in
theorem j_Mod_potAt_46 {l : Launch} {ld : Nat} {Q : Option Value → gM → gL → gR → Prop} (hld : isLa ld)   {q : Int32 × gM} {M : gM} {L : gL} (hQ : Q (some (.int q.1)) q.2 L (rf ld)) {K3 : Int32 → gM → Option (Int32 × gM)} {v1 : Int32} {v2 : Int32} {v3 : Int32} {v4 : Int32} (hK3 : ∀ (w4 : Int32) (M : gM), K3 w4 M = some q → Wp l y_Mod_potAt (0, 0, 447) 447 0 0 3 [(0, .ref 401), (1, .int v1), (2, .int v2), (3, .int v3), (4, .int w4)] [] M L (rf ld) Q) (h : J_Mod_potAt_46 K3 v1 v2 v3 v4 M = some q) : Wp l y_Mod_potAt (0, 0, 447) 447 0 0 46 [(0, .ref 401), (1, .int v1), (2, .int v2), (3, .int v3), (4, .int v4)] [] M L (rf ld) Q := by
  unfold J_Mod_potAt_46 at h
  obtain ⟨x5, ex5, h⟩ := ltI h
  refine g_iinc (pc1 := 49) (v := x5) (lv' := [(0, .ref 401), (1, .int v1), (2, .int v2), (3, .int v3), (4, .int x5)]) d_Mod_potAt_46 rfl 4 rfl (by rw [ex5]; rfl) (by decide) [1, 2, 3, 4, 0] rfl ?_
  refine g_goto (tgt := 3) d_Mod_potAt_49 (by decide) ?_
  exact hK3 x5 M h
def B_Mod_potAt_3 (v1 : Int32) (v2 : Int32) (v3 : Int32) (K3 : Int32 → gM → Option (Int32 × gM)) : Int32 → gM → Option (Int32 × gM) := fun v4 M =>
  (if 9 < v4 then some ((-1), M) else bI (F_Mod_forceBy 0 v4 M) (fun q2 => (if q2.1 < v1 then J_Mod_potAt_46 K3 v1 v2 v3 v4 q2.2 else bI (F_Mod_forceBy 1 v4 q2.2) (fun q6 => (if q6.1 < v2 then J_Mod_potAt_46 K3 v1 v2 v3 v4 q6.2 else bI (F_Mod_forceBy 2 v4 q6.2) (fun q9 => (if q9.1 < v3 then J_Mod_potAt_46 K3 v1 v2 v3 v4 q9.2 else some (v4, q9.2))))))))
def H_Mod_potAt_3 (v1 : Int32) (v2 : Int32) (v3 : Int32) : Nat → Int32 → gM → Option (Int32 × gM) := lpK (B_Mod_potAt_3 v1 v2 v3) (fun _ _ => none)
set_option maxHeartbeats 4000000 in
set_option maxRecDepth 20000 in
theorem h_Mod_potAt_3 {l : Launch} {ld : Nat} {Q : Option Value → gM → gL → gR → Prop} (hld : isLa ld)   {q : Int32 × gM} {L : gL} (hQ : Q (some (.int q.1)) q.2 L (rf ld))  {v1 : Int32} {v2 : Int32} {v3 : Int32}  : ∀ (f : Nat) (v4 : Int32) (M : gM), H_Mod_potAt_3 v1 v2 v3 f v4 M = some q → Wp l y_Mod_potAt (0, 0, 447) 447 0 0 3 [(0, .ref 401), (1, .int v1), (2, .int v2), (3, .int v3), (4, .int v4)] [] M L (rf ld) Q := by
  intro f
  induction f with
  | zero => intro v4 M h; cases h
  | succ f hK3 =>
    intro v4 M h
    replace h : B_Mod_potAt_3 v1 v2 v3 (H_Mod_potAt_3 v1 v2 v3 f) v4 M = some q := h
    unfold B_Mod_potAt_3 at h
    refine g_iload (pc1 := 5) d_Mod_potAt_3 rfl 4 rfl ?_
    refine g_bipush (pc1 := 7) (v := 9) d_Mod_potAt_5 rfl (by decide) ?_
    refine g_icmp_gt (pc1 := 10) (tgt := 52) d_Mod_potAt_7 (by decide) rfl (fun c1 => ?_) (fun c1 => ?_)
    · replace h := itp h c1
      refine g_iconst (pc1 := 53) (v := (-1)) d_Mod_potAt_52 rfl (by decide) ?_
      refine g_ireturn (Or.inl rfl) d_Mod_potAt_53 rfl ?_
      cases h; exact hQ
    · replace h := itn h c1
      refine g_aload_n (pc1 := 11) d_Mod_potAt_10 rfl 0 rfl ?_
      refine g_iconst (pc1 := 12) (v := 0) d_Mod_potAt_11 rfl (by decide) ?_
      refine g_iload (pc1 := 14) d_Mod_potAt_12 rfl 4 rfl ?_
      refine g_callV0 (pc1 := 17) (As := [.int 0, .int v4]) (rest := []) d_Mod_potAt_14 rfl mo_Mod_359 mi_Mod_forceBy mv_Mod_forceBy rfl sh_401 (by decide) (by decide) rfl rfl (Nat.le_of_ble_eq_true rfl) ?_
      obtain ⟨q2, hq3, h⟩ := bnd h
      refine f_Mod_forceBy hld  hq3 ?_
      dsimp only [psh]
      refine g_iload_n (pc1 := 18) d_Mod_potAt_17 rfl 1 rfl ?_
      refine g_icmp_lt (pc1 := 21) (tgt := 46) d_Mod_potAt_18 (by decide) rfl (fun c4 => ?_) (fun c4 => ?_)
      · replace h := itp h c4
        exact j_Mod_potAt_46 hld  hQ hK3 h
      · replace h := itn h c4
        refine g_aload_n (pc1 := 22) d_Mod_potAt_21 rfl 0 rfl ?_
        refine g_iconst (pc1 := 23) (v := 1) d_Mod_potAt_22 rfl (by decide) ?_
        refine g_iload (pc1 := 25) d_Mod_potAt_23 rfl 4 rfl ?_
        refine g_callV0 (pc1 := 28) (As := [.int 1, .int v4]) (rest := []) d_Mod_potAt_25 rfl mo_Mod_359 mi_Mod_forceBy mv_Mod_forceBy rfl sh_401 (by decide) (by decide) rfl rfl (Nat.le_of_ble_eq_true rfl) ?_
        obtain ⟨q6, hq7, h⟩ := bnd h
        refine f_Mod_forceBy hld  hq7 ?_
        dsimp only [psh]
        refine g_iload_n (pc1 := 29) d_Mod_potAt_28 rfl 2 rfl ?_
        refine g_icmp_lt (pc1 := 32) (tgt := 46) d_Mod_potAt_29 (by decide) rfl (fun c8 => ?_) (fun c8 => ?_)
        · replace h := itp h c8
          exact j_Mod_potAt_46 hld  hQ hK3 h
        · replace h := itn h c8
          refine g_aload_n (pc1 := 33) d_Mod_potAt_32 rfl 0 rfl ?_
          refine g_iconst (pc1 := 34) (v := 2) d_Mod_potAt_33 rfl (by decide) ?_
          refine g_iload (pc1 := 36) d_Mod_potAt_34 rfl 4 rfl ?_
          refine g_callV0 (pc1 := 39) (As := [.int 2, .int v4]) (rest := []) d_Mod_potAt_36 rfl mo_Mod_359 mi_Mod_forceBy mv_Mod_forceBy rfl sh_401 (by decide) (by decide) rfl rfl (Nat.le_of_ble_eq_true rfl) ?_
          obtain ⟨q9, hq10, h⟩ := bnd h
          refine f_Mod_forceBy hld  hq10 ?_
          dsimp only [psh]
          refine g_iload_n (pc1 := 40) d_Mod_potAt_39 rfl 3 rfl ?_
          refine g_icmp_lt (pc1 := 43) (tgt := 46) d_Mod_potAt_40 (by decide) rfl (fun c11 => ?_) (fun c11 => ?_)
          · replace h := itp h c11
            exact j_Mod_potAt_46 hld  hQ hK3 h
          · replace h := itn h c11
            refine g_iload (pc1 := 45) d_Mod_potAt_43 rfl 4 rfl ?_
            refine g_ireturn (Or.inl rfl) d_Mod_potAt_45 rfl ?_
            cases h; exact hQ
def F_Mod_potAt (p1 : Int32) (p2 : Int32) (p3 : Int32) (M : gM) : Option (Int32 × gM) :=
  H_Mod_potAt_3 p1 p2 p3 FU 0 M
set_option maxHeartbeats 4000000 in
set_option maxRecDepth 20000 in
theorem f_Mod_potAt {l : Launch} {ld : Nat} {M : gM} {L : gL} {Q : Option Value → gM → gL → gR → Prop} (hld : isLa ld) {p1 : Int32} {p2 : Int32} {p3 : Int32}  {q : Int32 × gM} (h : F_Mod_potAt p1 p2 p3 M = some q) (hQ : Q (some (.int q.1)) q.2 L (rf ld)) : Tm l y_Mod_potAt (0, 0, 447) 447 [.ref 401, .int p1, .int p2, .int p3] M L (rf ld) Q := by
  refine Tm.of (by decide) (Nat.le_of_ble_eq_true rfl) ?_
  show Wp l y_Mod_potAt (0, 0, 447) 447 0 0 0 [(0, .ref 401), (1, .int p1), (2, .int p2), (3, .int p3)] [] M L (rf ld) Q
  unfold F_Mod_potAt at h
  refine g_iconst (pc1 := 1) (v := 0) d_Mod_potAt_0 rfl (by decide) ?_
  refine g_istore (pc1 := 3) (lv' := [(0, .ref 401), (1, .int p1), (2, .int p2), (3, .int p3), (4, .int 0)]) d_Mod_potAt_1 rfl (by decide) [1, 2, 3, 4, 0] rfl ?_
  exact h_Mod_potAt_3 hld  hQ  _ 0 M h

def J_Mod_tellDish_127 (v2 : Int32) (M : gM) (L : gL) : Option (gM × gL) :=
  bI (F_Mod_ends v2 (-1) M L) (fun q17 => (if (q17.1 401 13) = 0 then (if ((q17.1 401 19) : Int32) < 0 ∨ 2 ≤ ((q17.1 401 19) : Int32).toNatClampNeg then none else (if ((q17.1 401 19) : Int32) < 0 ∨ 2 ≤ ((q17.1 401 19) : Int32).toNatClampNeg then none else nmM (uM q17.1 415 ((q17.1 401 19) : Int32).toNatClampNeg ((q17.1 415 ((q17.1 401 19) : Int32).toNatClampNeg) + 1)) (fun M22 => some (M22, q17.2)))) else some (q17.1, q17.2)))
set_option maxHeartbeats 4000000 in
set_option maxRecDepth 20000 in
theorem j_Mod_tellDish_127 {l : Launch} {ld : Nat} {Q : Option Value → gM → gL → gR → Prop} (hld : isLa ld)   {q : gM × gL} {M : gM} {L : gL} (hQ : Q none q.1 q.2 (rf ld))  {v2 : Int32}  (h : J_Mod_tellDish_127 v2 M L = some q) : Wp l y_Mod_tellDish (0, 0, 447) 447 0 0 127 [(0, .ref 401), (2, .int v2)] [] M L (rf ld) Q := by
  unfold J_Mod_tellDish_127 at h
  refine g_aload_n (pc1 := 128) d_Mod_tellDish_127 rfl 0 rfl ?_
  refine g_iload_n (pc1 := 129) d_Mod_tellDish_128 rfl 1 rfl ?_
  refine g_iconst (pc1 := 130) (v := (-1)) d_Mod_tellDish_129 rfl (by decide) ?_
  refine g_callV0 (pc1 := 133) (As := [.int v2, .int (-1)]) (rest := []) d_Mod_tellDish_130 rfl mo_Mod_278 mi_Mod_ends mv_Mod_ends rfl sh_401 (by decide) (by decide) rfl rfl (Nat.le_of_ble_eq_true rfl) ?_
  obtain ⟨q17, hq18, h⟩ := bnd h
  refine f_Mod_ends hld  hq18 ?_
  dsimp only [psh]
  refine g_aload_n (pc1 := 134) d_Mod_tellDish_133 rfl 0 rfl ?_
  refine g_geti (pc1 := 137) d_Mod_tellDish_134 rfl ⟨_, fo_Mod_206⟩ sh_401 (by decide) ?_
  refine g_if_ne (pc1 := 140) (tgt := 153) d_Mod_tellDish_137 (by decide) rfl (fun c19 => ?_) (fun c19 => ?_)
  · replace h := itn h c19
    refine g_return rfl d_Mod_tellDish_153 rfl ?_
    cases h; exact hQ
  · replace h := itp h c19
    refine g_aload_n (pc1 := 141) d_Mod_tellDish_140 rfl 0 rfl ?_
    refine g_getr (pc1 := 144) d_Mod_tellDish_141 rfl ⟨_, fo_Mod_58⟩ sh_401 (by decide) (rf_401_27 ld) ?_
    refine g_aload_n (pc1 := 145) d_Mod_tellDish_144 rfl 0 rfl ?_
    refine g_geti (pc1 := 148) d_Mod_tellDish_145 rfl ⟨_, fo_Mod_239⟩ sh_401 (by decide) ?_
    refine g_dup2 (pc1 := 149) d_Mod_tellDish_148 rfl rfl rfl ?_
    obtain ⟨g20, h⟩ := gdn h
    refine g_iald (pc1 := 150) d_Mod_tellDish_149 rfl sh_415 (by decide) g20 ?_
    refine g_iconst (pc1 := 151) (v := 1) d_Mod_tellDish_150 rfl (by decide) ?_
    refine g_iadd (pc1 := 152) d_Mod_tellDish_151 rfl ?_
    obtain ⟨g21, h⟩ := gdn h
    refine g_iast (pc1 := 153) d_Mod_tellDish_152 rfl sh_415 (by decide) g21 ?_
    refine Wp.lM h (fun M22 h => ?_)
    refine g_return rfl d_Mod_tellDish_153 rfl ?_
    cases h; exact hQ
def J_Mod_tellDish_109 (K63 : Int32 → gM → Option (gM × gL)) (v1 : Int32) (v2 : Int32) (v3 : Int32) (M : gM) (L : gL) : Option (gM × gL) :=
  nmI (v3 + 1) (fun x15 => (if (M 401 13) = 0 then bI (F_Mod_is 1 M) (fun q23 => (if q23 = 0 then J_Mod_tellDish_127 v2 M L else K63 x15 M)) else J_Mod_tellDish_127 v2 M L))
set_option maxHeartbeats 4000000 in
set_option maxRecDepth 20000 in
theorem j_Mod_tellDish_109 {l : Launch} {ld : Nat} {Q : Option Value → gM → gL → gR → Prop} (hld : isLa ld)   {q : gM × gL} {M : gM} {L : gL} (hQ : Q none q.1 q.2 (rf ld)) {K63 : Int32 → gM → Option (gM × gL)} {v1 : Int32} {v2 : Int32} {v3 : Int32} (hK63 : ∀ (w3 : Int32) (M : gM), K63 w3 M = some q → Wp l y_Mod_tellDish (0, 0, 447) 447 0 0 63 [(0, .ref 401), (1, .int v1), (2, .int v2), (3, .int w3)] [] M L (rf ld) Q) (h : J_Mod_tellDish_109 K63 v1 v2 v3 M L = some q) : Wp l y_Mod_tellDish (0, 0, 447) 447 0 0 109 [(0, .ref 401), (1, .int v1), (2, .int v2), (3, .int v3)] [] M L (rf ld) Q := by
  unfold J_Mod_tellDish_109 at h
  obtain ⟨x15, ex15, h⟩ := ltI h
  refine g_iinc (pc1 := 112) (v := x15) (lv' := [(0, .ref 401), (1, .int v1), (2, .int v2), (3, .int x15)]) d_Mod_tellDish_109 rfl 3 rfl (by rw [ex15]; rfl) (by decide) [1, 2, 3, 0] rfl ?_
  refine g_aload_n (pc1 := 113) d_Mod_tellDish_112 rfl 0 rfl ?_
  refine g_geti (pc1 := 116) d_Mod_tellDish_113 rfl ⟨_, fo_Mod_206⟩ sh_401 (by decide) ?_
  refine g_if_ne (pc1 := 119) (tgt := 127) d_Mod_tellDish_116 (by decide) rfl (fun c16 => ?_) (fun c16 => ?_)
  · replace h := itn h c16
    refine Wp.loc (lv' := [(0, .ref 401), (2, .int v2)]) [0, 2] rfl ?_
    exact j_Mod_tellDish_127 hld  hQ  h
  · replace h := itp h c16
    refine g_aload_n (pc1 := 120) d_Mod_tellDish_119 rfl 0 rfl ?_
    refine g_iconst (pc1 := 121) (v := 1) d_Mod_tellDish_120 rfl (by decide) ?_
    refine g_callV0 (pc1 := 124) (As := [.int 1]) (rest := []) d_Mod_tellDish_121 rfl mo_Mod_224 mi_Mod_is mv_Mod_is rfl sh_401 (by decide) (by decide) rfl rfl (Nat.le_of_ble_eq_true rfl) ?_
    obtain ⟨q23, hq24, h⟩ := bnd h
    refine f_Mod_is hld  hq24 ?_
    dsimp only [psh]
    refine g_if_ne (pc1 := 127) (tgt := 63) d_Mod_tellDish_124 (by decide) rfl (fun c25 => ?_) (fun c25 => ?_)
    · replace h := itn h c25
      exact hK63 x15 M h
    · replace h := itp h c25
      refine Wp.loc (lv' := [(0, .ref 401), (2, .int v2)]) [0, 2] rfl ?_
      exact j_Mod_tellDish_127 hld  hQ  h
def J_Mod_tellDish_74 (K63 : Int32 → gM → Option (gM × gL)) (v1 : Int32) (v2 : Int32) (v3 : Int32) (M : gM) (L : gL) : Option (gM × gL) :=
  (if (M 401 13) ≤ 0 then bI (F_Mod_knownFood M L) (fun q12 => (if q12.1 < 0 then J_Mod_tellDish_109 K63 v1 v2 v3 q12.2 L else (if (((6 * v1) + q12.1) : Int32) < 0 ∨ 60 ≤ (((6 * v1) + q12.1) : Int32).toNatClampNeg then none else (if (((6 * v1) + q12.1) : Int32) < 0 ∨ 60 ≤ (((6 * v1) + q12.1) : Int32).toNatClampNeg then none else nmM (uM q12.2 417 (((6 * v1) + q12.1) : Int32).toNatClampNeg ((q12.2 417 (((6 * v1) + q12.1) : Int32).toNatClampNeg) + 1)) (fun M28 => J_Mod_tellDish_109 K63 v1 v2 v3 M28 L))))) else some (M, L))
set_option maxHeartbeats 4000000 in
set_option maxRecDepth 20000 in
theorem j_Mod_tellDish_74 {l : Launch} {ld : Nat} {Q : Option Value → gM → gL → gR → Prop} (hld : isLa ld)   {q : gM × gL} {M : gM} {L : gL} (hQ : Q none q.1 q.2 (rf ld)) {K63 : Int32 → gM → Option (gM × gL)} {v1 : Int32} {v2 : Int32} {v3 : Int32} (hK63 : ∀ (w3 : Int32) (M : gM), K63 w3 M = some q → Wp l y_Mod_tellDish (0, 0, 447) 447 0 0 63 [(0, .ref 401), (1, .int v1), (2, .int v2), (3, .int w3)] [] M L (rf ld) Q) (h : J_Mod_tellDish_74 K63 v1 v2 v3 M L = some q) : Wp l y_Mod_tellDish (0, 0, 447) 447 0 0 74 [(0, .ref 401), (1, .int v1), (2, .int v2), (3, .int v3)] [] M L (rf ld) Q := by
  unfold J_Mod_tellDish_74 at h
  refine g_aload_n (pc1 := 75) d_Mod_tellDish_74 rfl 0 rfl ?_
  refine g_geti (pc1 := 78) d_Mod_tellDish_75 rfl ⟨_, fo_Mod_206⟩ sh_401 (by decide) ?_
  refine g_if_le (pc1 := 81) (tgt := 82) d_Mod_tellDish_78 (by decide) rfl (fun c11 => ?_) (fun c11 => ?_)
  · replace h := itp h c11
    refine g_aload_n (pc1 := 83) d_Mod_tellDish_82 rfl 0 rfl ?_
    refine g_callV0 (pc1 := 86) (As := []) (rest := []) d_Mod_tellDish_83 rfl mo_Mod_290 mi_Mod_knownFood mv_Mod_knownFood rfl sh_401 (by decide) (by decide) rfl rfl (Nat.le_of_ble_eq_true rfl) ?_
    obtain ⟨q12, hq13, h⟩ := bnd h
    refine f_Mod_knownFood hld  hq13 ?_
    dsimp only [psh]
    refine g_istore (pc1 := 88) (lv' := [(0, .ref 401), (1, .int v1), (2, .int v2), (3, .int v3), (4, .int q12.1)]) d_Mod_tellDish_86 rfl (by decide) [1, 2, 3, 4, 0] rfl ?_
    refine g_iload (pc1 := 90) d_Mod_tellDish_88 rfl 4 rfl ?_
    refine g_if_lt (pc1 := 93) (tgt := 109) d_Mod_tellDish_90 (by decide) rfl (fun c14 => ?_) (fun c14 => ?_)
    · replace h := itp h c14
      refine Wp.loc (lv' := [(0, .ref 401), (1, .int v1), (2, .int v2), (3, .int v3)]) [0, 1, 2, 3] rfl ?_
      exact j_Mod_tellDish_109 hld  hQ hK63 h
    · replace h := itn h c14
      refine g_aload_n (pc1 := 94) d_Mod_tellDish_93 rfl 0 rfl ?_
      refine g_getr (pc1 := 97) d_Mod_tellDish_94 rfl ⟨_, fo_Mod_64⟩ sh_401 (by decide) (rf_401_29 ld) ?_
      refine g_bipush (pc1 := 99) (v := 6) d_Mod_tellDish_97 rfl (by decide) ?_
      refine g_iload_n (pc1 := 100) d_Mod_tellDish_99 rfl 1 rfl ?_
      refine g_imul (pc1 := 101) d_Mod_tellDish_100 rfl ?_
      refine g_iload (pc1 := 103) d_Mod_tellDish_101 rfl 4 rfl ?_
      refine g_iadd (pc1 := 104) d_Mod_tellDish_103 rfl ?_
      refine g_dup2 (pc1 := 105) d_Mod_tellDish_104 rfl rfl rfl ?_
      obtain ⟨g26, h⟩ := gdn h
      refine g_iald (pc1 := 106) d_Mod_tellDish_105 rfl sh_417 (by decide) g26 ?_
      refine g_iconst (pc1 := 107) (v := 1) d_Mod_tellDish_106 rfl (by decide) ?_
      refine g_iadd (pc1 := 108) d_Mod_tellDish_107 rfl ?_
      obtain ⟨g27, h⟩ := gdn h
      refine g_iast (pc1 := 109) d_Mod_tellDish_108 rfl sh_417 (by decide) g27 ?_
      refine Wp.lM h (fun M28 h => ?_)
      refine Wp.loc (lv' := [(0, .ref 401), (1, .int v1), (2, .int v2), (3, .int v3)]) [0, 1, 2, 3] rfl ?_
      exact j_Mod_tellDish_109 hld  hQ hK63 h
  · replace h := itn h c11
    refine g_return rfl d_Mod_tellDish_81 rfl ?_
    cases h; exact hQ
def B_Mod_tellDish_63 (v1 : Int32) (v2 : Int32) (L : gL) (K63 : Int32 → gM → Option (gM × gL)) : Int32 → gM → Option (gM × gL) := fun v3 M =>
  (if v3 = 6 then bI (F_Mod_fail 2 M) (fun q29 => J_Mod_tellDish_74 K63 v1 v2 v3 q29 L) else J_Mod_tellDish_74 K63 v1 v2 v3 M L)
def H_Mod_tellDish_63 (v1 : Int32) (v2 : Int32) (L : gL) : Nat → Int32 → gM → Option (gM × gL) := lpK (B_Mod_tellDish_63 v1 v2 L) (fun _ _ => none)
set_option maxHeartbeats 4000000 in
set_option maxRecDepth 20000 in
theorem h_Mod_tellDish_63 {l : Launch} {ld : Nat} {Q : Option Value → gM → gL → gR → Prop} (hld : isLa ld)   {q : gM × gL} {L : gL} (hQ : Q none q.1 q.2 (rf ld))  {v1 : Int32} {v2 : Int32}  : ∀ (f : Nat) (v3 : Int32) (M : gM), H_Mod_tellDish_63 v1 v2 L f v3 M = some q → Wp l y_Mod_tellDish (0, 0, 447) 447 0 0 63 [(0, .ref 401), (1, .int v1), (2, .int v2), (3, .int v3)] [] M L (rf ld) Q := by
  intro f
  induction f with
  | zero => intro v3 M h; cases h
  | succ f hK63 =>
    intro v3 M h
    replace h : B_Mod_tellDish_63 v1 v2 L (H_Mod_tellDish_63 v1 v2 L f) v3 M = some q := h
    unfold B_Mod_tellDish_63 at h
    refine g_iload_n (pc1 := 64) d_Mod_tellDish_63 rfl 3 rfl ?_
    refine g_bipush (pc1 := 66) (v := 6) d_Mod_tellDish_64 rfl (by decide) ?_
    refine g_icmp_ne (pc1 := 69) (tgt := 74) d_Mod_tellDish_66 (by decide) rfl (fun c10 => ?_) (fun c10 => ?_)
    · replace h := itn h c10
      exact j_Mod_tellDish_74 hld  hQ hK63 h
    · replace h := itp h c10
      refine g_aload_n (pc1 := 70) d_Mod_tellDish_69 rfl 0 rfl ?_
      refine g_iconst (pc1 := 71) (v := 2) d_Mod_tellDish_70 rfl (by decide) ?_
      refine g_callV0 (pc1 := 74) (As := [.int 2]) (rest := []) d_Mod_tellDish_71 rfl mo_Mod_221 mi_Mod_fail mv_Mod_fail rfl sh_401 (by decide) (by decide) rfl rfl (Nat.le_of_ble_eq_true rfl) ?_
      obtain ⟨q29, hq30, h⟩ := bnd h
      refine f_Mod_fail hld  hq30 ?_
      dsimp only [psh]
      exact j_Mod_tellDish_74 hld  hQ hK63 h
def J_Mod_tellDish_61 (v1 : Int32) (v2 : Int32) (M : gM) (L : gL) : Option (gM × gL) :=
  H_Mod_tellDish_63 v1 v2 L FU 0 M
set_option maxHeartbeats 4000000 in
set_option maxRecDepth 20000 in
theorem j_Mod_tellDish_61 {l : Launch} {ld : Nat} {Q : Option Value → gM → gL → gR → Prop} (hld : isLa ld)   {q : gM × gL} {M : gM} {L : gL} (hQ : Q none q.1 q.2 (rf ld))  {v1 : Int32} {v2 : Int32}  (h : J_Mod_tellDish_61 v1 v2 M L = some q) : Wp l y_Mod_tellDish (0, 0, 447) 447 0 0 61 [(0, .ref 401), (1, .int v1), (2, .int v2)] [] M L (rf ld) Q := by
  unfold J_Mod_tellDish_61 at h
  refine g_iconst (pc1 := 62) (v := 0) d_Mod_tellDish_61 rfl (by decide) ?_
  refine g_istore_n (pc1 := 63) (lv' := [(0, .ref 401), (1, .int v1), (2, .int v2), (3, .int 0)]) d_Mod_tellDish_62 rfl rfl (by decide) [1, 2, 3, 0] rfl ?_
  exact h_Mod_tellDish_63 hld  hQ  _ 0 M h
def B_Mod_tellDish_37 (v1 : Int32) (v2 : Int32) (L : gL) (K37 : Int32 → gM → Option (gM × gL)) : Int32 → gM → Option (gM × gL) := fun v3 M =>
  (if 6 ≤ v3 then J_Mod_tellDish_61 v1 v2 M L else (if (((6 * v1) + v3) : Int32) < 0 ∨ 60 ≤ (((6 * v1) + v3) : Int32).toNatClampNeg then none else nmM (uM M 417 (((6 * v1) + v3) : Int32).toNatClampNeg 0) (fun M32 => nmI (v3 + 1) (fun x33 => K37 x33 M32))))
def H_Mod_tellDish_37 (v1 : Int32) (v2 : Int32) (L : gL) : Nat → Int32 → gM → Option (gM × gL) := lpK (B_Mod_tellDish_37 v1 v2 L) (fun _ _ => none)
set_option maxHeartbeats 4000000 in
set_option maxRecDepth 20000 in
theorem h_Mod_tellDish_37 {l : Launch} {ld : Nat} {Q : Option Value → gM → gL → gR → Prop} (hld : isLa ld)   {q : gM × gL} {L : gL} (hQ : Q none q.1 q.2 (rf ld))  {v1 : Int32} {v2 : Int32}  : ∀ (f : Nat) (v3 : Int32) (M : gM), H_Mod_tellDish_37 v1 v2 L f v3 M = some q → Wp l y_Mod_tellDish (0, 0, 447) 447 0 0 37 [(0, .ref 401), (1, .int v1), (2, .int v2), (3, .int v3)] [] M L (rf ld) Q := by
  intro f
  induction f with
  | zero => intro v3 M h; cases h
  | succ f hK37 =>
    intro v3 M h
    replace h : B_Mod_tellDish_37 v1 v2 L (H_Mod_tellDish_37 v1 v2 L f) v3 M = some q := h
    unfold B_Mod_tellDish_37 at h
    refine g_iload_n (pc1 := 38) d_Mod_tellDish_37 rfl 3 rfl ?_
    refine g_bipush (pc1 := 40) (v := 6) d_Mod_tellDish_38 rfl (by decide) ?_
    refine g_icmp_ge (pc1 := 43) (tgt := 61) d_Mod_tellDish_40 (by decide) rfl (fun c9 => ?_) (fun c9 => ?_)
    · replace h := itp h c9
      refine Wp.loc (lv' := [(0, .ref 401), (1, .int v1), (2, .int v2)]) [0, 1, 2] rfl ?_
      exact j_Mod_tellDish_61 hld  hQ  h
    · replace h := itn h c9
      refine g_aload_n (pc1 := 44) d_Mod_tellDish_43 rfl 0 rfl ?_
      refine g_getr (pc1 := 47) d_Mod_tellDish_44 rfl ⟨_, fo_Mod_64⟩ sh_401 (by decide) (rf_401_29 ld) ?_
      refine g_bipush (pc1 := 49) (v := 6) d_Mod_tellDish_47 rfl (by decide) ?_
      refine g_iload_n (pc1 := 50) d_Mod_tellDish_49 rfl 1 rfl ?_
      refine g_imul (pc1 := 51) d_Mod_tellDish_50 rfl ?_
      refine g_iload_n (pc1 := 52) d_Mod_tellDish_51 rfl 3 rfl ?_
      refine g_iadd (pc1 := 53) d_Mod_tellDish_52 rfl ?_
      refine g_iconst (pc1 := 54) (v := 0) d_Mod_tellDish_53 rfl (by decide) ?_
      obtain ⟨g31, h⟩ := gdn h
      refine g_iast (pc1 := 55) d_Mod_tellDish_54 rfl sh_417 (by decide) g31 ?_
      refine Wp.lM h (fun M32 h => ?_)
      obtain ⟨x33, ex33, h⟩ := ltI h
      refine g_iinc (pc1 := 58) (v := x33) (lv' := [(0, .ref 401), (1, .int v1), (2, .int v2), (3, .int x33)]) d_Mod_tellDish_55 rfl 3 rfl (by rw [ex33]; rfl) (by decide) [1, 2, 3, 0] rfl ?_
      refine g_goto (tgt := 37) d_Mod_tellDish_58 (by decide) ?_
      exact hK37 x33 M32 h
def F_Mod_tellDish (M : gM) (L : gL) : Option (gM × gL) :=
  (if ((M 401 19) : Int32) < 0 ∨ 2 ≤ ((M 401 19) : Int32).toNatClampNeg then none else nmI ((5 * (M 401 19)) + (M 415 ((M 401 19) : Int32).toNatClampNeg)) (fun x2 => bI (F_Mod_named M L) (fun q3 => bI (F_Mod_bounded 0 9 q3.2) (fun q5 => (if (x2 : Int32) < 0 ∨ 10 ≤ (x2 : Int32).toNatClampNeg then none else nmM (uM q5.2 416 (x2 : Int32).toNatClampNeg q5.1) (fun M8 => H_Mod_tellDish_37 x2 q3.1 L FU 0 M8))))))
set_option maxHeartbeats 4000000 in
set_option maxRecDepth 20000 in
theorem f_Mod_tellDish {l : Launch} {ld : Nat} {M : gM} {L : gL} {Q : Option Value → gM → gL → gR → Prop} (hld : isLa ld)   {q : gM × gL} (h : F_Mod_tellDish M L = some q) (hQ : Q none q.1 q.2 (rf ld)) : Tm l y_Mod_tellDish (0, 0, 447) 447 [.ref 401] M L (rf ld) Q := by
  refine Tm.of (by decide) (Nat.le_of_ble_eq_true rfl) ?_
  show Wp l y_Mod_tellDish (0, 0, 447) 447 0 0 0 [(0, .ref 401)] [] M L (rf ld) Q
  unfold F_Mod_tellDish at h
  refine g_iconst (pc1 := 1) (v := 5) d_Mod_tellDish_0 rfl (by decide) ?_
  refine g_aload_n (pc1 := 2) d_Mod_tellDish_1 rfl 0 rfl ?_
  refine g_geti (pc1 := 5) d_Mod_tellDish_2 rfl ⟨_, fo_Mod_239⟩ sh_401 (by decide) ?_
  refine g_imul (pc1 := 6) d_Mod_tellDish_5 rfl ?_
  refine g_aload_n (pc1 := 7) d_Mod_tellDish_6 rfl 0 rfl ?_
  refine g_getr (pc1 := 10) d_Mod_tellDish_7 rfl ⟨_, fo_Mod_58⟩ sh_401 (by decide) (rf_401_27 ld) ?_
  refine g_aload_n (pc1 := 11) d_Mod_tellDish_10 rfl 0 rfl ?_
  refine g_geti (pc1 := 14) d_Mod_tellDish_11 rfl ⟨_, fo_Mod_239⟩ sh_401 (by decide) ?_
  obtain ⟨g1, h⟩ := gdn h
  refine g_iald (pc1 := 15) d_Mod_tellDish_14 rfl sh_415 (by decide) g1 ?_
  refine g_iadd (pc1 := 16) d_Mod_tellDish_15 rfl ?_
  refine Wp.lI h (fun x2 h => ?_)
  refine g_istore_n (pc1 := 17) (lv' := [(0, .ref 401), (1, .int x2)]) d_Mod_tellDish_16 rfl rfl (by decide) [1, 0] rfl ?_
  refine g_aload_n (pc1 := 18) d_Mod_tellDish_17 rfl 0 rfl ?_
  refine g_callV0 (pc1 := 21) (As := []) (rest := []) d_Mod_tellDish_18 rfl mo_Mod_270 mi_Mod_named mv_Mod_named rfl sh_401 (by decide) (by decide) rfl rfl (Nat.le_of_ble_eq_true rfl) ?_
  obtain ⟨q3, hq4, h⟩ := bnd h
  refine f_Mod_named hld  hq4 ?_
  dsimp only [psh]
  refine g_istore_n (pc1 := 22) (lv' := [(0, .ref 401), (1, .int x2), (2, .int q3.1)]) d_Mod_tellDish_21 rfl rfl (by decide) [1, 2, 0] rfl ?_
  refine g_aload_n (pc1 := 23) d_Mod_tellDish_22 rfl 0 rfl ?_
  refine g_getr (pc1 := 26) d_Mod_tellDish_23 rfl ⟨_, fo_Mod_61⟩ sh_401 (by decide) (rf_401_28 ld) ?_
  refine g_iload_n (pc1 := 27) d_Mod_tellDish_26 rfl 1 rfl ?_
  refine g_aload_n (pc1 := 28) d_Mod_tellDish_27 rfl 0 rfl ?_
  refine g_iconst (pc1 := 29) (v := 0) d_Mod_tellDish_28 rfl (by decide) ?_
  refine g_bipush (pc1 := 31) (v := 9) d_Mod_tellDish_29 rfl (by decide) ?_
  refine g_callV0 (pc1 := 34) (As := [.int 0, .int 9]) (rest := [.int x2, .ref 416]) d_Mod_tellDish_31 rfl mo_Mod_274 mi_Mod_bounded mv_Mod_bounded rfl sh_401 (by decide) (by decide) rfl rfl (Nat.le_of_ble_eq_true rfl) ?_
  obtain ⟨q5, hq6, h⟩ := bnd h
  refine f_Mod_bounded hld  hq6 ?_
  dsimp only [psh]
  obtain ⟨g7, h⟩ := gdn h
  refine g_iast (pc1 := 35) d_Mod_tellDish_34 rfl sh_416 (by decide) g7 ?_
  refine Wp.lM h (fun M8 h => ?_)
  refine g_iconst (pc1 := 36) (v := 0) d_Mod_tellDish_35 rfl (by decide) ?_
  refine g_istore_n (pc1 := 37) (lv' := [(0, .ref 401), (1, .int x2), (2, .int q3.1), (3, .int 0)]) d_Mod_tellDish_36 rfl rfl (by decide) [1, 2, 3, 0] rfl ?_
  exact h_Mod_tellDish_37 hld  hQ  _ 0 M8 h

def J_Mod_tellFood_79 (v2 : Int32) (M : gM) (L : gL) : Option (gM × gL) :=
  (if ((M 401 19) : Int32) < 0 ∨ 2 ≤ ((M 401 19) : Int32).toNatClampNeg then none else bI (F_Mod_ends v2 (M 411 ((M 401 19) : Int32).toNatClampNeg) M L) (fun q15 => (if (q15.1 401 13) = 0 then (if ((q15.1 401 19) : Int32) < 0 ∨ 2 ≤ ((q15.1 401 19) : Int32).toNatClampNeg then none else (if ((q15.1 401 19) : Int32) < 0 ∨ 2 ≤ ((q15.1 401 19) : Int32).toNatClampNeg then none else nmM (uM q15.1 411 ((q15.1 401 19) : Int32).toNatClampNeg ((q15.1 411 ((q15.1 401 19) : Int32).toNatClampNeg) + 1)) (fun M20 => some (M20, q15.2)))) else some (q15.1, q15.2))))
set_option maxHeartbeats 4000000 in
set_option maxRecDepth 20000 in
theorem j_Mod_tellFood_79 {l : Launch} {ld : Nat} {Q : Option Value → gM → gL → gR → Prop} (hld : isLa ld)   {q : gM × gL} {M : gM} {L : gL} (hQ : Q none q.1 q.2 (rf ld))  {v2 : Int32}  (h : J_Mod_tellFood_79 v2 M L = some q) : Wp l y_Mod_tellFood (0, 0, 447) 447 0 0 79 [(0, .ref 401), (2, .int v2)] [] M L (rf ld) Q := by
  unfold J_Mod_tellFood_79 at h
  refine g_aload_n (pc1 := 80) d_Mod_tellFood_79 rfl 0 rfl ?_
  refine g_iload_n (pc1 := 81) d_Mod_tellFood_80 rfl 1 rfl ?_
  refine g_aload_n (pc1 := 82) d_Mod_tellFood_81 rfl 0 rfl ?_
  refine g_getr (pc1 := 85) d_Mod_tellFood_82 rfl ⟨_, fo_Mod_46⟩ sh_401 (by decide) (rf_401_23 ld) ?_
  refine g_aload_n (pc1 := 86) d_Mod_tellFood_85 rfl 0 rfl ?_
  refine g_geti (pc1 := 89) d_Mod_tellFood_86 rfl ⟨_, fo_Mod_239⟩ sh_401 (by decide) ?_
  obtain ⟨g14, h⟩ := gdn h
  refine g_iald (pc1 := 90) d_Mod_tellFood_89 rfl sh_411 (by decide) g14 ?_
  refine g_callV0 (pc1 := 93) (As := [.int v2, .int (M 411 ((M 401 19) : Int32).toNatClampNeg)]) (rest := []) d_Mod_tellFood_90 rfl mo_Mod_278 mi_Mod_ends mv_Mod_ends rfl sh_401 (by decide) (by decide) rfl rfl (Nat.le_of_ble_eq_true rfl) ?_
  obtain ⟨q15, hq16, h⟩ := bnd h
  refine f_Mod_ends hld  hq16 ?_
  dsimp only [psh]
  refine g_aload_n (pc1 := 94) d_Mod_tellFood_93 rfl 0 rfl ?_
  refine g_geti (pc1 := 97) d_Mod_tellFood_94 rfl ⟨_, fo_Mod_206⟩ sh_401 (by decide) ?_
  refine g_if_ne (pc1 := 100) (tgt := 113) d_Mod_tellFood_97 (by decide) rfl (fun c17 => ?_) (fun c17 => ?_)
  · replace h := itn h c17
    refine g_return rfl d_Mod_tellFood_113 rfl ?_
    cases h; exact hQ
  · replace h := itp h c17
    refine g_aload_n (pc1 := 101) d_Mod_tellFood_100 rfl 0 rfl ?_
    refine g_getr (pc1 := 104) d_Mod_tellFood_101 rfl ⟨_, fo_Mod_46⟩ sh_401 (by decide) (rf_401_23 ld) ?_
    refine g_aload_n (pc1 := 105) d_Mod_tellFood_104 rfl 0 rfl ?_
    refine g_geti (pc1 := 108) d_Mod_tellFood_105 rfl ⟨_, fo_Mod_239⟩ sh_401 (by decide) ?_
    refine g_dup2 (pc1 := 109) d_Mod_tellFood_108 rfl rfl rfl ?_
    obtain ⟨g18, h⟩ := gdn h
    refine g_iald (pc1 := 110) d_Mod_tellFood_109 rfl sh_411 (by decide) g18 ?_
    refine g_iconst (pc1 := 111) (v := 1) d_Mod_tellFood_110 rfl (by decide) ?_
    refine g_iadd (pc1 := 112) d_Mod_tellFood_111 rfl ?_
    obtain ⟨g19, h⟩ := gdn h
    refine g_iast (pc1 := 113) d_Mod_tellFood_112 rfl sh_411 (by decide) g19 ?_
    refine Wp.lM h (fun M20 h => ?_)
    refine g_return rfl d_Mod_tellFood_113 rfl ?_
    cases h; exact hQ
def B_Mod_tellFood_51 (v1 : Int32) (v2 : Int32) (L : gL) (K51 : Int32 → gM → Option (gM × gL)) : Int32 → gM → Option (gM × gL) := fun v3 M =>
  (if 3 ≤ v3 then J_Mod_tellFood_79 v2 M L else bI (F_Mod_bounded 0 9 M) (fun q21 => (if (((3 * v1) + v3) : Int32) < 0 ∨ 36 ≤ (((3 * v1) + v3) : Int32).toNatClampNeg then none else nmM (uM q21.2 414 (((3 * v1) + v3) : Int32).toNatClampNeg q21.1) (fun M24 => nmI (v3 + 1) (fun x25 => K51 x25 M24)))))
def H_Mod_tellFood_51 (v1 : Int32) (v2 : Int32) (L : gL) : Nat → Int32 → gM → Option (gM × gL) := lpK (B_Mod_tellFood_51 v1 v2 L) (fun _ _ => none)
set_option maxHeartbeats 4000000 in
set_option maxRecDepth 20000 in
theorem h_Mod_tellFood_51 {l : Launch} {ld : Nat} {Q : Option Value → gM → gL → gR → Prop} (hld : isLa ld)   {q : gM × gL} {L : gL} (hQ : Q none q.1 q.2 (rf ld))  {v1 : Int32} {v2 : Int32}  : ∀ (f : Nat) (v3 : Int32) (M : gM), H_Mod_tellFood_51 v1 v2 L f v3 M = some q → Wp l y_Mod_tellFood (0, 0, 447) 447 0 0 51 [(0, .ref 401), (1, .int v1), (2, .int v2), (3, .int v3)] [] M L (rf ld) Q := by
  intro f
  induction f with
  | zero => intro v3 M h; cases h
  | succ f hK51 =>
    intro v3 M h
    replace h : B_Mod_tellFood_51 v1 v2 L (H_Mod_tellFood_51 v1 v2 L f) v3 M = some q := h
    unfold B_Mod_tellFood_51 at h
    refine g_iload_n (pc1 := 52) d_Mod_tellFood_51 rfl 3 rfl ?_
    refine g_iconst (pc1 := 53) (v := 3) d_Mod_tellFood_52 rfl (by decide) ?_
    refine g_icmp_ge (pc1 := 56) (tgt := 79) d_Mod_tellFood_53 (by decide) rfl (fun c13 => ?_) (fun c13 => ?_)
    · replace h := itp h c13
      refine Wp.loc (lv' := [(0, .ref 401), (2, .int v2)]) [0, 2] rfl ?_
      exact j_Mod_tellFood_79 hld  hQ  h
    · replace h := itn h c13
      refine g_aload_n (pc1 := 57) d_Mod_tellFood_56 rfl 0 rfl ?_
      refine g_getr (pc1 := 60) d_Mod_tellFood_57 rfl ⟨_, fo_Mod_55⟩ sh_401 (by decide) (rf_401_26 ld) ?_
      refine g_iconst (pc1 := 61) (v := 3) d_Mod_tellFood_60 rfl (by decide) ?_
      refine g_iload_n (pc1 := 62) d_Mod_tellFood_61 rfl 1 rfl ?_
      refine g_imul (pc1 := 63) d_Mod_tellFood_62 rfl ?_
      refine g_iload_n (pc1 := 64) d_Mod_tellFood_63 rfl 3 rfl ?_
      refine g_iadd (pc1 := 65) d_Mod_tellFood_64 rfl ?_
      refine g_aload_n (pc1 := 66) d_Mod_tellFood_65 rfl 0 rfl ?_
      refine g_iconst (pc1 := 67) (v := 0) d_Mod_tellFood_66 rfl (by decide) ?_
      refine g_bipush (pc1 := 69) (v := 9) d_Mod_tellFood_67 rfl (by decide) ?_
      refine g_callV0 (pc1 := 72) (As := [.int 0, .int 9]) (rest := [.int ((3 * v1) + v3), .ref 414]) d_Mod_tellFood_69 rfl mo_Mod_274 mi_Mod_bounded mv_Mod_bounded rfl sh_401 (by decide) (by decide) rfl rfl (Nat.le_of_ble_eq_true rfl) ?_
      obtain ⟨q21, hq22, h⟩ := bnd h
      refine f_Mod_bounded hld  hq22 ?_
      dsimp only [psh]
      obtain ⟨g23, h⟩ := gdn h
      refine g_iast (pc1 := 73) d_Mod_tellFood_72 rfl sh_414 (by decide) g23 ?_
      refine Wp.lM h (fun M24 h => ?_)
      obtain ⟨x25, ex25, h⟩ := ltI h
      refine g_iinc (pc1 := 76) (v := x25) (lv' := [(0, .ref 401), (1, .int v1), (2, .int v2), (3, .int x25)]) d_Mod_tellFood_73 rfl 3 rfl (by rw [ex25]; rfl) (by decide) [1, 2, 3, 0] rfl ?_
      refine g_goto (tgt := 51) d_Mod_tellFood_76 (by decide) ?_
      exact hK51 x25 M24 h
def F_Mod_tellFood (M : gM) (L : gL) : Option (gM × gL) :=
  (if ((M 401 19) : Int32) < 0 ∨ 2 ≤ ((M 401 19) : Int32).toNatClampNeg then none else nmI ((6 * (M 401 19)) + (M 411 ((M 401 19) : Int32).toNatClampNeg)) (fun x2 => bI (F_Mod_named M L) (fun q3 => bI (F_Mod_bounded 0 99 q3.2) (fun q5 => (if (x2 : Int32) < 0 ∨ 12 ≤ (x2 : Int32).toNatClampNeg then none else nmM (uM q5.2 412 (x2 : Int32).toNatClampNeg q5.1) (fun M8 => bI (F_Mod_bounded 0 9 M8) (fun q9 => (if (x2 : Int32) < 0 ∨ 12 ≤ (x2 : Int32).toNatClampNeg then none else nmM (uM q9.2 413 (x2 : Int32).toNatClampNeg q9.1) (fun M12 => H_Mod_tellFood_51 x2 q3.1 L FU 0 M12)))))))))
set_option maxHeartbeats 4000000 in
set_option maxRecDepth 20000 in
theorem f_Mod_tellFood {l : Launch} {ld : Nat} {M : gM} {L : gL} {Q : Option Value → gM → gL → gR → Prop} (hld : isLa ld)   {q : gM × gL} (h : F_Mod_tellFood M L = some q) (hQ : Q none q.1 q.2 (rf ld)) : Tm l y_Mod_tellFood (0, 0, 447) 447 [.ref 401] M L (rf ld) Q := by
  refine Tm.of (by decide) (Nat.le_of_ble_eq_true rfl) ?_
  show Wp l y_Mod_tellFood (0, 0, 447) 447 0 0 0 [(0, .ref 401)] [] M L (rf ld) Q
  unfold F_Mod_tellFood at h
  refine g_bipush (pc1 := 2) (v := 6) d_Mod_tellFood_0 rfl (by decide) ?_
  refine g_aload_n (pc1 := 3) d_Mod_tellFood_2 rfl 0 rfl ?_
  refine g_geti (pc1 := 6) d_Mod_tellFood_3 rfl ⟨_, fo_Mod_239⟩ sh_401 (by decide) ?_
  refine g_imul (pc1 := 7) d_Mod_tellFood_6 rfl ?_
  refine g_aload_n (pc1 := 8) d_Mod_tellFood_7 rfl 0 rfl ?_
  refine g_getr (pc1 := 11) d_Mod_tellFood_8 rfl ⟨_, fo_Mod_46⟩ sh_401 (by decide) (rf_401_23 ld) ?_
  refine g_aload_n (pc1 := 12) d_Mod_tellFood_11 rfl 0 rfl ?_
  refine g_geti (pc1 := 15) d_Mod_tellFood_12 rfl ⟨_, fo_Mod_239⟩ sh_401 (by decide) ?_
  obtain ⟨g1, h⟩ := gdn h
  refine g_iald (pc1 := 16) d_Mod_tellFood_15 rfl sh_411 (by decide) g1 ?_
  refine g_iadd (pc1 := 17) d_Mod_tellFood_16 rfl ?_
  refine Wp.lI h (fun x2 h => ?_)
  refine g_istore_n (pc1 := 18) (lv' := [(0, .ref 401), (1, .int x2)]) d_Mod_tellFood_17 rfl rfl (by decide) [1, 0] rfl ?_
  refine g_aload_n (pc1 := 19) d_Mod_tellFood_18 rfl 0 rfl ?_
  refine g_callV0 (pc1 := 22) (As := []) (rest := []) d_Mod_tellFood_19 rfl mo_Mod_270 mi_Mod_named mv_Mod_named rfl sh_401 (by decide) (by decide) rfl rfl (Nat.le_of_ble_eq_true rfl) ?_
  obtain ⟨q3, hq4, h⟩ := bnd h
  refine f_Mod_named hld  hq4 ?_
  dsimp only [psh]
  refine g_istore_n (pc1 := 23) (lv' := [(0, .ref 401), (1, .int x2), (2, .int q3.1)]) d_Mod_tellFood_22 rfl rfl (by decide) [1, 2, 0] rfl ?_
  refine g_aload_n (pc1 := 24) d_Mod_tellFood_23 rfl 0 rfl ?_
  refine g_getr (pc1 := 27) d_Mod_tellFood_24 rfl ⟨_, fo_Mod_49⟩ sh_401 (by decide) (rf_401_24 ld) ?_
  refine g_iload_n (pc1 := 28) d_Mod_tellFood_27 rfl 1 rfl ?_
  refine g_aload_n (pc1 := 29) d_Mod_tellFood_28 rfl 0 rfl ?_
  refine g_iconst (pc1 := 30) (v := 0) d_Mod_tellFood_29 rfl (by decide) ?_
  refine g_bipush (pc1 := 32) (v := 99) d_Mod_tellFood_30 rfl (by decide) ?_
  refine g_callV0 (pc1 := 35) (As := [.int 0, .int 99]) (rest := [.int x2, .ref 412]) d_Mod_tellFood_32 rfl mo_Mod_274 mi_Mod_bounded mv_Mod_bounded rfl sh_401 (by decide) (by decide) rfl rfl (Nat.le_of_ble_eq_true rfl) ?_
  obtain ⟨q5, hq6, h⟩ := bnd h
  refine f_Mod_bounded hld  hq6 ?_
  dsimp only [psh]
  obtain ⟨g7, h⟩ := gdn h
  refine g_iast (pc1 := 36) d_Mod_tellFood_35 rfl sh_412 (by decide) g7 ?_
  refine Wp.lM h (fun M8 h => ?_)
  refine g_aload_n (pc1 := 37) d_Mod_tellFood_36 rfl 0 rfl ?_
  refine g_getr (pc1 := 40) d_Mod_tellFood_37 rfl ⟨_, fo_Mod_52⟩ sh_401 (by decide) (rf_401_25 ld) ?_
  refine g_iload_n (pc1 := 41) d_Mod_tellFood_40 rfl 1 rfl ?_
  refine g_aload_n (pc1 := 42) d_Mod_tellFood_41 rfl 0 rfl ?_
  refine g_iconst (pc1 := 43) (v := 0) d_Mod_tellFood_42 rfl (by decide) ?_
  refine g_bipush (pc1 := 45) (v := 9) d_Mod_tellFood_43 rfl (by decide) ?_
  refine g_callV0 (pc1 := 48) (As := [.int 0, .int 9]) (rest := [.int x2, .ref 413]) d_Mod_tellFood_45 rfl mo_Mod_274 mi_Mod_bounded mv_Mod_bounded rfl sh_401 (by decide) (by decide) rfl rfl (Nat.le_of_ble_eq_true rfl) ?_
  obtain ⟨q9, hq10, h⟩ := bnd h
  refine f_Mod_bounded hld  hq10 ?_
  dsimp only [psh]
  obtain ⟨g11, h⟩ := gdn h
  refine g_iast (pc1 := 49) d_Mod_tellFood_48 rfl sh_413 (by decide) g11 ?_
  refine Wp.lM h (fun M12 h => ?_)
  refine g_iconst (pc1 := 50) (v := 0) d_Mod_tellFood_49 rfl (by decide) ?_
  refine g_istore_n (pc1 := 51) (lv' := [(0, .ref 401), (1, .int x2), (2, .int q3.1), (3, .int 0)]) d_Mod_tellFood_50 rfl rfl (by decide) [1, 2, 3, 0] rfl ?_
  exact h_Mod_tellFood_51 hld  hQ  _ 0 M12 h

def J_Mod_term_24 (M : gM) : Option (gM) :=
  (if ((M 401 38) : Int32) < 0 ∨ 260 ≤ ((M 401 38) : Int32).toNatClampNeg then none else nmM (uM M 430 ((M 401 38) : Int32).toNatClampNeg (M 401 44)) (fun M5 => nmM (uM M5 401 38 ((M5 401 38) + 1)) (fun M6 => some M6)))
set_option maxHeartbeats 4000000 in
set_option maxRecDepth 20000 in
theorem j_Mod_term_24 {l : Launch} {ld : Nat} {Q : Option Value → gM → gL → gR → Prop} (hld : isLa ld)   {q : gM} {M : gM} {L : gL} (hQ : Q none q L (rf ld))    (h : J_Mod_term_24 M = some q) : Wp l y_Mod_term (0, 0, 447) 447 0 0 24 [(0, .ref 401)] [] M L (rf ld) Q := by
  unfold J_Mod_term_24 at h
  refine g_aload_n (pc1 := 25) d_Mod_term_24 rfl 0 rfl ?_
  refine g_getr (pc1 := 28) d_Mod_term_25 rfl ⟨_, fo_Mod_104⟩ sh_401 (by decide) (rf_401_43 ld) ?_
  refine g_aload_n (pc1 := 29) d_Mod_term_28 rfl 0 rfl ?_
  refine g_geti (pc1 := 32) d_Mod_term_29 rfl ⟨_, fo_Mod_245⟩ sh_401 (by decide) ?_
  refine g_aload_n (pc1 := 33) d_Mod_term_32 rfl 0 rfl ?_
  refine g_geti (pc1 := 36) d_Mod_term_33 rfl ⟨_, fo_Mod_248⟩ sh_401 (by decide) ?_
  obtain ⟨g4, h⟩ := gdn h
  refine g_iast (pc1 := 37) d_Mod_term_36 rfl sh_430 (by decide) g4 ?_
  refine Wp.lM h (fun M5 h => ?_)
  refine g_aload_n (pc1 := 38) d_Mod_term_37 rfl 0 rfl ?_
  refine g_dup (pc1 := 39) d_Mod_term_38 rfl rfl ?_
  refine g_geti (pc1 := 42) d_Mod_term_39 rfl ⟨_, fo_Mod_245⟩ sh_401 (by decide) ?_
  refine g_iconst (pc1 := 43) (v := 1) d_Mod_term_42 rfl (by decide) ?_
  refine g_iadd (pc1 := 44) d_Mod_term_43 rfl ?_
  refine g_puti (pc1 := 47) d_Mod_term_44 rfl fo_Mod_245 (po_12_38 _) sh_401 (by decide) ?_
  refine Wp.lM h (fun M6 h => ?_)
  refine g_return rfl d_Mod_term_47 rfl ?_
  cases h; exact hQ
def F_Mod_term (M : gM) : Option (gM) :=
  (if ((M 401 38) : Int32) < 0 ∨ 260 ≤ ((M 401 38) : Int32).toNatClampNeg then none else nmM (uM M 429 ((M 401 38) : Int32).toNatClampNeg (M 401 44)) (fun M2 => (if (M2 401 13) = 0 then bI (F_Mod_expression M2) (fun q7 => J_Mod_term_24 q7) else J_Mod_term_24 M2)))
set_option maxHeartbeats 4000000 in
set_option maxRecDepth 20000 in
theorem f_Mod_term {l : Launch} {ld : Nat} {M : gM} {L : gL} {Q : Option Value → gM → gL → gR → Prop} (hld : isLa ld)   {q : gM} (h : F_Mod_term M = some q) (hQ : Q none q L (rf ld)) : Tm l y_Mod_term (0, 0, 447) 447 [.ref 401] M L (rf ld) Q := by
  refine Tm.of (by decide) (Nat.le_of_ble_eq_true rfl) ?_
  show Wp l y_Mod_term (0, 0, 447) 447 0 0 0 [(0, .ref 401)] [] M L (rf ld) Q
  unfold F_Mod_term at h
  refine g_aload_n (pc1 := 1) d_Mod_term_0 rfl 0 rfl ?_
  refine g_getr (pc1 := 4) d_Mod_term_1 rfl ⟨_, fo_Mod_101⟩ sh_401 (by decide) (rf_401_42 ld) ?_
  refine g_aload_n (pc1 := 5) d_Mod_term_4 rfl 0 rfl ?_
  refine g_geti (pc1 := 8) d_Mod_term_5 rfl ⟨_, fo_Mod_245⟩ sh_401 (by decide) ?_
  refine g_aload_n (pc1 := 9) d_Mod_term_8 rfl 0 rfl ?_
  refine g_geti (pc1 := 12) d_Mod_term_9 rfl ⟨_, fo_Mod_248⟩ sh_401 (by decide) ?_
  obtain ⟨g1, h⟩ := gdn h
  refine g_iast (pc1 := 13) d_Mod_term_12 rfl sh_429 (by decide) g1 ?_
  refine Wp.lM h (fun M2 h => ?_)
  refine g_aload_n (pc1 := 14) d_Mod_term_13 rfl 0 rfl ?_
  refine g_geti (pc1 := 17) d_Mod_term_14 rfl ⟨_, fo_Mod_206⟩ sh_401 (by decide) ?_
  refine g_if_ne (pc1 := 20) (tgt := 24) d_Mod_term_17 (by decide) rfl (fun c3 => ?_) (fun c3 => ?_)
  · replace h := itn h c3
    exact j_Mod_term_24 hld  hQ  h
  · replace h := itp h c3
    refine g_aload_n (pc1 := 21) d_Mod_term_20 rfl 0 rfl ?_
    refine g_callV0 (pc1 := 24) (As := []) (rest := []) d_Mod_term_21 rfl mo_Mod_293 mi_Mod_expression mv_Mod_expression rfl sh_401 (by decide) (by decide) rfl rfl (Nat.le_of_ble_eq_true rfl) ?_
    obtain ⟨q7, hq8, h⟩ := bnd h
    refine f_Mod_expression hld  hq8 ?_
    dsimp only [psh]
    exact j_Mod_term_24 hld  hQ  h

def F_Mod_boundIn (p1 : Int32) (p2 : Int32) (p3 : Int32) (M : gM) : Option (Int32 × gM) :=
  bI (F_Mod_isGuest p1 M) (fun q1 => (if q1 = 0 then some ((-1), M) else bI (F_Mod_in p2 0 2) (fun q4 => (if q4 = 0 then some ((-1), M) else bI (F_Mod_isLong p3) (fun q7 => (if q7 = 0 then some ((-1), M) else bI (F_Mod_copies M) (fun q10 => nmM (uM q10 437 (35 : Int32).toNatClampNeg ((q10 437 (35 : Int32).toNatClampNeg) + p3)) (fun M12 => bI (F_Mod_boundNow p1 p2 M12) (fun q13 => some (q13.1, q13.2))))))))))
set_option maxHeartbeats 4000000 in
set_option maxRecDepth 20000 in
theorem f_Mod_boundIn {l : Launch} {ld : Nat} {M : gM} {L : gL} {Q : Option Value → gM → gL → gR → Prop} (hld : isLa ld) {p1 : Int32} {p2 : Int32} {p3 : Int32}  {q : Int32 × gM} (h : F_Mod_boundIn p1 p2 p3 M = some q) (hQ : Q (some (.int q.1)) q.2 L (rf ld)) : Tm l y_Mod_boundIn (0, 0, 447) 447 [.ref 401, .int p1, .int p2, .int p3] M L (rf ld) Q := by
  refine Tm.of (by decide) (Nat.le_of_ble_eq_true rfl) ?_
  show Wp l y_Mod_boundIn (0, 0, 447) 447 0 0 0 [(0, .ref 401), (1, .int p1), (2, .int p2), (3, .int p3)] [] M L (rf ld) Q
  unfold F_Mod_boundIn at h
  refine g_aload_n (pc1 := 1) d_Mod_boundIn_0 rfl 0 rfl ?_
  refine g_iload_n (pc1 := 2) d_Mod_boundIn_1 rfl 1 rfl ?_
  refine g_callV0 (pc1 := 5) (As := [.int p1]) (rest := []) d_Mod_boundIn_2 rfl mo_Mod_380 mi_Mod_isGuest mv_Mod_isGuest rfl sh_401 (by decide) (by decide) rfl rfl (Nat.le_of_ble_eq_true rfl) ?_
  obtain ⟨q1, hq2, h⟩ := bnd h
  refine f_Mod_isGuest hld  hq2 ?_
  dsimp only [psh]
  refine g_if_eq (pc1 := 8) (tgt := 24) d_Mod_boundIn_5 (by decide) rfl (fun c3 => ?_) (fun c3 => ?_)
  · replace h := itp h c3
    refine g_iconst (pc1 := 25) (v := (-1)) d_Mod_boundIn_24 rfl (by decide) ?_
    refine g_ireturn (Or.inl rfl) d_Mod_boundIn_25 rfl ?_
    cases h; exact hQ
  · replace h := itn h c3
    refine g_iload_n (pc1 := 9) d_Mod_boundIn_8 rfl 2 rfl ?_
    refine g_iconst (pc1 := 10) (v := 0) d_Mod_boundIn_9 rfl (by decide) ?_
    refine g_iconst (pc1 := 11) (v := 2) d_Mod_boundIn_10 rfl (by decide) ?_
    refine g_callS0 (pc1 := 14) (As := [.int p2, .int 0, .int 2]) (rest := []) d_Mod_boundIn_11 rfl mo_Mod_316 ms_Mod_in (by decide) rfl rfl (Nat.le_of_ble_eq_true rfl) ?_
    obtain ⟨q4, hq5, h⟩ := bnd h
    refine f_Mod_in hld  hq5 ?_
    dsimp only [psh]
    refine g_if_eq (pc1 := 17) (tgt := 24) d_Mod_boundIn_14 (by decide) rfl (fun c6 => ?_) (fun c6 => ?_)
    · replace h := itp h c6
      refine g_iconst (pc1 := 25) (v := (-1)) d_Mod_boundIn_24 rfl (by decide) ?_
      refine g_ireturn (Or.inl rfl) d_Mod_boundIn_25 rfl ?_
      cases h; exact hQ
    · replace h := itn h c6
      refine g_iload_n (pc1 := 18) d_Mod_boundIn_17 rfl 3 rfl ?_
      refine g_callS0 (pc1 := 21) (As := [.int p3]) (rest := []) d_Mod_boundIn_18 rfl mo_Mod_446 ms_Mod_isLong (by decide) rfl rfl (Nat.le_of_ble_eq_true rfl) ?_
      obtain ⟨q7, hq8, h⟩ := bnd h
      refine f_Mod_isLong hld  hq8 ?_
      dsimp only [psh]
      refine g_if_ne (pc1 := 24) (tgt := 26) d_Mod_boundIn_21 (by decide) rfl (fun c9 => ?_) (fun c9 => ?_)
      · replace h := itn h c9
        refine g_aload_n (pc1 := 27) d_Mod_boundIn_26 rfl 0 rfl ?_
        refine g_callV0 (pc1 := 30) (As := []) (rest := []) d_Mod_boundIn_27 rfl mo_Mod_377 mi_Mod_copies mv_Mod_copies rfl sh_401 (by decide) (by decide) rfl rfl (Nat.le_of_ble_eq_true rfl) ?_
        obtain ⟨q10, hq11, h⟩ := bnd h
        refine f_Mod_copies hld  hq11 ?_
        dsimp only [psh]
        refine g_aload_n (pc1 := 31) d_Mod_boundIn_30 rfl 0 rfl ?_
        refine g_getr (pc1 := 34) d_Mod_boundIn_31 rfl ⟨_, fo_Mod_125⟩ sh_401 (by decide) (rf_401_53 ld) ?_
        refine g_bipush (pc1 := 36) (v := 35) d_Mod_boundIn_34 rfl (by decide) ?_
        refine g_dup2 (pc1 := 37) d_Mod_boundIn_36 rfl rfl rfl ?_
        refine g_iald (pc1 := 38) d_Mod_boundIn_37 rfl sh_437 (by decide) (vin_lit (x := 35) (by decide)) ?_
        refine g_iload_n (pc1 := 39) d_Mod_boundIn_38 rfl 3 rfl ?_
        refine g_iadd (pc1 := 40) d_Mod_boundIn_39 rfl ?_
        refine g_iast (pc1 := 41) d_Mod_boundIn_40 rfl sh_437 (by decide) (vin_lit (x := 35) (by decide)) ?_
        refine Wp.lM h (fun M12 h => ?_)
        refine g_aload_n (pc1 := 42) d_Mod_boundIn_41 rfl 0 rfl ?_
        refine g_iload_n (pc1 := 43) d_Mod_boundIn_42 rfl 1 rfl ?_
        refine g_iload_n (pc1 := 44) d_Mod_boundIn_43 rfl 2 rfl ?_
        refine g_callV0 (pc1 := 47) (As := [.int p1, .int p2]) (rest := []) d_Mod_boundIn_44 rfl mo_Mod_349 mi_Mod_boundNow mv_Mod_boundNow rfl sh_401 (by decide) (by decide) rfl rfl (Nat.le_of_ble_eq_true rfl) ?_
        obtain ⟨q13, hq14, h⟩ := bnd h
        refine f_Mod_boundNow hld  hq14 ?_
        dsimp only [psh]
        refine g_ireturn (Or.inl rfl) d_Mod_boundIn_47 rfl ?_
        cases h; exact hQ
      · replace h := itp h c9
        refine g_iconst (pc1 := 25) (v := (-1)) d_Mod_boundIn_24 rfl (by decide) ?_
        refine g_ireturn (Or.inl rfl) d_Mod_boundIn_25 rfl ?_
        cases h; exact hQ

def F_Mod_cook (p1 : Int32) (M : gM) : Option (Int32 × gM) :=
  bI (F_Mod_isDish p1 M) (fun q1 => (if q1 = 0 then some ((-1), M) else bI (F_Mod_copies M) (fun q4 => bI (F_Mod_isInStore p1 q4) (fun q6 => (if q6.1 = 0 then some ((-3), q6.2) else bI (F_Mod_cooks p1 q6.2) (fun q9 => bI (F_Mod_records q9.2) (fun q11 => some (q9.1, q11))))))))
set_option maxHeartbeats 4000000 in
set_option maxRecDepth 20000 in
theorem f_Mod_cook {l : Launch} {ld : Nat} {M : gM} {L : gL} {Q : Option Value → gM → gL → gR → Prop} (hld : isLa ld) {p1 : Int32}  {q : Int32 × gM} (h : F_Mod_cook p1 M = some q) (hQ : Q (some (.int q.1)) q.2 L (rf ld)) : Tm l y_Mod_cook (0, 0, 447) 447 [.ref 401, .int p1] M L (rf ld) Q := by
  refine Tm.of (by decide) (Nat.le_of_ble_eq_true rfl) ?_
  show Wp l y_Mod_cook (0, 0, 447) 447 0 0 0 [(0, .ref 401), (1, .int p1)] [] M L (rf ld) Q
  unfold F_Mod_cook at h
  refine g_aload_n (pc1 := 1) d_Mod_cook_0 rfl 0 rfl ?_
  refine g_iload_n (pc1 := 2) d_Mod_cook_1 rfl 1 rfl ?_
  refine g_callV0 (pc1 := 5) (As := [.int p1]) (rest := []) d_Mod_cook_2 rfl mo_Mod_374 mi_Mod_isDish mv_Mod_isDish rfl sh_401 (by decide) (by decide) rfl rfl (Nat.le_of_ble_eq_true rfl) ?_
  obtain ⟨q1, hq2, h⟩ := bnd h
  refine f_Mod_isDish hld  hq2 ?_
  dsimp only [psh]
  refine g_if_ne (pc1 := 8) (tgt := 10) d_Mod_cook_5 (by decide) rfl (fun c3 => ?_) (fun c3 => ?_)
  · replace h := itn h c3
    refine g_aload_n (pc1 := 11) d_Mod_cook_10 rfl 0 rfl ?_
    refine g_callV0 (pc1 := 14) (As := []) (rest := []) d_Mod_cook_11 rfl mo_Mod_377 mi_Mod_copies mv_Mod_copies rfl sh_401 (by decide) (by decide) rfl rfl (Nat.le_of_ble_eq_true rfl) ?_
    obtain ⟨q4, hq5, h⟩ := bnd h
    refine f_Mod_copies hld  hq5 ?_
    dsimp only [psh]
    refine g_aload_n (pc1 := 15) d_Mod_cook_14 rfl 0 rfl ?_
    refine g_iload_n (pc1 := 16) d_Mod_cook_15 rfl 1 rfl ?_
    refine g_callV0 (pc1 := 19) (As := [.int p1]) (rest := []) d_Mod_cook_16 rfl mo_Mod_386 mi_Mod_isInStore mv_Mod_isInStore rfl sh_401 (by decide) (by decide) rfl rfl (Nat.le_of_ble_eq_true rfl) ?_
    obtain ⟨q6, hq7, h⟩ := bnd h
    refine f_Mod_isInStore hld  hq7 ?_
    dsimp only [psh]
    refine g_if_ne (pc1 := 22) (tgt := 25) d_Mod_cook_19 (by decide) rfl (fun c8 => ?_) (fun c8 => ?_)
    · replace h := itn h c8
      refine g_aload_n (pc1 := 26) d_Mod_cook_25 rfl 0 rfl ?_
      refine g_iload_n (pc1 := 27) d_Mod_cook_26 rfl 1 rfl ?_
      refine g_callV0 (pc1 := 30) (As := [.int p1]) (rest := []) d_Mod_cook_27 rfl mo_Mod_389 mi_Mod_cooks mv_Mod_cooks rfl sh_401 (by decide) (by decide) rfl rfl (Nat.le_of_ble_eq_true rfl) ?_
      obtain ⟨q9, hq10, h⟩ := bnd h
      refine f_Mod_cooks hld  hq10 ?_
      dsimp only [psh]
      refine g_istore_n (pc1 := 31) (lv' := [(0, .ref 401), (1, .int p1), (2, .int q9.1)]) d_Mod_cook_30 rfl rfl (by decide) [1, 2, 0] rfl ?_
      refine g_aload_n (pc1 := 32) d_Mod_cook_31 rfl 0 rfl ?_
      refine g_callV0 (pc1 := 35) (As := []) (rest := []) d_Mod_cook_32 rfl mo_Mod_392 mi_Mod_records mv_Mod_records rfl sh_401 (by decide) (by decide) rfl rfl (Nat.le_of_ble_eq_true rfl) ?_
      obtain ⟨q11, hq12, h⟩ := bnd h
      refine f_Mod_records hld  hq12 ?_
      dsimp only [psh]
      refine g_iload_n (pc1 := 36) d_Mod_cook_35 rfl 2 rfl ?_
      refine g_ireturn (Or.inl rfl) d_Mod_cook_36 rfl ?_
      cases h; exact hQ
    · replace h := itp h c8
      refine g_bipush (pc1 := 24) (v := (-3)) d_Mod_cook_22 rfl (by decide) ?_
      refine g_ireturn (Or.inl rfl) d_Mod_cook_24 rfl ?_
      cases h; exact hQ
  · replace h := itp h c3
    refine g_iconst (pc1 := 9) (v := (-1)) d_Mod_cook_8 rfl (by decide) ?_
    refine g_ireturn (Or.inl rfl) d_Mod_cook_9 rfl ?_
    cases h; exact hQ

def F_Mod_days (p1 : Int32) (M : gM) : Option (Int32 × gM) :=
  bI (F_Mod_in p1 0 60) (fun q1 => (if q1 = 0 then some ((-1), M) else (if p1 = 0 then some ((M 436 (35 : Int32).toNatClampNeg), M) else bI (F_Mod_copies M) (fun q5 => bI (F_Mod_goes p1 q5) (fun q7 => bI (F_Mod_records q7) (fun q9 => some ((q9 436 (35 : Int32).toNatClampNeg), q9)))))))
set_option maxHeartbeats 4000000 in
set_option maxRecDepth 20000 in
theorem f_Mod_days {l : Launch} {ld : Nat} {M : gM} {L : gL} {Q : Option Value → gM → gL → gR → Prop} (hld : isLa ld) {p1 : Int32}  {q : Int32 × gM} (h : F_Mod_days p1 M = some q) (hQ : Q (some (.int q.1)) q.2 L (rf ld)) : Tm l y_Mod_days (0, 0, 447) 447 [.ref 401, .int p1] M L (rf ld) Q := by
  refine Tm.of (by decide) (Nat.le_of_ble_eq_true rfl) ?_
  show Wp l y_Mod_days (0, 0, 447) 447 0 0 0 [(0, .ref 401), (1, .int p1)] [] M L (rf ld) Q
  unfold F_Mod_days at h
  refine g_iload_n (pc1 := 1) d_Mod_days_0 rfl 1 rfl ?_
  refine g_iconst (pc1 := 2) (v := 0) d_Mod_days_1 rfl (by decide) ?_
  refine g_bipush (pc1 := 4) (v := 60) d_Mod_days_2 rfl (by decide) ?_
  refine g_callS0 (pc1 := 7) (As := [.int p1, .int 0, .int 60]) (rest := []) d_Mod_days_4 rfl mo_Mod_316 ms_Mod_in (by decide) rfl rfl (Nat.le_of_ble_eq_true rfl) ?_
  obtain ⟨q1, hq2, h⟩ := bnd h
  refine f_Mod_in hld  hq2 ?_
  dsimp only [psh]
  refine g_if_ne (pc1 := 10) (tgt := 12) d_Mod_days_7 (by decide) rfl (fun c3 => ?_) (fun c3 => ?_)
  · replace h := itn h c3
    refine g_iload_n (pc1 := 13) d_Mod_days_12 rfl 1 rfl ?_
    refine g_if_ne (pc1 := 16) (tgt := 24) d_Mod_days_13 (by decide) rfl (fun c4 => ?_) (fun c4 => ?_)
    · replace h := itn h c4
      refine g_aload_n (pc1 := 25) d_Mod_days_24 rfl 0 rfl ?_
      refine g_callV0 (pc1 := 28) (As := []) (rest := []) d_Mod_days_25 rfl mo_Mod_377 mi_Mod_copies mv_Mod_copies rfl sh_401 (by decide) (by decide) rfl rfl (Nat.le_of_ble_eq_true rfl) ?_
      obtain ⟨q5, hq6, h⟩ := bnd h
      refine f_Mod_copies hld  hq6 ?_
      dsimp only [psh]
      refine g_aload_n (pc1 := 29) d_Mod_days_28 rfl 0 rfl ?_
      refine g_iload_n (pc1 := 30) d_Mod_days_29 rfl 1 rfl ?_
      refine g_callV0 (pc1 := 33) (As := [.int p1]) (rest := []) d_Mod_days_30 rfl mo_Mod_398 mi_Mod_goes mv_Mod_goes rfl sh_401 (by decide) (by decide) rfl rfl (Nat.le_of_ble_eq_true rfl) ?_
      obtain ⟨q7, hq8, h⟩ := bnd h
      refine f_Mod_goes hld  hq8 ?_
      dsimp only [psh]
      refine g_aload_n (pc1 := 34) d_Mod_days_33 rfl 0 rfl ?_
      refine g_callV0 (pc1 := 37) (As := []) (rest := []) d_Mod_days_34 rfl mo_Mod_392 mi_Mod_records mv_Mod_records rfl sh_401 (by decide) (by decide) rfl rfl (Nat.le_of_ble_eq_true rfl) ?_
      obtain ⟨q9, hq10, h⟩ := bnd h
      refine f_Mod_records hld  hq10 ?_
      dsimp only [psh]
      refine g_aload_n (pc1 := 38) d_Mod_days_37 rfl 0 rfl ?_
      refine g_getr (pc1 := 41) d_Mod_days_38 rfl ⟨_, fo_Mod_122⟩ sh_401 (by decide) (rf_401_52 ld) ?_
      refine g_bipush (pc1 := 43) (v := 35) d_Mod_days_41 rfl (by decide) ?_
      refine g_iald (pc1 := 44) d_Mod_days_43 rfl sh_436 (by decide) (vin_lit (x := 35) (by decide)) ?_
      refine g_ireturn (Or.inl rfl) d_Mod_days_44 rfl ?_
      cases h; exact hQ
    · replace h := itp h c4
      refine g_aload_n (pc1 := 17) d_Mod_days_16 rfl 0 rfl ?_
      refine g_getr (pc1 := 20) d_Mod_days_17 rfl ⟨_, fo_Mod_122⟩ sh_401 (by decide) (rf_401_52 ld) ?_
      refine g_bipush (pc1 := 22) (v := 35) d_Mod_days_20 rfl (by decide) ?_
      refine g_iald (pc1 := 23) d_Mod_days_22 rfl sh_436 (by decide) (vin_lit (x := 35) (by decide)) ?_
      refine g_ireturn (Or.inl rfl) d_Mod_days_23 rfl ?_
      cases h; exact hQ
  · replace h := itp h c3
    refine g_iconst (pc1 := 11) (v := (-1)) d_Mod_days_10 rfl (by decide) ?_
    refine g_ireturn (Or.inl rfl) d_Mod_days_11 rfl ?_
    cases h; exact hQ

def F_Mod_guest (p1 : Int32) (p2 : Int32) (M : gM) : Option (Int32 × gM) :=
  bI (F_Mod_isGuest p1 M) (fun q1 => (if q1 = 0 then some ((-1), M) else bI (F_Mod_copies M) (fun q4 => (if p2 = 0 then (if (((4 * (q4 401 18)) + p1) : Int32) < 0 ∨ 8 ≤ (((4 * (q4 401 18)) + p1) : Int32).toNatClampNeg then none else some ((q4 419 (((4 * (q4 401 18)) + p1) : Int32).toNatClampNeg), q4)) else (if p2 = 1 then (if ((15 + p1) : Int32) < 0 ∨ 38 ≤ ((15 + p1) : Int32).toNatClampNeg then none else (if 0 ≤ (q4 437 ((15 + p1) : Int32).toNatClampNeg) then (if ((15 + p1) : Int32) < 0 ∨ 38 ≤ ((15 + p1) : Int32).toNatClampNeg then none else some (((q4 437 (35 : Int32).toNatClampNeg) - (q4 437 ((15 + p1) : Int32).toNatClampNeg)), q4)) else some ((-2), q4))) else (if p2 = 2 then (if ((31 + p1) : Int32) < 0 ∨ 38 ≤ ((31 + p1) : Int32).toNatClampNeg then none else some ((q4 437 ((31 + p1) : Int32).toNatClampNeg), q4)) else (if p2 = 3 then bI (F_Mod_boundNow p1 (p2 - 3) q4) (fun q15 => some (q15.1, q15.2)) else (if p2 = 4 then bI (F_Mod_boundNow p1 (p2 - 3) q4) (fun q18 => some (q18.1, q18.2)) else (if p2 = 5 then bI (F_Mod_boundNow p1 (p2 - 3) q4) (fun q21 => some (q21.1, q21.2)) else some ((-1), q4))))))))))
set_option maxHeartbeats 4000000 in
set_option maxRecDepth 20000 in
theorem f_Mod_guest {l : Launch} {ld : Nat} {M : gM} {L : gL} {Q : Option Value → gM → gL → gR → Prop} (hld : isLa ld) {p1 : Int32} {p2 : Int32}  {q : Int32 × gM} (h : F_Mod_guest p1 p2 M = some q) (hQ : Q (some (.int q.1)) q.2 L (rf ld)) : Tm l y_Mod_guest (0, 0, 447) 447 [.ref 401, .int p1, .int p2] M L (rf ld) Q := by
  refine Tm.of (by decide) (Nat.le_of_ble_eq_true rfl) ?_
  show Wp l y_Mod_guest (0, 0, 447) 447 0 0 0 [(0, .ref 401), (1, .int p1), (2, .int p2)] [] M L (rf ld) Q
  unfold F_Mod_guest at h
  refine g_aload_n (pc1 := 1) d_Mod_guest_0 rfl 0 rfl ?_
  refine g_iload_n (pc1 := 2) d_Mod_guest_1 rfl 1 rfl ?_
  refine g_callV0 (pc1 := 5) (As := [.int p1]) (rest := []) d_Mod_guest_2 rfl mo_Mod_380 mi_Mod_isGuest mv_Mod_isGuest rfl sh_401 (by decide) (by decide) rfl rfl (Nat.le_of_ble_eq_true rfl) ?_
  obtain ⟨q1, hq2, h⟩ := bnd h
  refine f_Mod_isGuest hld  hq2 ?_
  dsimp only [psh]
  refine g_if_ne (pc1 := 8) (tgt := 10) d_Mod_guest_5 (by decide) rfl (fun c3 => ?_) (fun c3 => ?_)
  · replace h := itn h c3
    refine g_aload_n (pc1 := 11) d_Mod_guest_10 rfl 0 rfl ?_
    refine g_callV0 (pc1 := 14) (As := []) (rest := []) d_Mod_guest_11 rfl mo_Mod_377 mi_Mod_copies mv_Mod_copies rfl sh_401 (by decide) (by decide) rfl rfl (Nat.le_of_ble_eq_true rfl) ?_
    obtain ⟨q4, hq5, h⟩ := bnd h
    refine f_Mod_copies hld  hq5 ?_
    dsimp only [psh]
    refine g_iload_n (pc1 := 15) d_Mod_guest_14 rfl 2 rfl ?_
    by_cases c6 : p2 = 0
    · replace h := itp h c6
      refine g_tabK (tgt := 52) (off := 37) d_Mod_guest_15 c6 (by decide) (by decide) (by decide) (by decide) ?_
      refine g_aload_n (pc1 := 53) d_Mod_guest_52 rfl 0 rfl ?_
      refine g_getr (pc1 := 56) d_Mod_guest_53 rfl ⟨_, fo_Mod_70⟩ sh_401 (by decide) (rf_401_31 ld) ?_
      refine g_iconst (pc1 := 57) (v := 4) d_Mod_guest_56 rfl (by decide) ?_
      refine g_aload_n (pc1 := 58) d_Mod_guest_57 rfl 0 rfl ?_
      refine g_geti (pc1 := 61) d_Mod_guest_58 rfl ⟨_, fo_Mod_236⟩ sh_401 (by decide) ?_
      refine g_imul (pc1 := 62) d_Mod_guest_61 rfl ?_
      refine g_iload_n (pc1 := 63) d_Mod_guest_62 rfl 1 rfl ?_
      refine g_iadd (pc1 := 64) d_Mod_guest_63 rfl ?_
      obtain ⟨g7, h⟩ := gdn h
      refine g_iald (pc1 := 65) d_Mod_guest_64 rfl sh_419 (by decide) g7 ?_
      refine g_ireturn (Or.inl rfl) d_Mod_guest_65 rfl ?_
      cases h; exact hQ
    replace h := itn h c6
    by_cases c8 : p2 = 1
    · replace h := itp h c8
      refine g_tabK (tgt := 66) (off := 51) d_Mod_guest_15 c8 (by decide) (by decide) (by decide) (by decide) ?_
      refine g_aload_n (pc1 := 67) d_Mod_guest_66 rfl 0 rfl ?_
      refine g_getr (pc1 := 70) d_Mod_guest_67 rfl ⟨_, fo_Mod_125⟩ sh_401 (by decide) (rf_401_53 ld) ?_
      refine g_bipush (pc1 := 72) (v := 15) d_Mod_guest_70 rfl (by decide) ?_
      refine g_iload_n (pc1 := 73) d_Mod_guest_72 rfl 1 rfl ?_
      refine g_iadd (pc1 := 74) d_Mod_guest_73 rfl ?_
      obtain ⟨g9, h⟩ := gdn h
      refine g_iald (pc1 := 75) d_Mod_guest_74 rfl sh_437 (by decide) g9 ?_
      refine g_if_ge (pc1 := 78) (tgt := 83) d_Mod_guest_75 (by decide) rfl (fun c10 => ?_) (fun c10 => ?_)
      · replace h := itp h c10
        refine g_aload_n (pc1 := 84) d_Mod_guest_83 rfl 0 rfl ?_
        refine g_getr (pc1 := 87) d_Mod_guest_84 rfl ⟨_, fo_Mod_125⟩ sh_401 (by decide) (rf_401_53 ld) ?_
        refine g_bipush (pc1 := 89) (v := 35) d_Mod_guest_87 rfl (by decide) ?_
        refine g_iald (pc1 := 90) d_Mod_guest_89 rfl sh_437 (by decide) (vin_lit (x := 35) (by decide)) ?_
        refine g_aload_n (pc1 := 91) d_Mod_guest_90 rfl 0 rfl ?_
        refine g_getr (pc1 := 94) d_Mod_guest_91 rfl ⟨_, fo_Mod_125⟩ sh_401 (by decide) (rf_401_53 ld) ?_
        refine g_bipush (pc1 := 96) (v := 15) d_Mod_guest_94 rfl (by decide) ?_
        refine g_iload_n (pc1 := 97) d_Mod_guest_96 rfl 1 rfl ?_
        refine g_iadd (pc1 := 98) d_Mod_guest_97 rfl ?_
        obtain ⟨g11, h⟩ := gdn h
        refine g_iald (pc1 := 99) d_Mod_guest_98 rfl sh_437 (by decide) g11 ?_
        refine g_isub (pc1 := 100) d_Mod_guest_99 rfl ?_
        refine g_ireturn (Or.inl rfl) d_Mod_guest_100 rfl ?_
        cases h; exact hQ
      · replace h := itn h c10
        refine g_bipush (pc1 := 80) (v := (-2)) d_Mod_guest_78 rfl (by decide) ?_
        refine g_goto (tgt := 100) d_Mod_guest_80 (by decide) ?_
        refine g_ireturn (Or.inl rfl) d_Mod_guest_100 rfl ?_
        cases h; exact hQ
    replace h := itn h c8
    by_cases c12 : p2 = 2
    · replace h := itp h c12
      refine g_tabK (tgt := 101) (off := 86) d_Mod_guest_15 c12 (by decide) (by decide) (by decide) (by decide) ?_
      refine g_aload_n (pc1 := 102) d_Mod_guest_101 rfl 0 rfl ?_
      refine g_getr (pc1 := 105) d_Mod_guest_102 rfl ⟨_, fo_Mod_125⟩ sh_401 (by decide) (rf_401_53 ld) ?_
      refine g_bipush (pc1 := 107) (v := 31) d_Mod_guest_105 rfl (by decide) ?_
      refine g_iload_n (pc1 := 108) d_Mod_guest_107 rfl 1 rfl ?_
      refine g_iadd (pc1 := 109) d_Mod_guest_108 rfl ?_
      obtain ⟨g13, h⟩ := gdn h
      refine g_iald (pc1 := 110) d_Mod_guest_109 rfl sh_437 (by decide) g13 ?_
      refine g_ireturn (Or.inl rfl) d_Mod_guest_110 rfl ?_
      cases h; exact hQ
    replace h := itn h c12
    by_cases c14 : p2 = 3
    · replace h := itp h c14
      refine g_tabK (tgt := 111) (off := 96) d_Mod_guest_15 c14 (by decide) (by decide) (by decide) (by decide) ?_
      refine g_aload_n (pc1 := 112) d_Mod_guest_111 rfl 0 rfl ?_
      refine g_iload_n (pc1 := 113) d_Mod_guest_112 rfl 1 rfl ?_
      refine g_iload_n (pc1 := 114) d_Mod_guest_113 rfl 2 rfl ?_
      refine g_iconst (pc1 := 115) (v := 3) d_Mod_guest_114 rfl (by decide) ?_
      refine g_isub (pc1 := 116) d_Mod_guest_115 rfl ?_
      refine g_callV0 (pc1 := 119) (As := [.int p1, .int (p2 - 3)]) (rest := []) d_Mod_guest_116 rfl mo_Mod_349 mi_Mod_boundNow mv_Mod_boundNow rfl sh_401 (by decide) (by decide) rfl rfl (Nat.le_of_ble_eq_true rfl) ?_
      obtain ⟨q15, hq16, h⟩ := bnd h
      refine f_Mod_boundNow hld  hq16 ?_
      dsimp only [psh]
      refine g_ireturn (Or.inl rfl) d_Mod_guest_119 rfl ?_
      cases h; exact hQ
    replace h := itn h c14
    by_cases c17 : p2 = 4
    · replace h := itp h c17
      refine g_tabK (tgt := 111) (off := 96) d_Mod_guest_15 c17 (by decide) (by decide) (by decide) (by decide) ?_
      refine g_aload_n (pc1 := 112) d_Mod_guest_111 rfl 0 rfl ?_
      refine g_iload_n (pc1 := 113) d_Mod_guest_112 rfl 1 rfl ?_
      refine g_iload_n (pc1 := 114) d_Mod_guest_113 rfl 2 rfl ?_
      refine g_iconst (pc1 := 115) (v := 3) d_Mod_guest_114 rfl (by decide) ?_
      refine g_isub (pc1 := 116) d_Mod_guest_115 rfl ?_
      refine g_callV0 (pc1 := 119) (As := [.int p1, .int (p2 - 3)]) (rest := []) d_Mod_guest_116 rfl mo_Mod_349 mi_Mod_boundNow mv_Mod_boundNow rfl sh_401 (by decide) (by decide) rfl rfl (Nat.le_of_ble_eq_true rfl) ?_
      obtain ⟨q18, hq19, h⟩ := bnd h
      refine f_Mod_boundNow hld  hq19 ?_
      dsimp only [psh]
      refine g_ireturn (Or.inl rfl) d_Mod_guest_119 rfl ?_
      cases h; exact hQ
    replace h := itn h c17
    by_cases c20 : p2 = 5
    · replace h := itp h c20
      refine g_tabK (tgt := 111) (off := 96) d_Mod_guest_15 c20 (by decide) (by decide) (by decide) (by decide) ?_
      refine g_aload_n (pc1 := 112) d_Mod_guest_111 rfl 0 rfl ?_
      refine g_iload_n (pc1 := 113) d_Mod_guest_112 rfl 1 rfl ?_
      refine g_iload_n (pc1 := 114) d_Mod_guest_113 rfl 2 rfl ?_
      refine g_iconst (pc1 := 115) (v := 3) d_Mod_guest_114 rfl (by decide) ?_
      refine g_isub (pc1 := 116) d_Mod_guest_115 rfl ?_
      refine g_callV0 (pc1 := 119) (As := [.int p1, .int (p2 - 3)]) (rest := []) d_Mod_guest_116 rfl mo_Mod_349 mi_Mod_boundNow mv_Mod_boundNow rfl sh_401 (by decide) (by decide) rfl rfl (Nat.le_of_ble_eq_true rfl) ?_
      obtain ⟨q21, hq22, h⟩ := bnd h
      refine f_Mod_boundNow hld  hq22 ?_
      dsimp only [psh]
      refine g_ireturn (Or.inl rfl) d_Mod_guest_119 rfl ?_
      cases h; exact hQ
    replace h := itn h c20
    refine g_tabOut (tgt := 120) d_Mod_guest_15 (by
      have nc6 := neT (a := 0) c6 (by decide)
      have nc8 := neT (a := 1) c8 (by decide)
      have nc12 := neT (a := 2) c12 (by decide)
      have nc14 := neT (a := 3) c14 (by decide)
      have nc17 := neT (a := 4) c17 (by decide)
      have nc20 := neT (a := 5) c20 (by decide)
      omega) (by decide) ?_
    refine g_iconst (pc1 := 121) (v := (-1)) d_Mod_guest_120 rfl (by decide) ?_
    refine g_ireturn (Or.inl rfl) d_Mod_guest_121 rfl ?_
    cases h; exact hQ
  · replace h := itp h c3
    refine g_iconst (pc1 := 9) (v := (-1)) d_Mod_guest_8 rfl (by decide) ?_
    refine g_ireturn (Or.inl rfl) d_Mod_guest_9 rfl ?_
    cases h; exact hQ

def F_Mod_isFree (p1 : Int32) (p2 : Int32) (M : gM) : Option (Int32 × gM) :=
  (if (((6 * (M 401 18)) + p2) : Int32) < 0 ∨ 12 ≤ (((6 * (M 401 18)) + p2) : Int32).toNatClampNeg then none else bI (F_Mod_boundNow p1 (M 421 (((6 * (M 401 18)) + p2) : Int32).toNatClampNeg) M) (fun q2 => (if (((6 * (q2.2 401 18)) + p2) : Int32) < 0 ∨ 12 ≤ (((6 * (q2.2 401 18)) + p2) : Int32).toNatClampNeg then none else (if (q2.2 422 (((6 * (q2.2 401 18)) + p2) : Int32).toNatClampNeg) ≤ q2.1 then some (0, q2.2) else some (1, q2.2)))))
set_option maxHeartbeats 4000000 in
set_option maxRecDepth 20000 in
theorem f_Mod_isFree {l : Launch} {ld : Nat} {M : gM} {L : gL} {Q : Option Value → gM → gL → gR → Prop} (hld : isLa ld) {p1 : Int32} {p2 : Int32}  {q : Int32 × gM} (h : F_Mod_isFree p1 p2 M = some q) (hQ : Q (some (.int q.1)) q.2 L (rf ld)) : Tm l y_Mod_isFree (0, 0, 447) 447 [.ref 401, .int p1, .int p2] M L (rf ld) Q := by
  refine Tm.of (by decide) (Nat.le_of_ble_eq_true rfl) ?_
  show Wp l y_Mod_isFree (0, 0, 447) 447 0 0 0 [(0, .ref 401), (1, .int p1), (2, .int p2)] [] M L (rf ld) Q
  unfold F_Mod_isFree at h
  refine g_aload_n (pc1 := 1) d_Mod_isFree_0 rfl 0 rfl ?_
  refine g_iload_n (pc1 := 2) d_Mod_isFree_1 rfl 1 rfl ?_
  refine g_aload_n (pc1 := 3) d_Mod_isFree_2 rfl 0 rfl ?_
  refine g_getr (pc1 := 6) d_Mod_isFree_3 rfl ⟨_, fo_Mod_76⟩ sh_401 (by decide) (rf_401_33 ld) ?_
  refine g_bipush (pc1 := 8) (v := 6) d_Mod_isFree_6 rfl (by decide) ?_
  refine g_aload_n (pc1 := 9) d_Mod_isFree_8 rfl 0 rfl ?_
  refine g_geti (pc1 := 12) d_Mod_isFree_9 rfl ⟨_, fo_Mod_236⟩ sh_401 (by decide) ?_
  refine g_imul (pc1 := 13) d_Mod_isFree_12 rfl ?_
  refine g_iload_n (pc1 := 14) d_Mod_isFree_13 rfl 2 rfl ?_
  refine g_iadd (pc1 := 15) d_Mod_isFree_14 rfl ?_
  obtain ⟨g1, h⟩ := gdn h
  refine g_iald (pc1 := 16) d_Mod_isFree_15 rfl sh_421 (by decide) g1 ?_
  refine g_callV0 (pc1 := 19) (As := [.int p1, .int (M 421 (((6 * (M 401 18)) + p2) : Int32).toNatClampNeg)]) (rest := []) d_Mod_isFree_16 rfl mo_Mod_349 mi_Mod_boundNow mv_Mod_boundNow rfl sh_401 (by decide) (by decide) rfl rfl (Nat.le_of_ble_eq_true rfl) ?_
  obtain ⟨q2, hq3, h⟩ := bnd h
  refine f_Mod_boundNow hld  hq3 ?_
  dsimp only [psh]
  refine g_aload_n (pc1 := 20) d_Mod_isFree_19 rfl 0 rfl ?_
  refine g_getr (pc1 := 23) d_Mod_isFree_20 rfl ⟨_, fo_Mod_79⟩ sh_401 (by decide) (rf_401_34 ld) ?_
  refine g_bipush (pc1 := 25) (v := 6) d_Mod_isFree_23 rfl (by decide) ?_
  refine g_aload_n (pc1 := 26) d_Mod_isFree_25 rfl 0 rfl ?_
  refine g_geti (pc1 := 29) d_Mod_isFree_26 rfl ⟨_, fo_Mod_236⟩ sh_401 (by decide) ?_
  refine g_imul (pc1 := 30) d_Mod_isFree_29 rfl ?_
  refine g_iload_n (pc1 := 31) d_Mod_isFree_30 rfl 2 rfl ?_
  refine g_iadd (pc1 := 32) d_Mod_isFree_31 rfl ?_
  obtain ⟨g4, h⟩ := gdn h
  refine g_iald (pc1 := 33) d_Mod_isFree_32 rfl sh_422 (by decide) g4 ?_
  refine g_icmp_ge (pc1 := 36) (tgt := 40) d_Mod_isFree_33 (by decide) rfl (fun c5 => ?_) (fun c5 => ?_)
  · replace h := itp h c5
    refine g_iconst (pc1 := 41) (v := 0) d_Mod_isFree_40 rfl (by decide) ?_
    refine g_ireturn (Or.inr ⟨rfl, rfl⟩) d_Mod_isFree_41 rfl ?_
    cases h; exact hQ
  · replace h := itn h c5
    refine g_iconst (pc1 := 37) (v := 1) d_Mod_isFree_36 rfl (by decide) ?_
    refine g_goto (tgt := 41) d_Mod_isFree_37 (by decide) ?_
    refine g_ireturn (Or.inr ⟨rfl, rfl⟩) d_Mod_isFree_41 rfl ?_
    cases h; exact hQ

def F_Mod_isWay (p1 : Int32) (p2 : Int32) (M : gM) : Option (Int32 × gM) :=
  bI (F_Mod_fillsWay p1 M) (fun q1 => (if q1.1 = 0 then some (0, q1.2) else bI (F_Mod_isAsKnown p2 q1.2) (fun q4 => (if q4.1 = 0 then some (0, q4.2) else some (1, q4.2)))))
set_option maxHeartbeats 4000000 in
set_option maxRecDepth 20000 in
theorem f_Mod_isWay {l : Launch} {ld : Nat} {M : gM} {L : gL} {Q : Option Value → gM → gL → gR → Prop} (hld : isLa ld) {p1 : Int32} {p2 : Int32}  {q : Int32 × gM} (h : F_Mod_isWay p1 p2 M = some q) (hQ : Q (some (.int q.1)) q.2 L (rf ld)) : Tm l y_Mod_isWay (0, 0, 447) 447 [.ref 401, .int p1, .int p2] M L (rf ld) Q := by
  refine Tm.of (by decide) (Nat.le_of_ble_eq_true rfl) ?_
  show Wp l y_Mod_isWay (0, 0, 447) 447 0 0 0 [(0, .ref 401), (1, .int p1), (2, .int p2)] [] M L (rf ld) Q
  unfold F_Mod_isWay at h
  refine g_aload_n (pc1 := 1) d_Mod_isWay_0 rfl 0 rfl ?_
  refine g_iload_n (pc1 := 2) d_Mod_isWay_1 rfl 1 rfl ?_
  refine g_callV0 (pc1 := 5) (As := [.int p1]) (rest := []) d_Mod_isWay_2 rfl mo_Mod_449 mi_Mod_fillsWay mv_Mod_fillsWay rfl sh_401 (by decide) (by decide) rfl rfl (Nat.le_of_ble_eq_true rfl) ?_
  obtain ⟨q1, hq2, h⟩ := bnd h
  refine f_Mod_fillsWay hld  hq2 ?_
  dsimp only [psh]
  refine g_if_eq (pc1 := 8) (tgt := 20) d_Mod_isWay_5 (by decide) rfl (fun c3 => ?_) (fun c3 => ?_)
  · replace h := itp h c3
    refine g_iconst (pc1 := 21) (v := 0) d_Mod_isWay_20 rfl (by decide) ?_
    refine g_ireturn (Or.inr ⟨rfl, rfl⟩) d_Mod_isWay_21 rfl ?_
    cases h; exact hQ
  · replace h := itn h c3
    refine g_aload_n (pc1 := 9) d_Mod_isWay_8 rfl 0 rfl ?_
    refine g_iload_n (pc1 := 10) d_Mod_isWay_9 rfl 2 rfl ?_
    refine g_callV0 (pc1 := 13) (As := [.int p2]) (rest := []) d_Mod_isWay_10 rfl mo_Mod_452 mi_Mod_isAsKnown mv_Mod_isAsKnown rfl sh_401 (by decide) (by decide) rfl rfl (Nat.le_of_ble_eq_true rfl) ?_
    obtain ⟨q4, hq5, h⟩ := bnd h
    refine f_Mod_isAsKnown hld  hq5 ?_
    dsimp only [psh]
    refine g_if_eq (pc1 := 16) (tgt := 20) d_Mod_isWay_13 (by decide) rfl (fun c6 => ?_) (fun c6 => ?_)
    · replace h := itp h c6
      refine g_iconst (pc1 := 21) (v := 0) d_Mod_isWay_20 rfl (by decide) ?_
      refine g_ireturn (Or.inr ⟨rfl, rfl⟩) d_Mod_isWay_21 rfl ?_
      cases h; exact hQ
    · replace h := itn h c6
      refine g_iconst (pc1 := 17) (v := 1) d_Mod_isWay_16 rfl (by decide) ?_
      refine g_goto (tgt := 21) d_Mod_isWay_17 (by decide) ?_
      refine g_ireturn (Or.inr ⟨rfl, rfl⟩) d_Mod_isWay_21 rfl ?_
      cases h; exact hQ

def J_Mod_pot_156 (v4 : Int32) (M : gM) : Option (Int32 × gM) :=
  (if 0 ≤ (M 401 59) then (if v4 = 0 then some ((M 401 60), M) else (if v4 = 1 then some ((M 401 62), M) else bI (F_Mod_sevens (7 - v4)) (fun q23 => (if q23 = 0 then none else some ((((M 401 59) / q23) - ((M 401 59) / q23) / 7 * 7), M))))) else some ((-2), M))
set_option maxHeartbeats 4000000 in
set_option maxRecDepth 20000 in
theorem j_Mod_pot_156 {l : Launch} {ld : Nat} {Q : Option Value → gM → gL → gR → Prop} (hld : isLa ld)   {q : Int32 × gM} {M : gM} {L : gL} (hQ : Q (some (.int q.1)) q.2 L (rf ld))  {v4 : Int32}  (h : J_Mod_pot_156 v4 M = some q) : Wp l y_Mod_pot (0, 0, 447) 447 0 0 156 [(0, .ref 401), (4, .int v4)] [] M L (rf ld) Q := by
  unfold J_Mod_pot_156 at h
  refine g_aload_n (pc1 := 157) d_Mod_pot_156 rfl 0 rfl ?_
  refine g_geti (pc1 := 160) d_Mod_pot_157 rfl ⟨_, fo_Mod_404⟩ sh_401 (by decide) ?_
  refine g_if_ge (pc1 := 163) (tgt := 166) d_Mod_pot_160 (by decide) rfl (fun c20 => ?_) (fun c20 => ?_)
  · replace h := itp h c20
    refine g_iload (pc1 := 168) d_Mod_pot_166 rfl 1 rfl ?_
    refine g_if_ne (pc1 := 171) (tgt := 178) d_Mod_pot_168 (by decide) rfl (fun c21 => ?_) (fun c21 => ?_)
    · replace h := itn h c21
      refine g_iload (pc1 := 180) d_Mod_pot_178 rfl 1 rfl ?_
      refine g_iconst (pc1 := 181) (v := 1) d_Mod_pot_180 rfl (by decide) ?_
      refine g_icmp_ne (pc1 := 184) (tgt := 191) d_Mod_pot_181 (by decide) rfl (fun c22 => ?_) (fun c22 => ?_)
      · replace h := itn h c22
        refine g_aload_n (pc1 := 192) d_Mod_pot_191 rfl 0 rfl ?_
        refine g_geti (pc1 := 195) d_Mod_pot_192 rfl ⟨_, fo_Mod_404⟩ sh_401 (by decide) ?_
        refine g_bipush (pc1 := 197) (v := 7) d_Mod_pot_195 rfl (by decide) ?_
        refine g_iload (pc1 := 199) d_Mod_pot_197 rfl 1 rfl ?_
        refine g_isub (pc1 := 200) d_Mod_pot_199 rfl ?_
        refine g_callS0 (pc1 := 203) (As := [.int (7 - v4)]) (rest := [.int (M 401 59)]) d_Mod_pot_200 rfl mo_Mod_401 ms_Mod_sevens (by decide) rfl rfl (Nat.le_of_ble_eq_true rfl) ?_
        obtain ⟨q23, hq24, h⟩ := bnd h
        refine f_Mod_sevens hld  hq24 ?_
        dsimp only [psh]
        obtain ⟨g25, h⟩ := gdn h
        refine g_idiv (pc1 := 204) d_Mod_pot_203 rfl g25 ?_
        refine g_bipush (pc1 := 206) (v := 7) d_Mod_pot_204 rfl (by decide) ?_
        refine g_irem (pc1 := 207) d_Mod_pot_206 rfl (by decide) ?_
        refine g_ireturn (Or.inl rfl) d_Mod_pot_207 rfl ?_
        cases h; exact hQ
      · replace h := itp h c22
        refine g_aload_n (pc1 := 185) d_Mod_pot_184 rfl 0 rfl ?_
        refine g_geti (pc1 := 188) d_Mod_pot_185 rfl ⟨_, fo_Mod_413⟩ sh_401 (by decide) ?_
        refine g_goto (tgt := 207) d_Mod_pot_188 (by decide) ?_
        refine g_ireturn (Or.inl rfl) d_Mod_pot_207 rfl ?_
        cases h; exact hQ
    · replace h := itp h c21
      refine g_aload_n (pc1 := 172) d_Mod_pot_171 rfl 0 rfl ?_
      refine g_geti (pc1 := 175) d_Mod_pot_172 rfl ⟨_, fo_Mod_407⟩ sh_401 (by decide) ?_
      refine g_goto (tgt := 207) d_Mod_pot_175 (by decide) ?_
      refine g_ireturn (Or.inl rfl) d_Mod_pot_207 rfl ?_
      cases h; exact hQ
  · replace h := itn h c20
    refine g_bipush (pc1 := 165) (v := (-2)) d_Mod_pot_163 rfl (by decide) ?_
    refine g_ireturn (Or.inl rfl) d_Mod_pot_165 rfl ?_
    cases h; exact hQ
def J_Mod_pot_150 (K61 : Int32 → gM → Option (Int32 × gM)) (v1 : Int32) (v2 : Int32) (v3 : Int32) (v4 : Int32) (v5 : Int32) (M : gM) : Option (Int32 × gM) :=
  nmI (v5 + (-1)) (fun x29 => K61 x29 M)
set_option maxHeartbeats 4000000 in
set_option maxRecDepth 20000 in
theorem j_Mod_pot_150 {l : Launch} {ld : Nat} {Q : Option Value → gM → gL → gR → Prop} (hld : isLa ld)   {q : Int32 × gM} {M : gM} {L : gL} (hQ : Q (some (.int q.1)) q.2 L (rf ld)) {K61 : Int32 → gM → Option (Int32 × gM)} {v1 : Int32} {v2 : Int32} {v3 : Int32} {v4 : Int32} {v5 : Int32} (hK61 : ∀ (w5 : Int32) (M : gM), K61 w5 M = some q → Wp l y_Mod_pot (0, 0, 447) 447 0 0 61 [(0, .ref 401), (1, .int v1), (2, .int v2), (3, .int v3), (4, .int v4), (5, .int w5)] [] M L (rf ld) Q) (h : J_Mod_pot_150 K61 v1 v2 v3 v4 v5 M = some q) : Wp l y_Mod_pot (0, 0, 447) 447 0 0 150 [(0, .ref 401), (1, .int v1), (2, .int v2), (3, .int v3), (4, .int v4), (5, .int v5)] [] M L (rf ld) Q := by
  unfold J_Mod_pot_150 at h
  obtain ⟨x29, ex29, h⟩ := ltI h
  refine g_iinc (pc1 := 153) (v := x29) (lv' := [(0, .ref 401), (1, .int v1), (2, .int v2), (3, .int v3), (4, .int v4), (5, .int x29)]) d_Mod_pot_150 rfl 5 rfl (by rw [ex29]; rfl) (by decide) [1, 2, 3, 4, 5, 0] rfl ?_
  refine g_goto (tgt := 61) d_Mod_pot_153 (by decide) ?_
  exact hK61 x29 M h
def J_Mod_pot_96 (K61 : Int32 → gM → Option (Int32 × gM)) (v1 : Int32) (v2 : Int32) (v3 : Int32) (v4 : Int32) (v5 : Int32) (M : gM) : Option (Int32 × gM) :=
  bI (F_Mod_potAt v1 v2 v3 M) (fun q31 => (if q31.1 < 0 then J_Mod_pot_150 K61 v1 v2 v3 v4 v5 q31.2 else bI (F_Mod_isBetter q31.1 q31.2) (fun q34 => (if q34 = 0 then J_Mod_pot_150 K61 v1 v2 v3 v4 v5 q31.2 else nmM (uM q31.2 401 59 v5) (fun M37 => bI (F_Mod_potPrice M37) (fun q38 => nmM (uM M37 401 60 q38) (fun M40 => bI (F_Mod_potMany M40) (fun q41 => nmM (uM M40 401 61 q41) (fun M43 => nmM (uM M43 401 62 q31.1) (fun M44 => J_Mod_pot_150 K61 v1 v2 v3 v4 v5 M44))))))))))
set_option maxHeartbeats 4000000 in
set_option maxRecDepth 20000 in
theorem j_Mod_pot_96 {l : Launch} {ld : Nat} {Q : Option Value → gM → gL → gR → Prop} (hld : isLa ld)   {q : Int32 × gM} {M : gM} {L : gL} (hQ : Q (some (.int q.1)) q.2 L (rf ld)) {K61 : Int32 → gM → Option (Int32 × gM)} {v1 : Int32} {v2 : Int32} {v3 : Int32} {v4 : Int32} {v5 : Int32} (hK61 : ∀ (w5 : Int32) (M : gM), K61 w5 M = some q → Wp l y_Mod_pot (0, 0, 447) 447 0 0 61 [(0, .ref 401), (1, .int v1), (2, .int v2), (3, .int v3), (4, .int v4), (5, .int w5)] [] M L (rf ld) Q) (h : J_Mod_pot_96 K61 v1 v2 v3 v4 v5 M = some q) : Wp l y_Mod_pot (0, 0, 447) 447 0 0 96 [(0, .ref 401), (1, .int v1), (2, .int v2), (3, .int v3), (4, .int v4), (5, .int v5)] [] M L (rf ld) Q := by
  unfold J_Mod_pot_96 at h
  refine g_aload_n (pc1 := 97) d_Mod_pot_96 rfl 0 rfl ?_
  refine g_iload_n (pc1 := 98) d_Mod_pot_97 rfl 1 rfl ?_
  refine g_iload_n (pc1 := 99) d_Mod_pot_98 rfl 2 rfl ?_
  refine g_iload_n (pc1 := 100) d_Mod_pot_99 rfl 3 rfl ?_
  refine g_callV0 (pc1 := 103) (As := [.int v1, .int v2, .int v3]) (rest := []) d_Mod_pot_100 rfl mo_Mod_419 mi_Mod_potAt mv_Mod_potAt rfl sh_401 (by decide) (by decide) rfl rfl (Nat.le_of_ble_eq_true rfl) ?_
  obtain ⟨q31, hq32, h⟩ := bnd h
  refine f_Mod_potAt hld  hq32 ?_
  dsimp only [psh]
  refine g_istore (pc1 := 105) (lv' := [(0, .ref 401), (1, .int v1), (2, .int v2), (3, .int v3), (4, .int v4), (5, .int v5), (6, .int q31.1)]) d_Mod_pot_103 rfl (by decide) [1, 2, 3, 4, 5, 6, 0] rfl ?_
  refine g_iload (pc1 := 107) d_Mod_pot_105 rfl 6 rfl ?_
  refine g_if_lt (pc1 := 110) (tgt := 150) d_Mod_pot_107 (by decide) rfl (fun c33 => ?_) (fun c33 => ?_)
  · replace h := itp h c33
    refine Wp.loc (lv' := [(0, .ref 401), (1, .int v1), (2, .int v2), (3, .int v3), (4, .int v4), (5, .int v5)]) [0, 1, 2, 3, 4, 5] rfl ?_
    exact j_Mod_pot_150 hld  hQ hK61 h
  · replace h := itn h c33
    refine g_aload_n (pc1 := 111) d_Mod_pot_110 rfl 0 rfl ?_
    refine g_iload (pc1 := 113) d_Mod_pot_111 rfl 6 rfl ?_
    refine g_callV0 (pc1 := 116) (As := [.int q31.1]) (rest := []) d_Mod_pot_113 rfl mo_Mod_422 mi_Mod_isBetter mv_Mod_isBetter rfl sh_401 (by decide) (by decide) rfl rfl (Nat.le_of_ble_eq_true rfl) ?_
    obtain ⟨q34, hq35, h⟩ := bnd h
    refine f_Mod_isBetter hld  hq35 ?_
    dsimp only [psh]
    refine g_if_ne (pc1 := 119) (tgt := 122) d_Mod_pot_116 (by decide) rfl (fun c36 => ?_) (fun c36 => ?_)
    · replace h := itn h c36
      refine g_aload_n (pc1 := 123) d_Mod_pot_122 rfl 0 rfl ?_
      refine g_iload (pc1 := 125) d_Mod_pot_123 rfl 5 rfl ?_
      refine g_puti (pc1 := 128) d_Mod_pot_125 rfl fo_Mod_404 (po_12_59 _) sh_401 (by decide) ?_
      refine Wp.lM h (fun M37 h => ?_)
      refine g_aload_n (pc1 := 129) d_Mod_pot_128 rfl 0 rfl ?_
      refine g_aload_n (pc1 := 130) d_Mod_pot_129 rfl 0 rfl ?_
      refine g_callV0 (pc1 := 133) (As := []) (rest := [.ref 401]) d_Mod_pot_130 rfl mo_Mod_362 mi_Mod_potPrice mv_Mod_potPrice rfl sh_401 (by decide) (by decide) rfl rfl (Nat.le_of_ble_eq_true rfl) ?_
      obtain ⟨q38, hq39, h⟩ := bnd h
      refine f_Mod_potPrice hld  hq39 ?_
      dsimp only [psh]
      refine g_puti (pc1 := 136) d_Mod_pot_133 rfl fo_Mod_407 (po_12_60 _) sh_401 (by decide) ?_
      refine Wp.lM h (fun M40 h => ?_)
      refine g_aload_n (pc1 := 137) d_Mod_pot_136 rfl 0 rfl ?_
      refine g_aload_n (pc1 := 138) d_Mod_pot_137 rfl 0 rfl ?_
      refine g_callV0 (pc1 := 141) (As := []) (rest := [.ref 401]) d_Mod_pot_138 rfl mo_Mod_339 mi_Mod_potMany mv_Mod_potMany rfl sh_401 (by decide) (by decide) rfl rfl (Nat.le_of_ble_eq_true rfl) ?_
      obtain ⟨q41, hq42, h⟩ := bnd h
      refine f_Mod_potMany hld  hq42 ?_
      dsimp only [psh]
      refine g_puti (pc1 := 144) d_Mod_pot_141 rfl fo_Mod_410 (po_12_61 _) sh_401 (by decide) ?_
      refine Wp.lM h (fun M43 h => ?_)
      refine g_aload_n (pc1 := 145) d_Mod_pot_144 rfl 0 rfl ?_
      refine g_iload (pc1 := 147) d_Mod_pot_145 rfl 6 rfl ?_
      refine g_puti (pc1 := 150) d_Mod_pot_147 rfl fo_Mod_413 (po_12_62 _) sh_401 (by decide) ?_
      refine Wp.lM h (fun M44 h => ?_)
      refine Wp.loc (lv' := [(0, .ref 401), (1, .int v1), (2, .int v2), (3, .int v3), (4, .int v4), (5, .int v5)]) [0, 1, 2, 3, 4, 5] rfl ?_
      exact j_Mod_pot_150 hld  hQ hK61 h
    · replace h := itp h c36
      refine g_goto (tgt := 150) d_Mod_pot_119 (by decide) ?_
      refine Wp.loc (lv' := [(0, .ref 401), (1, .int v1), (2, .int v2), (3, .int v3), (4, .int v4), (5, .int v5)]) [0, 1, 2, 3, 4, 5] rfl ?_
      exact j_Mod_pot_150 hld  hQ hK61 h
def B_Mod_pot_61 (v1 : Int32) (v2 : Int32) (v3 : Int32) (v4 : Int32) (K61 : Int32 → gM → Option (Int32 × gM)) : Int32 → gM → Option (Int32 × gM) := fun v5 M =>
  (if v5 ≤ 0 then J_Mod_pot_156 v4 M else bI (F_Mod_isPot v5 M) (fun q26 => (if q26.1 = 0 then J_Mod_pot_150 K61 v1 v2 v3 v4 v5 q26.2 else (if (q26.2 401 59) < 0 then J_Mod_pot_96 K61 v1 v2 v3 v4 v5 q26.2 else bI (F_Mod_potPrice q26.2) (fun q45 => (if q45 ≤ (q26.2 401 60) then J_Mod_pot_96 K61 v1 v2 v3 v4 v5 q26.2 else J_Mod_pot_150 K61 v1 v2 v3 v4 v5 q26.2))))))
def H_Mod_pot_61 (v1 : Int32) (v2 : Int32) (v3 : Int32) (v4 : Int32) : Nat → Int32 → gM → Option (Int32 × gM) := lpK (B_Mod_pot_61 v1 v2 v3 v4) (fun _ _ => none)
set_option maxHeartbeats 4000000 in
set_option maxRecDepth 20000 in
theorem h_Mod_pot_61 {l : Launch} {ld : Nat} {Q : Option Value → gM → gL → gR → Prop} (hld : isLa ld)   {q : Int32 × gM} {L : gL} (hQ : Q (some (.int q.1)) q.2 L (rf ld))  {v1 : Int32} {v2 : Int32} {v3 : Int32} {v4 : Int32}  : ∀ (f : Nat) (v5 : Int32) (M : gM), H_Mod_pot_61 v1 v2 v3 v4 f v5 M = some q → Wp l y_Mod_pot (0, 0, 447) 447 0 0 61 [(0, .ref 401), (1, .int v1), (2, .int v2), (3, .int v3), (4, .int v4), (5, .int v5)] [] M L (rf ld) Q := by
  intro f
  induction f with
  | zero => intro v5 M h; cases h
  | succ f hK61 =>
    intro v5 M h
    replace h : B_Mod_pot_61 v1 v2 v3 v4 (H_Mod_pot_61 v1 v2 v3 v4 f) v5 M = some q := h
    unfold B_Mod_pot_61 at h
    refine g_iload (pc1 := 63) d_Mod_pot_61 rfl 5 rfl ?_
    refine g_if_le (pc1 := 66) (tgt := 156) d_Mod_pot_63 (by decide) rfl (fun c19 => ?_) (fun c19 => ?_)
    · replace h := itp h c19
      refine Wp.loc (lv' := [(0, .ref 401), (4, .int v4)]) [0, 4] rfl ?_
      exact j_Mod_pot_156 hld  hQ  h
    · replace h := itn h c19
      refine g_aload_n (pc1 := 67) d_Mod_pot_66 rfl 0 rfl ?_
      refine g_iload (pc1 := 69) d_Mod_pot_67 rfl 5 rfl ?_
      refine g_callV0 (pc1 := 72) (As := [.int v5]) (rest := []) d_Mod_pot_69 rfl mo_Mod_416 mi_Mod_isPot mv_Mod_isPot rfl sh_401 (by decide) (by decide) rfl rfl (Nat.le_of_ble_eq_true rfl) ?_
      obtain ⟨q26, hq27, h⟩ := bnd h
      refine f_Mod_isPot hld  hq27 ?_
      dsimp only [psh]
      refine g_if_eq (pc1 := 75) (tgt := 150) d_Mod_pot_72 (by decide) rfl (fun c28 => ?_) (fun c28 => ?_)
      · replace h := itp h c28
        exact j_Mod_pot_150 hld  hQ hK61 h
      · replace h := itn h c28
        refine g_aload_n (pc1 := 76) d_Mod_pot_75 rfl 0 rfl ?_
        refine g_geti (pc1 := 79) d_Mod_pot_76 rfl ⟨_, fo_Mod_404⟩ sh_401 (by decide) ?_
        refine g_if_lt (pc1 := 82) (tgt := 96) d_Mod_pot_79 (by decide) rfl (fun c30 => ?_) (fun c30 => ?_)
        · replace h := itp h c30
          exact j_Mod_pot_96 hld  hQ hK61 h
        · replace h := itn h c30
          refine g_aload_n (pc1 := 83) d_Mod_pot_82 rfl 0 rfl ?_
          refine g_callV0 (pc1 := 86) (As := []) (rest := []) d_Mod_pot_83 rfl mo_Mod_362 mi_Mod_potPrice mv_Mod_potPrice rfl sh_401 (by decide) (by decide) rfl rfl (Nat.le_of_ble_eq_true rfl) ?_
          obtain ⟨q45, hq46, h⟩ := bnd h
          refine f_Mod_potPrice hld  hq46 ?_
          dsimp only [psh]
          refine g_aload_n (pc1 := 87) d_Mod_pot_86 rfl 0 rfl ?_
          refine g_geti (pc1 := 90) d_Mod_pot_87 rfl ⟨_, fo_Mod_407⟩ sh_401 (by decide) ?_
          refine g_icmp_le (pc1 := 93) (tgt := 96) d_Mod_pot_90 (by decide) rfl (fun c47 => ?_) (fun c47 => ?_)
          · replace h := itp h c47
            exact j_Mod_pot_96 hld  hQ hK61 h
          · replace h := itn h c47
            refine g_goto (tgt := 150) d_Mod_pot_93 (by decide) ?_
            exact j_Mod_pot_150 hld  hQ hK61 h
def F_Mod_pot (p1 : Int32) (p2 : Int32) (p3 : Int32) (p4 : Int32) (M : gM) : Option (Int32 × gM) :=
  bI (F_Mod_in p1 0 99) (fun q1 => (if q1 = 0 then some ((-1), M) else bI (F_Mod_in p2 0 99) (fun q4 => (if q4 = 0 then some ((-1), M) else bI (F_Mod_in p3 0 99) (fun q7 => (if q7 = 0 then some ((-1), M) else bI (F_Mod_in p4 0 7) (fun q10 => (if q10 = 0 then some ((-1), M) else bI (F_Mod_copies M) (fun q13 => nmM (uM q13 401 59 (-1)) (fun M15 => bI (F_Mod_sevens 6) (fun q16 => nmI (q16 - 1) (fun x18 => H_Mod_pot_61 p1 p2 p3 p4 FU x18 M15))))))))))))
set_option maxHeartbeats 4000000 in
set_option maxRecDepth 20000 in
theorem f_Mod_pot {l : Launch} {ld : Nat} {M : gM} {L : gL} {Q : Option Value → gM → gL → gR → Prop} (hld : isLa ld) {p1 : Int32} {p2 : Int32} {p3 : Int32} {p4 : Int32}  {q : Int32 × gM} (h : F_Mod_pot p1 p2 p3 p4 M = some q) (hQ : Q (some (.int q.1)) q.2 L (rf ld)) : Tm l y_Mod_pot (0, 0, 447) 447 [.ref 401, .int p1, .int p2, .int p3, .int p4] M L (rf ld) Q := by
  refine Tm.of (by decide) (Nat.le_of_ble_eq_true rfl) ?_
  show Wp l y_Mod_pot (0, 0, 447) 447 0 0 0 [(0, .ref 401), (1, .int p1), (2, .int p2), (3, .int p3), (4, .int p4)] [] M L (rf ld) Q
  unfold F_Mod_pot at h
  refine g_iload_n (pc1 := 1) d_Mod_pot_0 rfl 1 rfl ?_
  refine g_iconst (pc1 := 2) (v := 0) d_Mod_pot_1 rfl (by decide) ?_
  refine g_bipush (pc1 := 4) (v := 99) d_Mod_pot_2 rfl (by decide) ?_
  refine g_callS0 (pc1 := 7) (As := [.int p1, .int 0, .int 99]) (rest := []) d_Mod_pot_4 rfl mo_Mod_316 ms_Mod_in (by decide) rfl rfl (Nat.le_of_ble_eq_true rfl) ?_
  obtain ⟨q1, hq2, h⟩ := bnd h
  refine f_Mod_in hld  hq2 ?_
  dsimp only [psh]
  refine g_if_eq (pc1 := 10) (tgt := 41) d_Mod_pot_7 (by decide) rfl (fun c3 => ?_) (fun c3 => ?_)
  · replace h := itp h c3
    refine g_iconst (pc1 := 42) (v := (-1)) d_Mod_pot_41 rfl (by decide) ?_
    refine g_ireturn (Or.inl rfl) d_Mod_pot_42 rfl ?_
    cases h; exact hQ
  · replace h := itn h c3
    refine g_iload_n (pc1 := 11) d_Mod_pot_10 rfl 2 rfl ?_
    refine g_iconst (pc1 := 12) (v := 0) d_Mod_pot_11 rfl (by decide) ?_
    refine g_bipush (pc1 := 14) (v := 99) d_Mod_pot_12 rfl (by decide) ?_
    refine g_callS0 (pc1 := 17) (As := [.int p2, .int 0, .int 99]) (rest := []) d_Mod_pot_14 rfl mo_Mod_316 ms_Mod_in (by decide) rfl rfl (Nat.le_of_ble_eq_true rfl) ?_
    obtain ⟨q4, hq5, h⟩ := bnd h
    refine f_Mod_in hld  hq5 ?_
    dsimp only [psh]
    refine g_if_eq (pc1 := 20) (tgt := 41) d_Mod_pot_17 (by decide) rfl (fun c6 => ?_) (fun c6 => ?_)
    · replace h := itp h c6
      refine g_iconst (pc1 := 42) (v := (-1)) d_Mod_pot_41 rfl (by decide) ?_
      refine g_ireturn (Or.inl rfl) d_Mod_pot_42 rfl ?_
      cases h; exact hQ
    · replace h := itn h c6
      refine g_iload_n (pc1 := 21) d_Mod_pot_20 rfl 3 rfl ?_
      refine g_iconst (pc1 := 22) (v := 0) d_Mod_pot_21 rfl (by decide) ?_
      refine g_bipush (pc1 := 24) (v := 99) d_Mod_pot_22 rfl (by decide) ?_
      refine g_callS0 (pc1 := 27) (As := [.int p3, .int 0, .int 99]) (rest := []) d_Mod_pot_24 rfl mo_Mod_316 ms_Mod_in (by decide) rfl rfl (Nat.le_of_ble_eq_true rfl) ?_
      obtain ⟨q7, hq8, h⟩ := bnd h
      refine f_Mod_in hld  hq8 ?_
      dsimp only [psh]
      refine g_if_eq (pc1 := 30) (tgt := 41) d_Mod_pot_27 (by decide) rfl (fun c9 => ?_) (fun c9 => ?_)
      · replace h := itp h c9
        refine g_iconst (pc1 := 42) (v := (-1)) d_Mod_pot_41 rfl (by decide) ?_
        refine g_ireturn (Or.inl rfl) d_Mod_pot_42 rfl ?_
        cases h; exact hQ
      · replace h := itn h c9
        refine g_iload (pc1 := 32) d_Mod_pot_30 rfl 4 rfl ?_
        refine g_iconst (pc1 := 33) (v := 0) d_Mod_pot_32 rfl (by decide) ?_
        refine g_bipush (pc1 := 35) (v := 7) d_Mod_pot_33 rfl (by decide) ?_
        refine g_callS0 (pc1 := 38) (As := [.int p4, .int 0, .int 7]) (rest := []) d_Mod_pot_35 rfl mo_Mod_316 ms_Mod_in (by decide) rfl rfl (Nat.le_of_ble_eq_true rfl) ?_
        obtain ⟨q10, hq11, h⟩ := bnd h
        refine f_Mod_in hld  hq11 ?_
        dsimp only [psh]
        refine g_if_ne (pc1 := 41) (tgt := 43) d_Mod_pot_38 (by decide) rfl (fun c12 => ?_) (fun c12 => ?_)
        · replace h := itn h c12
          refine g_aload_n (pc1 := 44) d_Mod_pot_43 rfl 0 rfl ?_
          refine g_callV0 (pc1 := 47) (As := []) (rest := []) d_Mod_pot_44 rfl mo_Mod_377 mi_Mod_copies mv_Mod_copies rfl sh_401 (by decide) (by decide) rfl rfl (Nat.le_of_ble_eq_true rfl) ?_
          obtain ⟨q13, hq14, h⟩ := bnd h
          refine f_Mod_copies hld  hq14 ?_
          dsimp only [psh]
          refine g_aload_n (pc1 := 48) d_Mod_pot_47 rfl 0 rfl ?_
          refine g_iconst (pc1 := 49) (v := (-1)) d_Mod_pot_48 rfl (by decide) ?_
          refine g_puti (pc1 := 52) d_Mod_pot_49 rfl fo_Mod_404 (po_12_59 _) sh_401 (by decide) ?_
          refine Wp.lM h (fun M15 h => ?_)
          refine g_bipush (pc1 := 54) (v := 6) d_Mod_pot_52 rfl (by decide) ?_
          refine g_callS0 (pc1 := 57) (As := [.int 6]) (rest := []) d_Mod_pot_54 rfl mo_Mod_401 ms_Mod_sevens (by decide) rfl rfl (Nat.le_of_ble_eq_true rfl) ?_
          obtain ⟨q16, hq17, h⟩ := bnd h
          refine f_Mod_sevens hld  hq17 ?_
          dsimp only [psh]
          refine g_iconst (pc1 := 58) (v := 1) d_Mod_pot_57 rfl (by decide) ?_
          refine g_isub (pc1 := 59) d_Mod_pot_58 rfl ?_
          refine Wp.lI h (fun x18 h => ?_)
          refine g_istore (pc1 := 61) (lv' := [(0, .ref 401), (1, .int p1), (2, .int p2), (3, .int p3), (4, .int p4), (5, .int x18)]) d_Mod_pot_59 rfl (by decide) [1, 2, 3, 4, 5, 0] rfl ?_
          exact h_Mod_pot_61 hld  hQ  _ x18 M15 h
        · replace h := itp h c12
          refine g_iconst (pc1 := 42) (v := (-1)) d_Mod_pot_41 rfl (by decide) ?_
          refine g_ireturn (Or.inl rfl) d_Mod_pot_42 rfl ?_
          cases h; exact hQ

def F_Mod_stockIn (p1 : Int32) (p2 : Int32) (M : gM) : Option (Int32 × gM) :=
  bI (F_Mod_isFood p1 M) (fun q1 => (if q1 = 0 then some ((-1), M) else bI (F_Mod_isLong p2) (fun q4 => (if q4 = 0 then some ((-1), M) else bI (F_Mod_copies M) (fun q7 => bI (F_Mod_goes p2 q7) (fun q9 => (if (p1 : Int32) < 0 ∨ 38 ≤ (p1 : Int32).toNatClampNeg then none else some ((q9 437 (p1 : Int32).toNatClampNeg), q9))))))))
set_option maxHeartbeats 4000000 in
set_option maxRecDepth 20000 in
theorem f_Mod_stockIn {l : Launch} {ld : Nat} {M : gM} {L : gL} {Q : Option Value → gM → gL → gR → Prop} (hld : isLa ld) {p1 : Int32} {p2 : Int32}  {q : Int32 × gM} (h : F_Mod_stockIn p1 p2 M = some q) (hQ : Q (some (.int q.1)) q.2 L (rf ld)) : Tm l y_Mod_stockIn (0, 0, 447) 447 [.ref 401, .int p1, .int p2] M L (rf ld) Q := by
  refine Tm.of (by decide) (Nat.le_of_ble_eq_true rfl) ?_
  show Wp l y_Mod_stockIn (0, 0, 447) 447 0 0 0 [(0, .ref 401), (1, .int p1), (2, .int p2)] [] M L (rf ld) Q
  unfold F_Mod_stockIn at h
  refine g_aload_n (pc1 := 1) d_Mod_stockIn_0 rfl 0 rfl ?_
  refine g_iload_n (pc1 := 2) d_Mod_stockIn_1 rfl 1 rfl ?_
  refine g_callV0 (pc1 := 5) (As := [.int p1]) (rest := []) d_Mod_stockIn_2 rfl mo_Mod_371 mi_Mod_isFood mv_Mod_isFood rfl sh_401 (by decide) (by decide) rfl rfl (Nat.le_of_ble_eq_true rfl) ?_
  obtain ⟨q1, hq2, h⟩ := bnd h
  refine f_Mod_isFood hld  hq2 ?_
  dsimp only [psh]
  refine g_if_eq (pc1 := 8) (tgt := 15) d_Mod_stockIn_5 (by decide) rfl (fun c3 => ?_) (fun c3 => ?_)
  · replace h := itp h c3
    refine g_iconst (pc1 := 16) (v := (-1)) d_Mod_stockIn_15 rfl (by decide) ?_
    refine g_ireturn (Or.inl rfl) d_Mod_stockIn_16 rfl ?_
    cases h; exact hQ
  · replace h := itn h c3
    refine g_iload_n (pc1 := 9) d_Mod_stockIn_8 rfl 2 rfl ?_
    refine g_callS0 (pc1 := 12) (As := [.int p2]) (rest := []) d_Mod_stockIn_9 rfl mo_Mod_446 ms_Mod_isLong (by decide) rfl rfl (Nat.le_of_ble_eq_true rfl) ?_
    obtain ⟨q4, hq5, h⟩ := bnd h
    refine f_Mod_isLong hld  hq5 ?_
    dsimp only [psh]
    refine g_if_ne (pc1 := 15) (tgt := 17) d_Mod_stockIn_12 (by decide) rfl (fun c6 => ?_) (fun c6 => ?_)
    · replace h := itn h c6
      refine g_aload_n (pc1 := 18) d_Mod_stockIn_17 rfl 0 rfl ?_
      refine g_callV0 (pc1 := 21) (As := []) (rest := []) d_Mod_stockIn_18 rfl mo_Mod_377 mi_Mod_copies mv_Mod_copies rfl sh_401 (by decide) (by decide) rfl rfl (Nat.le_of_ble_eq_true rfl) ?_
      obtain ⟨q7, hq8, h⟩ := bnd h
      refine f_Mod_copies hld  hq8 ?_
      dsimp only [psh]
      refine g_aload_n (pc1 := 22) d_Mod_stockIn_21 rfl 0 rfl ?_
      refine g_iload_n (pc1 := 23) d_Mod_stockIn_22 rfl 2 rfl ?_
      refine g_callV0 (pc1 := 26) (As := [.int p2]) (rest := []) d_Mod_stockIn_23 rfl mo_Mod_398 mi_Mod_goes mv_Mod_goes rfl sh_401 (by decide) (by decide) rfl rfl (Nat.le_of_ble_eq_true rfl) ?_
      obtain ⟨q9, hq10, h⟩ := bnd h
      refine f_Mod_goes hld  hq10 ?_
      dsimp only [psh]
      refine g_aload_n (pc1 := 27) d_Mod_stockIn_26 rfl 0 rfl ?_
      refine g_getr (pc1 := 30) d_Mod_stockIn_27 rfl ⟨_, fo_Mod_125⟩ sh_401 (by decide) (rf_401_53 ld) ?_
      refine g_iload_n (pc1 := 31) d_Mod_stockIn_30 rfl 1 rfl ?_
      obtain ⟨g11, h⟩ := gdn h
      refine g_iald (pc1 := 32) d_Mod_stockIn_31 rfl sh_437 (by decide) g11 ?_
      refine g_ireturn (Or.inl rfl) d_Mod_stockIn_32 rfl ?_
      cases h; exact hQ
    · replace h := itp h c6
      refine g_iconst (pc1 := 16) (v := (-1)) d_Mod_stockIn_15 rfl (by decide) ?_
      refine g_ireturn (Or.inl rfl) d_Mod_stockIn_16 rfl ?_
      cases h; exact hQ

