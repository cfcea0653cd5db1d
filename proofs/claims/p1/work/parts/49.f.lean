def J_Mod_tellLaw_129 (v1 : Int32) (v2 : Int32) (M : gM) : Option (gM) :=
  (if ((M 401 38) : Int32) < 0 ∨ 260 ≤ ((M 401 38) : Int32).toNatClampNeg then none else nmM (uM M 426 ((M 401 38) : Int32).toNatClampNeg (vp_nar .boolean 0)) (fun M6 => bI (F_Mod_term M6) (fun q7 => bI (F_Mod_must 4 q7) (fun q9 => (if (q9 401 13) ≤ 0 then (if (((4 * (q9 401 19)) + v1) : Int32) < 0 ∨ 8 ≤ (((4 * (q9 401 19)) + v1) : Int32).toNatClampNeg then none else nmM (uM q9 424 (((4 * (q9 401 19)) + v1) : Int32).toNatClampNeg v2) (fun M13 => (if (((4 * (M13 401 19)) + v1) : Int32) < 0 ∨ 8 ≤ (((4 * (M13 401 19)) + v1) : Int32).toNatClampNeg then none else nmM (uM M13 425 (((4 * (M13 401 19)) + v1) : Int32).toNatClampNeg (M13 401 38)) (fun M15 => some M15)))) else some q9)))))
set_option maxHeartbeats 4000000 in
set_option maxRecDepth 20000 in
theorem j_Mod_tellLaw_129 {l : Launch} {ld : Nat} {Q : Option Value → gM → gL → gR → Prop} (hld : isLa ld)   {q : gM} {M : gM} {L : gL} (hQ : Q none q L (rf ld))  {v1 : Int32} {v2 : Int32}  (h : J_Mod_tellLaw_129 v1 v2 M = some q) : Wp l y_Mod_tellLaw (0, 0, 447) 447 0 0 129 [(0, .ref 401), (1, .int v1), (2, .int v2)] [] M L (rf ld) Q := by
  unfold J_Mod_tellLaw_129 at h
  refine g_aload_n (pc1 := 130) d_Mod_tellLaw_129 rfl 0 rfl ?_
  refine g_getr (pc1 := 133) d_Mod_tellLaw_130 rfl ⟨_, fo_Mod_91⟩ sh_401 (by decide) (rf_401_39 ld) ?_
  refine g_aload_n (pc1 := 134) d_Mod_tellLaw_133 rfl 0 rfl ?_
  refine g_geti (pc1 := 137) d_Mod_tellLaw_134 rfl ⟨_, fo_Mod_245⟩ sh_401 (by decide) ?_
  refine g_iconst (pc1 := 138) (v := 0) d_Mod_tellLaw_137 rfl (by decide) ?_
  obtain ⟨g5, h⟩ := gdn h
  refine g_zast (pc1 := 139) d_Mod_tellLaw_138 rfl sh_426 (by decide) g5 ?_
  refine Wp.lM h (fun M6 h => ?_)
  refine g_aload_n (pc1 := 140) d_Mod_tellLaw_139 rfl 0 rfl ?_
  refine g_callV0 (pc1 := 143) (As := []) (rest := []) d_Mod_tellLaw_140 rfl mo_Mod_296 mi_Mod_term mv_Mod_term rfl sh_401 (by decide) (by decide) rfl rfl (Nat.le_of_ble_eq_true rfl) ?_
  obtain ⟨q7, hq8, h⟩ := bnd h
  refine f_Mod_term hld  hq8 ?_
  dsimp only [psh]
  refine g_aload_n (pc1 := 144) d_Mod_tellLaw_143 rfl 0 rfl ?_
  refine g_iconst (pc1 := 145) (v := 4) d_Mod_tellLaw_144 rfl (by decide) ?_
  refine g_callV0 (pc1 := 148) (As := [.int 4]) (rest := []) d_Mod_tellLaw_145 rfl mo_Mod_281 mi_Mod_must mv_Mod_must rfl sh_401 (by decide) (by decide) rfl rfl (Nat.le_of_ble_eq_true rfl) ?_
  obtain ⟨q9, hq10, h⟩ := bnd h
  refine f_Mod_must hld  hq10 ?_
  dsimp only [psh]
  refine g_aload_n (pc1 := 149) d_Mod_tellLaw_148 rfl 0 rfl ?_
  refine g_geti (pc1 := 152) d_Mod_tellLaw_149 rfl ⟨_, fo_Mod_206⟩ sh_401 (by decide) ?_
  refine g_if_le (pc1 := 155) (tgt := 156) d_Mod_tellLaw_152 (by decide) rfl (fun c11 => ?_) (fun c11 => ?_)
  · replace h := itp h c11
    refine g_aload_n (pc1 := 157) d_Mod_tellLaw_156 rfl 0 rfl ?_
    refine g_getr (pc1 := 160) d_Mod_tellLaw_157 rfl ⟨_, fo_Mod_85⟩ sh_401 (by decide) (rf_401_36 ld) ?_
    refine g_iconst (pc1 := 161) (v := 4) d_Mod_tellLaw_160 rfl (by decide) ?_
    refine g_aload_n (pc1 := 162) d_Mod_tellLaw_161 rfl 0 rfl ?_
    refine g_geti (pc1 := 165) d_Mod_tellLaw_162 rfl ⟨_, fo_Mod_239⟩ sh_401 (by decide) ?_
    refine g_imul (pc1 := 166) d_Mod_tellLaw_165 rfl ?_
    refine g_iload_n (pc1 := 167) d_Mod_tellLaw_166 rfl 1 rfl ?_
    refine g_iadd (pc1 := 168) d_Mod_tellLaw_167 rfl ?_
    refine g_iload_n (pc1 := 169) d_Mod_tellLaw_168 rfl 2 rfl ?_
    obtain ⟨g12, h⟩ := gdn h
    refine g_iast (pc1 := 170) d_Mod_tellLaw_169 rfl sh_424 (by decide) g12 ?_
    refine Wp.lM h (fun M13 h => ?_)
    refine g_aload_n (pc1 := 171) d_Mod_tellLaw_170 rfl 0 rfl ?_
    refine g_getr (pc1 := 174) d_Mod_tellLaw_171 rfl ⟨_, fo_Mod_88⟩ sh_401 (by decide) (rf_401_37 ld) ?_
    refine g_iconst (pc1 := 175) (v := 4) d_Mod_tellLaw_174 rfl (by decide) ?_
    refine g_aload_n (pc1 := 176) d_Mod_tellLaw_175 rfl 0 rfl ?_
    refine g_geti (pc1 := 179) d_Mod_tellLaw_176 rfl ⟨_, fo_Mod_239⟩ sh_401 (by decide) ?_
    refine g_imul (pc1 := 180) d_Mod_tellLaw_179 rfl ?_
    refine g_iload_n (pc1 := 181) d_Mod_tellLaw_180 rfl 1 rfl ?_
    refine g_iadd (pc1 := 182) d_Mod_tellLaw_181 rfl ?_
    refine g_aload_n (pc1 := 183) d_Mod_tellLaw_182 rfl 0 rfl ?_
    refine g_geti (pc1 := 186) d_Mod_tellLaw_183 rfl ⟨_, fo_Mod_245⟩ sh_401 (by decide) ?_
    obtain ⟨g14, h⟩ := gdn h
    refine g_iast (pc1 := 187) d_Mod_tellLaw_186 rfl sh_425 (by decide) g14 ?_
    refine Wp.lM h (fun M15 h => ?_)
    refine g_return rfl d_Mod_tellLaw_187 rfl ?_
    cases h; exact hQ
  · replace h := itn h c11
    refine g_return rfl d_Mod_tellLaw_155 rfl ?_
    cases h; exact hQ
def J_Mod_tellLaw_110 (K12 : Int32 → gM → Option (gM)) (v1 : Int32) (v2 : Int32) (v3 : Int32) (M : gM) : Option (gM) :=
  bI (F_Mod_must 30 M) (fun q35 => bI (F_Mod_term q35) (fun q37 => bI (F_Mod_must 31 q37) (fun q39 => K12 v3 q39)))
set_option maxHeartbeats 4000000 in
set_option maxRecDepth 20000 in
theorem j_Mod_tellLaw_110 {l : Launch} {ld : Nat} {Q : Option Value → gM → gL → gR → Prop} (hld : isLa ld)   {q : gM} {M : gM} {L : gL} (hQ : Q none q L (rf ld)) {K12 : Int32 → gM → Option (gM)} {v1 : Int32} {v2 : Int32} {v3 : Int32} (hK12 : ∀ (w3 : Int32) (M : gM), K12 w3 M = some q → Wp l y_Mod_tellLaw (0, 0, 447) 447 0 0 12 [(0, .ref 401), (1, .int v1), (2, .int v2), (3, .int w3)] [] M L (rf ld) Q) (h : J_Mod_tellLaw_110 K12 v1 v2 v3 M = some q) : Wp l y_Mod_tellLaw (0, 0, 447) 447 0 0 110 [(0, .ref 401), (1, .int v1), (2, .int v2), (3, .int v3)] [] M L (rf ld) Q := by
  unfold J_Mod_tellLaw_110 at h
  refine g_aload_n (pc1 := 111) d_Mod_tellLaw_110 rfl 0 rfl ?_
  refine g_bipush (pc1 := 113) (v := 30) d_Mod_tellLaw_111 rfl (by decide) ?_
  refine g_callV0 (pc1 := 116) (As := [.int 30]) (rest := []) d_Mod_tellLaw_113 rfl mo_Mod_281 mi_Mod_must mv_Mod_must rfl sh_401 (by decide) (by decide) rfl rfl (Nat.le_of_ble_eq_true rfl) ?_
  obtain ⟨q35, hq36, h⟩ := bnd h
  refine f_Mod_must hld  hq36 ?_
  dsimp only [psh]
  refine g_aload_n (pc1 := 117) d_Mod_tellLaw_116 rfl 0 rfl ?_
  refine g_callV0 (pc1 := 120) (As := []) (rest := []) d_Mod_tellLaw_117 rfl mo_Mod_296 mi_Mod_term mv_Mod_term rfl sh_401 (by decide) (by decide) rfl rfl (Nat.le_of_ble_eq_true rfl) ?_
  obtain ⟨q37, hq38, h⟩ := bnd h
  refine f_Mod_term hld  hq38 ?_
  dsimp only [psh]
  refine g_aload_n (pc1 := 121) d_Mod_tellLaw_120 rfl 0 rfl ?_
  refine g_bipush (pc1 := 123) (v := 31) d_Mod_tellLaw_121 rfl (by decide) ?_
  refine g_callV0 (pc1 := 126) (As := [.int 31]) (rest := []) d_Mod_tellLaw_123 rfl mo_Mod_281 mi_Mod_must mv_Mod_must rfl sh_401 (by decide) (by decide) rfl rfl (Nat.le_of_ble_eq_true rfl) ?_
  obtain ⟨q39, hq40, h⟩ := bnd h
  refine f_Mod_must hld  hq40 ?_
  dsimp only [psh]
  refine g_goto (tgt := 12) d_Mod_tellLaw_126 (by decide) ?_
  exact hK12 v3 q39 h
def J_Mod_tellLaw_38 (K12 : Int32 → gM → Option (gM)) (v1 : Int32) (v2 : Int32) (v3 : Int32) (M : gM) : Option (gM) :=
  (if (M 401 13) ≤ 0 then nmI (v3 + 1) (fun x21 => bI (F_Mod_goesOn M) (fun q22 => (if ((q22 401 38) : Int32) < 0 ∨ 260 ≤ ((q22 401 38) : Int32).toNatClampNeg then none else nmM (uM q22 426 ((q22 401 38) : Int32).toNatClampNeg (vp_nar .boolean 1)) (fun M25 => (if ((M25 401 38) : Int32) < 0 ∨ 260 ≤ ((M25 401 38) : Int32).toNatClampNeg then none else nmM (uM M25 427 ((M25 401 38) : Int32).toNatClampNeg (M25 401 44)) (fun M27 => bI (F_Mod_expression M27) (fun q28 => bI (F_Mod_must 13 q28) (fun q30 => (if ((q30 401 38) : Int32) < 0 ∨ 260 ≤ ((q30 401 38) : Int32).toNatClampNeg then none else nmM (uM q30 428 ((q30 401 38) : Int32).toNatClampNeg (q30 401 44)) (fun M33 => (if (M33 401 13) = 0 then bI (F_Mod_expression M33) (fun q41 => J_Mod_tellLaw_110 K12 v1 v2 x21 q41) else J_Mod_tellLaw_110 K12 v1 v2 x21 M33))))))))))) else some M)
set_option maxHeartbeats 4000000 in
set_option maxRecDepth 20000 in
theorem j_Mod_tellLaw_38 {l : Launch} {ld : Nat} {Q : Option Value → gM → gL → gR → Prop} (hld : isLa ld)   {q : gM} {M : gM} {L : gL} (hQ : Q none q L (rf ld)) {K12 : Int32 → gM → Option (gM)} {v1 : Int32} {v2 : Int32} {v3 : Int32} (hK12 : ∀ (w3 : Int32) (M : gM), K12 w3 M = some q → Wp l y_Mod_tellLaw (0, 0, 447) 447 0 0 12 [(0, .ref 401), (1, .int v1), (2, .int v2), (3, .int w3)] [] M L (rf ld) Q) (h : J_Mod_tellLaw_38 K12 v1 v2 v3 M = some q) : Wp l y_Mod_tellLaw (0, 0, 447) 447 0 0 38 [(0, .ref 401), (1, .int v1), (2, .int v2), (3, .int v3)] [] M L (rf ld) Q := by
  unfold J_Mod_tellLaw_38 at h
  refine g_aload_n (pc1 := 39) d_Mod_tellLaw_38 rfl 0 rfl ?_
  refine g_geti (pc1 := 42) d_Mod_tellLaw_39 rfl ⟨_, fo_Mod_206⟩ sh_401 (by decide) ?_
  refine g_if_le (pc1 := 45) (tgt := 46) d_Mod_tellLaw_42 (by decide) rfl (fun c20 => ?_) (fun c20 => ?_)
  · replace h := itp h c20
    obtain ⟨x21, ex21, h⟩ := ltI h
    refine g_iinc (pc1 := 49) (v := x21) (lv' := [(0, .ref 401), (1, .int v1), (2, .int v2), (3, .int x21)]) d_Mod_tellLaw_46 rfl 3 rfl (by rw [ex21]; rfl) (by decide) [1, 2, 3, 0] rfl ?_
    refine g_aload_n (pc1 := 50) d_Mod_tellLaw_49 rfl 0 rfl ?_
    refine g_callV0 (pc1 := 53) (As := []) (rest := []) d_Mod_tellLaw_50 rfl mo_Mod_227 mi_Mod_goesOn mv_Mod_goesOn rfl sh_401 (by decide) (by decide) rfl rfl (Nat.le_of_ble_eq_true rfl) ?_
    obtain ⟨q22, hq23, h⟩ := bnd h
    refine f_Mod_goesOn hld  hq23 ?_
    dsimp only [psh]
    refine g_aload_n (pc1 := 54) d_Mod_tellLaw_53 rfl 0 rfl ?_
    refine g_getr (pc1 := 57) d_Mod_tellLaw_54 rfl ⟨_, fo_Mod_91⟩ sh_401 (by decide) (rf_401_39 ld) ?_
    refine g_aload_n (pc1 := 58) d_Mod_tellLaw_57 rfl 0 rfl ?_
    refine g_geti (pc1 := 61) d_Mod_tellLaw_58 rfl ⟨_, fo_Mod_245⟩ sh_401 (by decide) ?_
    refine g_iconst (pc1 := 62) (v := 1) d_Mod_tellLaw_61 rfl (by decide) ?_
    obtain ⟨g24, h⟩ := gdn h
    refine g_zast (pc1 := 63) d_Mod_tellLaw_62 rfl sh_426 (by decide) g24 ?_
    refine Wp.lM h (fun M25 h => ?_)
    refine g_aload_n (pc1 := 64) d_Mod_tellLaw_63 rfl 0 rfl ?_
    refine g_getr (pc1 := 67) d_Mod_tellLaw_64 rfl ⟨_, fo_Mod_95⟩ sh_401 (by decide) (rf_401_40 ld) ?_
    refine g_aload_n (pc1 := 68) d_Mod_tellLaw_67 rfl 0 rfl ?_
    refine g_geti (pc1 := 71) d_Mod_tellLaw_68 rfl ⟨_, fo_Mod_245⟩ sh_401 (by decide) ?_
    refine g_aload_n (pc1 := 72) d_Mod_tellLaw_71 rfl 0 rfl ?_
    refine g_geti (pc1 := 75) d_Mod_tellLaw_72 rfl ⟨_, fo_Mod_248⟩ sh_401 (by decide) ?_
    obtain ⟨g26, h⟩ := gdn h
    refine g_iast (pc1 := 76) d_Mod_tellLaw_75 rfl sh_427 (by decide) g26 ?_
    refine Wp.lM h (fun M27 h => ?_)
    refine g_aload_n (pc1 := 77) d_Mod_tellLaw_76 rfl 0 rfl ?_
    refine g_callV0 (pc1 := 80) (As := []) (rest := []) d_Mod_tellLaw_77 rfl mo_Mod_293 mi_Mod_expression mv_Mod_expression rfl sh_401 (by decide) (by decide) rfl rfl (Nat.le_of_ble_eq_true rfl) ?_
    obtain ⟨q28, hq29, h⟩ := bnd h
    refine f_Mod_expression hld  hq29 ?_
    dsimp only [psh]
    refine g_aload_n (pc1 := 81) d_Mod_tellLaw_80 rfl 0 rfl ?_
    refine g_bipush (pc1 := 83) (v := 13) d_Mod_tellLaw_81 rfl (by decide) ?_
    refine g_callV0 (pc1 := 86) (As := [.int 13]) (rest := []) d_Mod_tellLaw_83 rfl mo_Mod_281 mi_Mod_must mv_Mod_must rfl sh_401 (by decide) (by decide) rfl rfl (Nat.le_of_ble_eq_true rfl) ?_
    obtain ⟨q30, hq31, h⟩ := bnd h
    refine f_Mod_must hld  hq31 ?_
    dsimp only [psh]
    refine g_aload_n (pc1 := 87) d_Mod_tellLaw_86 rfl 0 rfl ?_
    refine g_getr (pc1 := 90) d_Mod_tellLaw_87 rfl ⟨_, fo_Mod_98⟩ sh_401 (by decide) (rf_401_41 ld) ?_
    refine g_aload_n (pc1 := 91) d_Mod_tellLaw_90 rfl 0 rfl ?_
    refine g_geti (pc1 := 94) d_Mod_tellLaw_91 rfl ⟨_, fo_Mod_245⟩ sh_401 (by decide) ?_
    refine g_aload_n (pc1 := 95) d_Mod_tellLaw_94 rfl 0 rfl ?_
    refine g_geti (pc1 := 98) d_Mod_tellLaw_95 rfl ⟨_, fo_Mod_248⟩ sh_401 (by decide) ?_
    obtain ⟨g32, h⟩ := gdn h
    refine g_iast (pc1 := 99) d_Mod_tellLaw_98 rfl sh_428 (by decide) g32 ?_
    refine Wp.lM h (fun M33 h => ?_)
    refine g_aload_n (pc1 := 100) d_Mod_tellLaw_99 rfl 0 rfl ?_
    refine g_geti (pc1 := 103) d_Mod_tellLaw_100 rfl ⟨_, fo_Mod_206⟩ sh_401 (by decide) ?_
    refine g_if_ne (pc1 := 106) (tgt := 110) d_Mod_tellLaw_103 (by decide) rfl (fun c34 => ?_) (fun c34 => ?_)
    · replace h := itn h c34
      exact j_Mod_tellLaw_110 hld  hQ hK12 h
    · replace h := itp h c34
      refine g_aload_n (pc1 := 107) d_Mod_tellLaw_106 rfl 0 rfl ?_
      refine g_callV0 (pc1 := 110) (As := []) (rest := []) d_Mod_tellLaw_107 rfl mo_Mod_293 mi_Mod_expression mv_Mod_expression rfl sh_401 (by decide) (by decide) rfl rfl (Nat.le_of_ble_eq_true rfl) ?_
      obtain ⟨q41, hq42, h⟩ := bnd h
      refine f_Mod_expression hld  hq42 ?_
      dsimp only [psh]
      exact j_Mod_tellLaw_110 hld  hQ hK12 h
  · replace h := itn h c20
    refine g_return rfl d_Mod_tellLaw_45 rfl ?_
    cases h; exact hQ
def B_Mod_tellLaw_12 (v1 : Int32) (v2 : Int32) (K12 : Int32 → gM → Option (gM)) : Int32 → gM → Option (gM) := fun v3 M =>
  (if (M 401 13) = 0 then bI (F_Mod_is 29 M) (fun q16 => (if q16 = 0 then J_Mod_tellLaw_129 v1 v2 M else (if v3 = 4 then bI (F_Mod_fail 2 M) (fun q43 => J_Mod_tellLaw_38 K12 v1 v2 v3 q43) else J_Mod_tellLaw_38 K12 v1 v2 v3 M))) else J_Mod_tellLaw_129 v1 v2 M)
def H_Mod_tellLaw_12 (v1 : Int32) (v2 : Int32) : Nat → Int32 → gM → Option (gM) := lpK (B_Mod_tellLaw_12 v1 v2) (fun _ _ => none)
set_option maxHeartbeats 4000000 in
set_option maxRecDepth 20000 in
theorem h_Mod_tellLaw_12 {l : Launch} {ld : Nat} {Q : Option Value → gM → gL → gR → Prop} (hld : isLa ld)   {q : gM} {L : gL} (hQ : Q none q L (rf ld))  {v1 : Int32} {v2 : Int32}  : ∀ (f : Nat) (v3 : Int32) (M : gM), H_Mod_tellLaw_12 v1 v2 f v3 M = some q → Wp l y_Mod_tellLaw (0, 0, 447) 447 0 0 12 [(0, .ref 401), (1, .int v1), (2, .int v2), (3, .int v3)] [] M L (rf ld) Q := by
  intro f
  induction f with
  | zero => intro v3 M h; cases h
  | succ f hK12 =>
    intro v3 M h
    replace h : B_Mod_tellLaw_12 v1 v2 (H_Mod_tellLaw_12 v1 v2 f) v3 M = some q := h
    unfold B_Mod_tellLaw_12 at h
    refine g_aload_n (pc1 := 13) d_Mod_tellLaw_12 rfl 0 rfl ?_
    refine g_geti (pc1 := 16) d_Mod_tellLaw_13 rfl ⟨_, fo_Mod_206⟩ sh_401 (by decide) ?_
    refine g_if_ne (pc1 := 19) (tgt := 129) d_Mod_tellLaw_16 (by decide) rfl (fun c4 => ?_) (fun c4 => ?_)
    · replace h := itn h c4
      refine Wp.loc (lv' := [(0, .ref 401), (1, .int v1), (2, .int v2)]) [0, 1, 2] rfl ?_
      exact j_Mod_tellLaw_129 hld  hQ  h
    · replace h := itp h c4
      refine g_aload_n (pc1 := 20) d_Mod_tellLaw_19 rfl 0 rfl ?_
      refine g_bipush (pc1 := 22) (v := 29) d_Mod_tellLaw_20 rfl (by decide) ?_
      refine g_callV0 (pc1 := 25) (As := [.int 29]) (rest := []) d_Mod_tellLaw_22 rfl mo_Mod_224 mi_Mod_is mv_Mod_is rfl sh_401 (by decide) (by decide) rfl rfl (Nat.le_of_ble_eq_true rfl) ?_
      obtain ⟨q16, hq17, h⟩ := bnd h
      refine f_Mod_is hld  hq17 ?_
      dsimp only [psh]
      refine g_if_eq (pc1 := 28) (tgt := 129) d_Mod_tellLaw_25 (by decide) rfl (fun c18 => ?_) (fun c18 => ?_)
      · replace h := itp h c18
        refine Wp.loc (lv' := [(0, .ref 401), (1, .int v1), (2, .int v2)]) [0, 1, 2] rfl ?_
        exact j_Mod_tellLaw_129 hld  hQ  h
      · replace h := itn h c18
        refine g_iload_n (pc1 := 29) d_Mod_tellLaw_28 rfl 3 rfl ?_
        refine g_iconst (pc1 := 30) (v := 4) d_Mod_tellLaw_29 rfl (by decide) ?_
        refine g_icmp_ne (pc1 := 33) (tgt := 38) d_Mod_tellLaw_30 (by decide) rfl (fun c19 => ?_) (fun c19 => ?_)
        · replace h := itn h c19
          exact j_Mod_tellLaw_38 hld  hQ hK12 h
        · replace h := itp h c19
          refine g_aload_n (pc1 := 34) d_Mod_tellLaw_33 rfl 0 rfl ?_
          refine g_iconst (pc1 := 35) (v := 2) d_Mod_tellLaw_34 rfl (by decide) ?_
          refine g_callV0 (pc1 := 38) (As := [.int 2]) (rest := []) d_Mod_tellLaw_35 rfl mo_Mod_221 mi_Mod_fail mv_Mod_fail rfl sh_401 (by decide) (by decide) rfl rfl (Nat.le_of_ble_eq_true rfl) ?_
          obtain ⟨q43, hq44, h⟩ := bnd h
          refine f_Mod_fail hld  hq44 ?_
          dsimp only [psh]
          exact j_Mod_tellLaw_38 hld  hQ hK12 h
def F_Mod_tellLaw (p1 : Int32) (M : gM) : Option (gM) :=
  bI (F_Mod_must 5 M) (fun q1 => nmI (q1 401 38) (fun x3 => H_Mod_tellLaw_12 p1 x3 FU 0 q1))
set_option maxHeartbeats 4000000 in
set_option maxRecDepth 20000 in
theorem f_Mod_tellLaw {l : Launch} {ld : Nat} {M : gM} {L : gL} {Q : Option Value → gM → gL → gR → Prop} (hld : isLa ld) {p1 : Int32}  {q : gM} (h : F_Mod_tellLaw p1 M = some q) (hQ : Q none q L (rf ld)) : Tm l y_Mod_tellLaw (0, 0, 447) 447 [.ref 401, .int p1] M L (rf ld) Q := by
  refine Tm.of (by decide) (Nat.le_of_ble_eq_true rfl) ?_
  show Wp l y_Mod_tellLaw (0, 0, 447) 447 0 0 0 [(0, .ref 401), (1, .int p1)] [] M L (rf ld) Q
  unfold F_Mod_tellLaw at h
  refine g_aload_n (pc1 := 1) d_Mod_tellLaw_0 rfl 0 rfl ?_
  refine g_iconst (pc1 := 2) (v := 5) d_Mod_tellLaw_1 rfl (by decide) ?_
  refine g_callV0 (pc1 := 5) (As := [.int 5]) (rest := []) d_Mod_tellLaw_2 rfl mo_Mod_281 mi_Mod_must mv_Mod_must rfl sh_401 (by decide) (by decide) rfl rfl (Nat.le_of_ble_eq_true rfl) ?_
  obtain ⟨q1, hq2, h⟩ := bnd h
  refine f_Mod_must hld  hq2 ?_
  dsimp only [psh]
  refine g_aload_n (pc1 := 6) d_Mod_tellLaw_5 rfl 0 rfl ?_
  refine g_geti (pc1 := 9) d_Mod_tellLaw_6 rfl ⟨_, fo_Mod_245⟩ sh_401 (by decide) ?_
  refine Wp.lI h (fun x3 h => ?_)
  refine g_istore_n (pc1 := 10) (lv' := [(0, .ref 401), (1, .int p1), (2, .int x3)]) d_Mod_tellLaw_9 rfl rfl (by decide) [1, 2, 0] rfl ?_
  refine g_iconst (pc1 := 11) (v := 0) d_Mod_tellLaw_10 rfl (by decide) ?_
  refine g_istore_n (pc1 := 12) (lv' := [(0, .ref 401), (1, .int p1), (2, .int x3), (3, .int 0)]) d_Mod_tellLaw_11 rfl rfl (by decide) [1, 2, 3, 0] rfl ?_
  exact h_Mod_tellLaw_12 hld  hQ  _ 0 q1 h

def J_Mod_year_105 (K61 : Int32 → Int32 → gM → Option (Int32 × gM)) (v1 : Int32) (v2 : Int32) (v3 : Int32) (v4 : Int32) (v5 : Int32) (v6 : Int32) (M : gM) : Option (Int32 × gM) :=
  nmI (v6 + 1) (fun x26 => K61 v5 x26 M)
set_option maxHeartbeats 4000000 in
set_option maxRecDepth 20000 in
theorem j_Mod_year_105 {l : Launch} {ld : Nat} {Q : Option Value → gM → gL → gR → Prop} (hld : isLa ld)   {q : Int32 × gM} {M : gM} {L : gL} (hQ : Q (some (.int q.1)) q.2 L (rf ld)) {K61 : Int32 → Int32 → gM → Option (Int32 × gM)} {v1 : Int32} {v2 : Int32} {v3 : Int32} {v4 : Int32} {v5 : Int32} {v6 : Int32} (hK61 : ∀ (w5 : Int32) (w6 : Int32) (M : gM), K61 w5 w6 M = some q → Wp l y_Mod_year (0, 0, 447) 447 0 0 61 [(0, .ref 401), (1, .int v1), (2, .int v2), (3, .int v3), (4, .int v4), (5, .int w5), (6, .int w6)] [] M L (rf ld) Q) (h : J_Mod_year_105 K61 v1 v2 v3 v4 v5 v6 M = some q) : Wp l y_Mod_year (0, 0, 447) 447 0 0 105 [(0, .ref 401), (1, .int v1), (2, .int v2), (3, .int v3), (4, .int v4), (5, .int v5), (6, .int v6)] [] M L (rf ld) Q := by
  unfold J_Mod_year_105 at h
  obtain ⟨x26, ex26, h⟩ := ltI h
  refine g_iinc (pc1 := 108) (v := x26) (lv' := [(0, .ref 401), (1, .int v1), (2, .int v2), (3, .int v3), (4, .int v4), (5, .int v5), (6, .int x26)]) d_Mod_year_105 rfl 6 rfl (by rw [ex26]; rfl) (by decide) [1, 2, 3, 4, 5, 6, 0] rfl ?_
  refine g_goto (tgt := 61) d_Mod_year_108 (by decide) ?_
  exact hK61 v5 x26 M h
def B_Mod_year_61 (v1 : Int32) (v2 : Int32) (v3 : Int32) (v4 : Int32) (K61 : Int32 → Int32 → gM → Option (Int32 × gM)) : Int32 → Int32 → gM → Option (Int32 × gM) := fun v5 v6 M =>
  (if v4 ≤ v6 then some (v5, M) else bI (F_Mod_copies M) (fun q19 => nmM (uM q19 401 54 ((q19 401 54) + v6)) (fun M21 => bI (F_Mod_cooks v1 M21) (fun q22 => (if ((12 + v2) : Int32) < 0 ∨ 38 ≤ ((12 + v2) : Int32).toNatClampNeg then none else (if (q22.2 437 ((12 + v2) : Int32).toNatClampNeg) < v3 then J_Mod_year_105 K61 v1 v2 v3 v4 v5 v6 q22.2 else nmI (v5 + 1) (fun x27 => J_Mod_year_105 K61 v1 v2 v3 v4 x27 v6 q22.2)))))))
def H_Mod_year_61 (v1 : Int32) (v2 : Int32) (v3 : Int32) (v4 : Int32) : Nat → Int32 → Int32 → gM → Option (Int32 × gM) := lpK (B_Mod_year_61 v1 v2 v3 v4) (fun _ _ _ => none)
set_option maxHeartbeats 4000000 in
set_option maxRecDepth 20000 in
theorem h_Mod_year_61 {l : Launch} {ld : Nat} {Q : Option Value → gM → gL → gR → Prop} (hld : isLa ld)   {q : Int32 × gM} {L : gL} (hQ : Q (some (.int q.1)) q.2 L (rf ld))  {v1 : Int32} {v2 : Int32} {v3 : Int32} {v4 : Int32}  : ∀ (f : Nat) (v5 : Int32) (v6 : Int32) (M : gM), H_Mod_year_61 v1 v2 v3 v4 f v5 v6 M = some q → Wp l y_Mod_year (0, 0, 447) 447 0 0 61 [(0, .ref 401), (1, .int v1), (2, .int v2), (3, .int v3), (4, .int v4), (5, .int v5), (6, .int v6)] [] M L (rf ld) Q := by
  intro f
  induction f with
  | zero => intro v5 v6 M h; cases h
  | succ f hK61 =>
    intro v5 v6 M h
    replace h : B_Mod_year_61 v1 v2 v3 v4 (H_Mod_year_61 v1 v2 v3 v4 f) v5 v6 M = some q := h
    unfold B_Mod_year_61 at h
    refine g_iload (pc1 := 63) d_Mod_year_61 rfl 6 rfl ?_
    refine g_iload (pc1 := 65) d_Mod_year_63 rfl 4 rfl ?_
    refine g_icmp_ge (pc1 := 68) (tgt := 111) d_Mod_year_65 (by decide) rfl (fun c18 => ?_) (fun c18 => ?_)
    · replace h := itp h c18
      refine g_iload (pc1 := 113) d_Mod_year_111 rfl 5 rfl ?_
      refine g_ireturn (Or.inl rfl) d_Mod_year_113 rfl ?_
      cases h; exact hQ
    · replace h := itn h c18
      refine g_aload_n (pc1 := 69) d_Mod_year_68 rfl 0 rfl ?_
      refine g_callV0 (pc1 := 72) (As := []) (rest := []) d_Mod_year_69 rfl mo_Mod_377 mi_Mod_copies mv_Mod_copies rfl sh_401 (by decide) (by decide) rfl rfl (Nat.le_of_ble_eq_true rfl) ?_
      obtain ⟨q19, hq20, h⟩ := bnd h
      refine f_Mod_copies hld  hq20 ?_
      dsimp only [psh]
      refine g_aload_n (pc1 := 73) d_Mod_year_72 rfl 0 rfl ?_
      refine g_dup (pc1 := 74) d_Mod_year_73 rfl rfl ?_
      refine g_geti (pc1 := 77) d_Mod_year_74 rfl ⟨_, fo_Mod_320⟩ sh_401 (by decide) ?_
      refine g_iload (pc1 := 79) d_Mod_year_77 rfl 6 rfl ?_
      refine g_iadd (pc1 := 80) d_Mod_year_79 rfl ?_
      refine g_puti (pc1 := 83) d_Mod_year_80 rfl fo_Mod_320 (po_12_54 _) sh_401 (by decide) ?_
      refine Wp.lM h (fun M21 h => ?_)
      refine g_aload_n (pc1 := 84) d_Mod_year_83 rfl 0 rfl ?_
      refine g_iload_n (pc1 := 85) d_Mod_year_84 rfl 1 rfl ?_
      refine g_callV0 (pc1 := 88) (As := [.int v1]) (rest := []) d_Mod_year_85 rfl mo_Mod_389 mi_Mod_cooks mv_Mod_cooks rfl sh_401 (by decide) (by decide) rfl rfl (Nat.le_of_ble_eq_true rfl) ?_
      obtain ⟨q22, hq23, h⟩ := bnd h
      refine f_Mod_cooks hld  hq23 ?_
      dsimp only [psh]
      refine g_pop (pc1 := 89) d_Mod_year_88 rfl rfl ?_
      refine g_aload_n (pc1 := 90) d_Mod_year_89 rfl 0 rfl ?_
      refine g_getr (pc1 := 93) d_Mod_year_90 rfl ⟨_, fo_Mod_125⟩ sh_401 (by decide) (rf_401_53 ld) ?_
      refine g_bipush (pc1 := 95) (v := 12) d_Mod_year_93 rfl (by decide) ?_
      refine g_iload_n (pc1 := 96) d_Mod_year_95 rfl 2 rfl ?_
      refine g_iadd (pc1 := 97) d_Mod_year_96 rfl ?_
      obtain ⟨g24, h⟩ := gdn h
      refine g_iald (pc1 := 98) d_Mod_year_97 rfl sh_437 (by decide) g24 ?_
      refine g_iload_n (pc1 := 99) d_Mod_year_98 rfl 3 rfl ?_
      refine g_icmp_lt (pc1 := 102) (tgt := 105) d_Mod_year_99 (by decide) rfl (fun c25 => ?_) (fun c25 => ?_)
      · replace h := itp h c25
        exact j_Mod_year_105 hld  hQ hK61 h
      · replace h := itn h c25
        obtain ⟨x27, ex27, h⟩ := ltI h
        refine g_iinc (pc1 := 105) (v := x27) (lv' := [(0, .ref 401), (1, .int v1), (2, .int v2), (3, .int v3), (4, .int v4), (5, .int x27), (6, .int v6)]) d_Mod_year_102 rfl 5 rfl (by rw [ex27]; rfl) (by decide) [1, 2, 3, 4, 5, 0, 6] rfl ?_
        exact j_Mod_year_105 hld  hQ hK61 h
def F_Mod_year (p1 : Int32) (p2 : Int32) (p3 : Int32) (p4 : Int32) (M : gM) : Option (Int32 × gM) :=
  bI (F_Mod_isDish p1 M) (fun q1 => (if q1 = 0 then some ((-1), M) else bI (F_Mod_in p2 0 2) (fun q4 => (if q4 = 0 then some ((-1), M) else bI (F_Mod_in p3 0 99) (fun q7 => (if q7 = 0 then some ((-1), M) else bI (F_Mod_in p4 1 20) (fun q10 => (if q10 = 0 then some ((-1), M) else bI (F_Mod_copies M) (fun q13 => bI (F_Mod_isInStore p1 q13) (fun q15 => (if q15.1 = 0 then some ((-2), q15.2) else H_Mod_year_61 p1 p2 p3 p4 FU 0 0 q15.2)))))))))))
set_option maxHeartbeats 4000000 in
set_option maxRecDepth 20000 in
theorem f_Mod_year {l : Launch} {ld : Nat} {M : gM} {L : gL} {Q : Option Value → gM → gL → gR → Prop} (hld : isLa ld) {p1 : Int32} {p2 : Int32} {p3 : Int32} {p4 : Int32}  {q : Int32 × gM} (h : F_Mod_year p1 p2 p3 p4 M = some q) (hQ : Q (some (.int q.1)) q.2 L (rf ld)) : Tm l y_Mod_year (0, 0, 447) 447 [.ref 401, .int p1, .int p2, .int p3, .int p4] M L (rf ld) Q := by
  refine Tm.of (by decide) (Nat.le_of_ble_eq_true rfl) ?_
  show Wp l y_Mod_year (0, 0, 447) 447 0 0 0 [(0, .ref 401), (1, .int p1), (2, .int p2), (3, .int p3), (4, .int p4)] [] M L (rf ld) Q
  unfold F_Mod_year at h
  refine g_aload_n (pc1 := 1) d_Mod_year_0 rfl 0 rfl ?_
  refine g_iload_n (pc1 := 2) d_Mod_year_1 rfl 1 rfl ?_
  refine g_callV0 (pc1 := 5) (As := [.int p1]) (rest := []) d_Mod_year_2 rfl mo_Mod_374 mi_Mod_isDish mv_Mod_isDish rfl sh_401 (by decide) (by decide) rfl rfl (Nat.le_of_ble_eq_true rfl) ?_
  obtain ⟨q1, hq2, h⟩ := bnd h
  refine f_Mod_isDish hld  hq2 ?_
  dsimp only [psh]
  refine g_if_eq (pc1 := 8) (tgt := 38) d_Mod_year_5 (by decide) rfl (fun c3 => ?_) (fun c3 => ?_)
  · replace h := itp h c3
    refine g_iconst (pc1 := 39) (v := (-1)) d_Mod_year_38 rfl (by decide) ?_
    refine g_ireturn (Or.inl rfl) d_Mod_year_39 rfl ?_
    cases h; exact hQ
  · replace h := itn h c3
    refine g_iload_n (pc1 := 9) d_Mod_year_8 rfl 2 rfl ?_
    refine g_iconst (pc1 := 10) (v := 0) d_Mod_year_9 rfl (by decide) ?_
    refine g_iconst (pc1 := 11) (v := 2) d_Mod_year_10 rfl (by decide) ?_
    refine g_callS0 (pc1 := 14) (As := [.int p2, .int 0, .int 2]) (rest := []) d_Mod_year_11 rfl mo_Mod_316 ms_Mod_in (by decide) rfl rfl (Nat.le_of_ble_eq_true rfl) ?_
    obtain ⟨q4, hq5, h⟩ := bnd h
    refine f_Mod_in hld  hq5 ?_
    dsimp only [psh]
    refine g_if_eq (pc1 := 17) (tgt := 38) d_Mod_year_14 (by decide) rfl (fun c6 => ?_) (fun c6 => ?_)
    · replace h := itp h c6
      refine g_iconst (pc1 := 39) (v := (-1)) d_Mod_year_38 rfl (by decide) ?_
      refine g_ireturn (Or.inl rfl) d_Mod_year_39 rfl ?_
      cases h; exact hQ
    · replace h := itn h c6
      refine g_iload_n (pc1 := 18) d_Mod_year_17 rfl 3 rfl ?_
      refine g_iconst (pc1 := 19) (v := 0) d_Mod_year_18 rfl (by decide) ?_
      refine g_bipush (pc1 := 21) (v := 99) d_Mod_year_19 rfl (by decide) ?_
      refine g_callS0 (pc1 := 24) (As := [.int p3, .int 0, .int 99]) (rest := []) d_Mod_year_21 rfl mo_Mod_316 ms_Mod_in (by decide) rfl rfl (Nat.le_of_ble_eq_true rfl) ?_
      obtain ⟨q7, hq8, h⟩ := bnd h
      refine f_Mod_in hld  hq8 ?_
      dsimp only [psh]
      refine g_if_eq (pc1 := 27) (tgt := 38) d_Mod_year_24 (by decide) rfl (fun c9 => ?_) (fun c9 => ?_)
      · replace h := itp h c9
        refine g_iconst (pc1 := 39) (v := (-1)) d_Mod_year_38 rfl (by decide) ?_
        refine g_ireturn (Or.inl rfl) d_Mod_year_39 rfl ?_
        cases h; exact hQ
      · replace h := itn h c9
        refine g_iload (pc1 := 29) d_Mod_year_27 rfl 4 rfl ?_
        refine g_iconst (pc1 := 30) (v := 1) d_Mod_year_29 rfl (by decide) ?_
        refine g_bipush (pc1 := 32) (v := 20) d_Mod_year_30 rfl (by decide) ?_
        refine g_callS0 (pc1 := 35) (As := [.int p4, .int 1, .int 20]) (rest := []) d_Mod_year_32 rfl mo_Mod_316 ms_Mod_in (by decide) rfl rfl (Nat.le_of_ble_eq_true rfl) ?_
        obtain ⟨q10, hq11, h⟩ := bnd h
        refine f_Mod_in hld  hq11 ?_
        dsimp only [psh]
        refine g_if_ne (pc1 := 38) (tgt := 40) d_Mod_year_35 (by decide) rfl (fun c12 => ?_) (fun c12 => ?_)
        · replace h := itn h c12
          refine g_aload_n (pc1 := 41) d_Mod_year_40 rfl 0 rfl ?_
          refine g_callV0 (pc1 := 44) (As := []) (rest := []) d_Mod_year_41 rfl mo_Mod_377 mi_Mod_copies mv_Mod_copies rfl sh_401 (by decide) (by decide) rfl rfl (Nat.le_of_ble_eq_true rfl) ?_
          obtain ⟨q13, hq14, h⟩ := bnd h
          refine f_Mod_copies hld  hq14 ?_
          dsimp only [psh]
          refine g_aload_n (pc1 := 45) d_Mod_year_44 rfl 0 rfl ?_
          refine g_iload_n (pc1 := 46) d_Mod_year_45 rfl 1 rfl ?_
          refine g_callV0 (pc1 := 49) (As := [.int p1]) (rest := []) d_Mod_year_46 rfl mo_Mod_386 mi_Mod_isInStore mv_Mod_isInStore rfl sh_401 (by decide) (by decide) rfl rfl (Nat.le_of_ble_eq_true rfl) ?_
          obtain ⟨q15, hq16, h⟩ := bnd h
          refine f_Mod_isInStore hld  hq16 ?_
          dsimp only [psh]
          refine g_if_ne (pc1 := 52) (tgt := 55) d_Mod_year_49 (by decide) rfl (fun c17 => ?_) (fun c17 => ?_)
          · replace h := itn h c17
            refine g_iconst (pc1 := 56) (v := 0) d_Mod_year_55 rfl (by decide) ?_
            refine g_istore (pc1 := 58) (lv' := [(0, .ref 401), (1, .int p1), (2, .int p2), (3, .int p3), (4, .int p4), (5, .int 0)]) d_Mod_year_56 rfl (by decide) [1, 2, 3, 4, 5, 0] rfl ?_
            refine g_iconst (pc1 := 59) (v := 0) d_Mod_year_58 rfl (by decide) ?_
            refine g_istore (pc1 := 61) (lv' := [(0, .ref 401), (1, .int p1), (2, .int p2), (3, .int p3), (4, .int p4), (5, .int 0), (6, .int 0)]) d_Mod_year_59 rfl (by decide) [1, 2, 3, 4, 5, 6, 0] rfl ?_
            exact h_Mod_year_61 hld  hQ  _ 0 0 q15.2 h
          · replace h := itp h c17
            refine g_bipush (pc1 := 54) (v := (-2)) d_Mod_year_52 rfl (by decide) ?_
            refine g_ireturn (Or.inl rfl) d_Mod_year_54 rfl ?_
            cases h; exact hQ
        · replace h := itp h c12
          refine g_iconst (pc1 := 39) (v := (-1)) d_Mod_year_38 rfl (by decide) ?_
          refine g_ireturn (Or.inl rfl) d_Mod_year_39 rfl ?_
          cases h; exact hQ

def J_Mod_blame_50 (K22 : Int32 → Int32 → gM → Option (Int32 × gM)) (v1 : Int32) (v2 : Int32) (v3 : Int32) (M : gM) : Option (Int32 × gM) :=
  nmI (v3 + 1) (fun x11 => K22 v2 x11 M)
set_option maxHeartbeats 4000000 in
set_option maxRecDepth 20000 in
theorem j_Mod_blame_50 {l : Launch} {ld : Nat} {Q : Option Value → gM → gL → gR → Prop} (hld : isLa ld)   {q : Int32 × gM} {M : gM} {L : gL} (hQ : Q (some (.int q.1)) q.2 L (rf ld)) {K22 : Int32 → Int32 → gM → Option (Int32 × gM)} {v1 : Int32} {v2 : Int32} {v3 : Int32} (hK22 : ∀ (w2 : Int32) (w3 : Int32) (M : gM), K22 w2 w3 M = some q → Wp l y_Mod_blame (0, 0, 447) 447 0 0 22 [(0, .ref 401), (1, .int v1), (2, .int w2), (3, .int w3)] [] M L (rf ld) Q) (h : J_Mod_blame_50 K22 v1 v2 v3 M = some q) : Wp l y_Mod_blame (0, 0, 447) 447 0 0 50 [(0, .ref 401), (1, .int v1), (2, .int v2), (3, .int v3)] [] M L (rf ld) Q := by
  unfold J_Mod_blame_50 at h
  obtain ⟨x11, ex11, h⟩ := ltI h
  refine g_iinc (pc1 := 53) (v := x11) (lv' := [(0, .ref 401), (1, .int v1), (2, .int v2), (3, .int x11)]) d_Mod_blame_50 rfl 3 rfl (by rw [ex11]; rfl) (by decide) [1, 2, 3, 0] rfl ?_
  refine g_goto (tgt := 22) d_Mod_blame_53 (by decide) ?_
  exact hK22 v2 x11 M h
def B_Mod_blame_22 (v1 : Int32) (K22 : Int32 → Int32 → gM → Option (Int32 × gM)) : Int32 → Int32 → gM → Option (Int32 × gM) := fun v2 v3 M =>
  (if ((M 401 18) : Int32) < 0 ∨ 2 ≤ ((M 401 18) : Int32).toNatClampNeg then none else (if (13 * (M 415 ((M 401 18) : Int32).toNatClampNeg)) ≤ v3 then some (v2, M) else bI (F_Mod_isWay v3 v1 M) (fun q8 => (if q8.1 = 0 then J_Mod_blame_50 K22 v1 v2 v3 q8.2 else nmI (v2 + 1) (fun x12 => J_Mod_blame_50 K22 v1 x12 v3 q8.2)))))
def H_Mod_blame_22 (v1 : Int32) : Nat → Int32 → Int32 → gM → Option (Int32 × gM) := lpK (B_Mod_blame_22 v1) (fun _ _ _ => none)
set_option maxHeartbeats 4000000 in
set_option maxRecDepth 20000 in
theorem h_Mod_blame_22 {l : Launch} {ld : Nat} {Q : Option Value → gM → gL → gR → Prop} (hld : isLa ld)   {q : Int32 × gM} {L : gL} (hQ : Q (some (.int q.1)) q.2 L (rf ld))  {v1 : Int32}  : ∀ (f : Nat) (v2 : Int32) (v3 : Int32) (M : gM), H_Mod_blame_22 v1 f v2 v3 M = some q → Wp l y_Mod_blame (0, 0, 447) 447 0 0 22 [(0, .ref 401), (1, .int v1), (2, .int v2), (3, .int v3)] [] M L (rf ld) Q := by
  intro f
  induction f with
  | zero => intro v2 v3 M h; cases h
  | succ f hK22 =>
    intro v2 v3 M h
    replace h : B_Mod_blame_22 v1 (H_Mod_blame_22 v1 f) v2 v3 M = some q := h
    unfold B_Mod_blame_22 at h
    refine g_iload_n (pc1 := 23) d_Mod_blame_22 rfl 3 rfl ?_
    refine g_bipush (pc1 := 25) (v := 13) d_Mod_blame_23 rfl (by decide) ?_
    refine g_aload_n (pc1 := 26) d_Mod_blame_25 rfl 0 rfl ?_
    refine g_getr (pc1 := 29) d_Mod_blame_26 rfl ⟨_, fo_Mod_58⟩ sh_401 (by decide) (rf_401_27 ld) ?_
    refine g_aload_n (pc1 := 30) d_Mod_blame_29 rfl 0 rfl ?_
    refine g_geti (pc1 := 33) d_Mod_blame_30 rfl ⟨_, fo_Mod_236⟩ sh_401 (by decide) ?_
    obtain ⟨g6, h⟩ := gdn h
    refine g_iald (pc1 := 34) d_Mod_blame_33 rfl sh_415 (by decide) g6 ?_
    refine g_imul (pc1 := 35) d_Mod_blame_34 rfl ?_
    refine g_icmp_ge (pc1 := 38) (tgt := 56) d_Mod_blame_35 (by decide) rfl (fun c7 => ?_) (fun c7 => ?_)
    · replace h := itp h c7
      refine g_iload_n (pc1 := 57) d_Mod_blame_56 rfl 2 rfl ?_
      refine g_ireturn (Or.inl rfl) d_Mod_blame_57 rfl ?_
      cases h; exact hQ
    · replace h := itn h c7
      refine g_aload_n (pc1 := 39) d_Mod_blame_38 rfl 0 rfl ?_
      refine g_iload_n (pc1 := 40) d_Mod_blame_39 rfl 3 rfl ?_
      refine g_iload_n (pc1 := 41) d_Mod_blame_40 rfl 1 rfl ?_
      refine g_callV0 (pc1 := 44) (As := [.int v3, .int v1]) (rest := []) d_Mod_blame_41 rfl mo_Mod_455 mi_Mod_isWay mv_Mod_isWay rfl sh_401 (by decide) (by decide) rfl rfl (Nat.le_of_ble_eq_true rfl) ?_
      obtain ⟨q8, hq9, h⟩ := bnd h
      refine f_Mod_isWay hld  hq9 ?_
      dsimp only [psh]
      refine g_if_eq (pc1 := 47) (tgt := 50) d_Mod_blame_44 (by decide) rfl (fun c10 => ?_) (fun c10 => ?_)
      · replace h := itp h c10
        exact j_Mod_blame_50 hld  hQ hK22 h
      · replace h := itn h c10
        obtain ⟨x12, ex12, h⟩ := ltI h
        refine g_iinc (pc1 := 50) (v := x12) (lv' := [(0, .ref 401), (1, .int v1), (2, .int x12), (3, .int v3)]) d_Mod_blame_47 rfl 2 rfl (by rw [ex12]; rfl) (by decide) [1, 2, 0, 3] rfl ?_
        exact j_Mod_blame_50 hld  hQ hK22 h
def F_Mod_blame (p1 : Int32) (M : gM) : Option (Int32 × gM) :=
  bI (F_Mod_in p1 0 (M 401 64)) (fun q1 => (if q1 = 0 then some ((-1), M) else bI (F_Mod_copies M) (fun q4 => H_Mod_blame_22 p1 FU 0 0 q4)))
set_option maxHeartbeats 4000000 in
set_option maxRecDepth 20000 in
theorem f_Mod_blame {l : Launch} {ld : Nat} {M : gM} {L : gL} {Q : Option Value → gM → gL → gR → Prop} (hld : isLa ld) {p1 : Int32}  {q : Int32 × gM} (h : F_Mod_blame p1 M = some q) (hQ : Q (some (.int q.1)) q.2 L (rf ld)) : Tm l y_Mod_blame (0, 0, 447) 447 [.ref 401, .int p1] M L (rf ld) Q := by
  refine Tm.of (by decide) (Nat.le_of_ble_eq_true rfl) ?_
  show Wp l y_Mod_blame (0, 0, 447) 447 0 0 0 [(0, .ref 401), (1, .int p1)] [] M L (rf ld) Q
  unfold F_Mod_blame at h
  refine g_iload_n (pc1 := 1) d_Mod_blame_0 rfl 1 rfl ?_
  refine g_iconst (pc1 := 2) (v := 0) d_Mod_blame_1 rfl (by decide) ?_
  refine g_aload_n (pc1 := 3) d_Mod_blame_2 rfl 0 rfl ?_
  refine g_geti (pc1 := 6) d_Mod_blame_3 rfl ⟨_, fo_Mod_257⟩ sh_401 (by decide) ?_
  refine g_callS0 (pc1 := 9) (As := [.int p1, .int 0, .int (M 401 64)]) (rest := []) d_Mod_blame_6 rfl mo_Mod_316 ms_Mod_in (by decide) rfl rfl (Nat.le_of_ble_eq_true rfl) ?_
  obtain ⟨q1, hq2, h⟩ := bnd h
  refine f_Mod_in hld  hq2 ?_
  dsimp only [psh]
  refine g_if_ne (pc1 := 12) (tgt := 14) d_Mod_blame_9 (by decide) rfl (fun c3 => ?_) (fun c3 => ?_)
  · replace h := itn h c3
    refine g_aload_n (pc1 := 15) d_Mod_blame_14 rfl 0 rfl ?_
    refine g_callV0 (pc1 := 18) (As := []) (rest := []) d_Mod_blame_15 rfl mo_Mod_377 mi_Mod_copies mv_Mod_copies rfl sh_401 (by decide) (by decide) rfl rfl (Nat.le_of_ble_eq_true rfl) ?_
    obtain ⟨q4, hq5, h⟩ := bnd h
    refine f_Mod_copies hld  hq5 ?_
    dsimp only [psh]
    refine g_iconst (pc1 := 19) (v := 0) d_Mod_blame_18 rfl (by decide) ?_
    refine g_istore_n (pc1 := 20) (lv' := [(0, .ref 401), (1, .int p1), (2, .int 0)]) d_Mod_blame_19 rfl rfl (by decide) [1, 2, 0] rfl ?_
    refine g_iconst (pc1 := 21) (v := 0) d_Mod_blame_20 rfl (by decide) ?_
    refine g_istore_n (pc1 := 22) (lv' := [(0, .ref 401), (1, .int p1), (2, .int 0), (3, .int 0)]) d_Mod_blame_21 rfl rfl (by decide) [1, 2, 3, 0] rfl ?_
    exact h_Mod_blame_22 hld  hQ  _ 0 0 q4 h
  · replace h := itp h c3
    refine g_iconst (pc1 := 13) (v := (-1)) d_Mod_blame_12 rfl (by decide) ?_
    refine g_ireturn (Or.inl rfl) d_Mod_blame_13 rfl ?_
    cases h; exact hQ

def J_Mod_deed_106 (K75 : Int32 → Int32 → gM → Option (Int32 × gM)) (v1 : Int32) (v3 : Int32) (v4 : Int32) (M : gM) : Option (Int32 × gM) :=
  nmI (v4 + 1) (fun x16 => K75 v3 x16 M)
set_option maxHeartbeats 4000000 in
set_option maxRecDepth 20000 in
theorem j_Mod_deed_106 {l : Launch} {ld : Nat} {Q : Option Value → gM → gL → gR → Prop} (hld : isLa ld)   {q : Int32 × gM} {M : gM} {L : gL} (hQ : Q (some (.int q.1)) q.2 L (rf ld)) {K75 : Int32 → Int32 → gM → Option (Int32 × gM)} {v1 : Int32} {v3 : Int32} {v4 : Int32} (hK75 : ∀ (w3 : Int32) (w4 : Int32) (M : gM), K75 w3 w4 M = some q → Wp l y_Mod_deed (0, 0, 447) 447 0 0 75 [(0, .ref 401), (1, .int v1), (3, .int w3), (4, .int w4)] [] M L (rf ld) Q) (h : J_Mod_deed_106 K75 v1 v3 v4 M = some q) : Wp l y_Mod_deed (0, 0, 447) 447 0 0 106 [(0, .ref 401), (1, .int v1), (3, .int v3), (4, .int v4)] [] M L (rf ld) Q := by
  unfold J_Mod_deed_106 at h
  obtain ⟨x16, ex16, h⟩ := ltI h
  refine g_iinc (pc1 := 109) (v := x16) (lv' := [(0, .ref 401), (1, .int v1), (3, .int v3), (4, .int x16)]) d_Mod_deed_106 rfl 3 rfl (by rw [ex16]; rfl) (by decide) [1, 2, 3, 0] rfl ?_
  refine g_goto (tgt := 75) d_Mod_deed_109 (by decide) ?_
  exact hK75 v3 x16 M h
def B_Mod_deed_75 (v1 : Int32) (K75 : Int32 → Int32 → gM → Option (Int32 × gM)) : Int32 → Int32 → gM → Option (Int32 × gM) := fun v3 v4 M =>
  (if ((M 401 18) : Int32) < 0 ∨ 2 ≤ ((M 401 18) : Int32).toNatClampNeg then none else (if (M 418 ((M 401 18) : Int32).toNatClampNeg) ≤ v4 then some (v3, M) else bI (F_Mod_isFree v4 v1 M) (fun q13 => (if q13.1 = 0 then J_Mod_deed_106 K75 v1 v3 v4 q13.2 else nmI (v3 ||| (1 <<< (v4 &&& 31))) (fun x17 => J_Mod_deed_106 K75 v1 x17 v4 q13.2)))))
def H_Mod_deed_75 (v1 : Int32) : Nat → Int32 → Int32 → gM → Option (Int32 × gM) := lpK (B_Mod_deed_75 v1) (fun _ _ _ => none)
set_option maxHeartbeats 4000000 in
set_option maxRecDepth 20000 in
theorem h_Mod_deed_75 {l : Launch} {ld : Nat} {Q : Option Value → gM → gL → gR → Prop} (hld : isLa ld)   {q : Int32 × gM} {L : gL} (hQ : Q (some (.int q.1)) q.2 L (rf ld))  {v1 : Int32}  : ∀ (f : Nat) (v3 : Int32) (v4 : Int32) (M : gM), H_Mod_deed_75 v1 f v3 v4 M = some q → Wp l y_Mod_deed (0, 0, 447) 447 0 0 75 [(0, .ref 401), (1, .int v1), (3, .int v3), (4, .int v4)] [] M L (rf ld) Q := by
  intro f
  induction f with
  | zero => intro v3 v4 M h; cases h
  | succ f hK75 =>
    intro v3 v4 M h
    replace h : B_Mod_deed_75 v1 (H_Mod_deed_75 v1 f) v3 v4 M = some q := h
    unfold B_Mod_deed_75 at h
    refine g_iload (pc1 := 77) d_Mod_deed_75 rfl 3 rfl ?_
    refine g_aload_n (pc1 := 78) d_Mod_deed_77 rfl 0 rfl ?_
    refine g_getr (pc1 := 81) d_Mod_deed_78 rfl ⟨_, fo_Mod_67⟩ sh_401 (by decide) (rf_401_30 ld) ?_
    refine g_aload_n (pc1 := 82) d_Mod_deed_81 rfl 0 rfl ?_
    refine g_geti (pc1 := 85) d_Mod_deed_82 rfl ⟨_, fo_Mod_236⟩ sh_401 (by decide) ?_
    obtain ⟨g11, h⟩ := gdn h
    refine g_iald (pc1 := 86) d_Mod_deed_85 rfl sh_418 (by decide) g11 ?_
    refine g_icmp_ge (pc1 := 89) (tgt := 112) d_Mod_deed_86 (by decide) rfl (fun c12 => ?_) (fun c12 => ?_)
    · replace h := itp h c12
      refine g_iload_n (pc1 := 113) d_Mod_deed_112 rfl 2 rfl ?_
      refine g_ireturn (Or.inl rfl) d_Mod_deed_113 rfl ?_
      cases h; exact hQ
    · replace h := itn h c12
      refine g_aload_n (pc1 := 90) d_Mod_deed_89 rfl 0 rfl ?_
      refine g_iload (pc1 := 92) d_Mod_deed_90 rfl 3 rfl ?_
      refine g_iload_n (pc1 := 93) d_Mod_deed_92 rfl 1 rfl ?_
      refine g_callV0 (pc1 := 96) (As := [.int v4, .int v1]) (rest := []) d_Mod_deed_93 rfl mo_Mod_352 mi_Mod_isFree mv_Mod_isFree rfl sh_401 (by decide) (by decide) rfl rfl (Nat.le_of_ble_eq_true rfl) ?_
      obtain ⟨q13, hq14, h⟩ := bnd h
      refine f_Mod_isFree hld  hq14 ?_
      dsimp only [psh]
      refine g_if_eq (pc1 := 99) (tgt := 106) d_Mod_deed_96 (by decide) rfl (fun c15 => ?_) (fun c15 => ?_)
      · replace h := itp h c15
        exact j_Mod_deed_106 hld  hQ hK75 h
      · replace h := itn h c15
        refine g_iload_n (pc1 := 100) d_Mod_deed_99 rfl 2 rfl ?_
        refine g_iconst (pc1 := 101) (v := 1) d_Mod_deed_100 rfl (by decide) ?_
        refine g_iload (pc1 := 103) d_Mod_deed_101 rfl 3 rfl ?_
        refine g_ishl (pc1 := 104) d_Mod_deed_103 rfl ?_
        refine g_ior (pc1 := 105) d_Mod_deed_104 rfl ?_
        refine Wp.lI h (fun x17 h => ?_)
        refine g_istore_n (pc1 := 106) (lv' := [(0, .ref 401), (1, .int v1), (3, .int x17), (4, .int v4)]) d_Mod_deed_105 rfl rfl (by decide) [1, 2, 0, 3] rfl ?_
        exact j_Mod_deed_106 hld  hQ hK75 h
def F_Mod_deed (p1 : Int32) (p2 : Int32) (M : gM) : Option (Int32 × gM) :=
  bI (F_Mod_isDeed p1 M) (fun q1 => (if q1 = 0 then some ((-1), M) else bI (F_Mod_copies M) (fun q4 => (if p2 = 0 then (if (((6 * (q4 401 18)) + p1) : Int32) < 0 ∨ 12 ≤ (((6 * (q4 401 18)) + p1) : Int32).toNatClampNeg then none else some ((q4 421 (((6 * (q4 401 18)) + p1) : Int32).toNatClampNeg), q4)) else (if p2 = 1 then (if (((6 * (q4 401 18)) + p1) : Int32) < 0 ∨ 12 ≤ (((6 * (q4 401 18)) + p1) : Int32).toNatClampNeg then none else some ((q4 422 (((6 * (q4 401 18)) + p1) : Int32).toNatClampNeg), q4)) else (if p2 = 2 then H_Mod_deed_75 p1 FU 0 0 q4 else some ((-1), q4)))))))
set_option maxHeartbeats 4000000 in
set_option maxRecDepth 20000 in
theorem f_Mod_deed {l : Launch} {ld : Nat} {M : gM} {L : gL} {Q : Option Value → gM → gL → gR → Prop} (hld : isLa ld) {p1 : Int32} {p2 : Int32}  {q : Int32 × gM} (h : F_Mod_deed p1 p2 M = some q) (hQ : Q (some (.int q.1)) q.2 L (rf ld)) : Tm l y_Mod_deed (0, 0, 447) 447 [.ref 401, .int p1, .int p2] M L (rf ld) Q := by
  refine Tm.of (by decide) (Nat.le_of_ble_eq_true rfl) ?_
  show Wp l y_Mod_deed (0, 0, 447) 447 0 0 0 [(0, .ref 401), (1, .int p1), (2, .int p2)] [] M L (rf ld) Q
  unfold F_Mod_deed at h
  refine g_aload_n (pc1 := 1) d_Mod_deed_0 rfl 0 rfl ?_
  refine g_iload_n (pc1 := 2) d_Mod_deed_1 rfl 1 rfl ?_
  refine g_callV0 (pc1 := 5) (As := [.int p1]) (rest := []) d_Mod_deed_2 rfl mo_Mod_383 mi_Mod_isDeed mv_Mod_isDeed rfl sh_401 (by decide) (by decide) rfl rfl (Nat.le_of_ble_eq_true rfl) ?_
  obtain ⟨q1, hq2, h⟩ := bnd h
  refine f_Mod_isDeed hld  hq2 ?_
  dsimp only [psh]
  refine g_if_ne (pc1 := 8) (tgt := 10) d_Mod_deed_5 (by decide) rfl (fun c3 => ?_) (fun c3 => ?_)
  · replace h := itn h c3
    refine g_aload_n (pc1 := 11) d_Mod_deed_10 rfl 0 rfl ?_
    refine g_callV0 (pc1 := 14) (As := []) (rest := []) d_Mod_deed_11 rfl mo_Mod_377 mi_Mod_copies mv_Mod_copies rfl sh_401 (by decide) (by decide) rfl rfl (Nat.le_of_ble_eq_true rfl) ?_
    obtain ⟨q4, hq5, h⟩ := bnd h
    refine f_Mod_copies hld  hq5 ?_
    dsimp only [psh]
    refine g_iload_n (pc1 := 15) d_Mod_deed_14 rfl 2 rfl ?_
    by_cases c6 : p2 = 0
    · replace h := itp h c6
      refine g_tabK (tgt := 40) (off := 25) d_Mod_deed_15 c6 (by decide) (by decide) (by decide) (by decide) ?_
      refine g_aload_n (pc1 := 41) d_Mod_deed_40 rfl 0 rfl ?_
      refine g_getr (pc1 := 44) d_Mod_deed_41 rfl ⟨_, fo_Mod_76⟩ sh_401 (by decide) (rf_401_33 ld) ?_
      refine g_bipush (pc1 := 46) (v := 6) d_Mod_deed_44 rfl (by decide) ?_
      refine g_aload_n (pc1 := 47) d_Mod_deed_46 rfl 0 rfl ?_
      refine g_geti (pc1 := 50) d_Mod_deed_47 rfl ⟨_, fo_Mod_236⟩ sh_401 (by decide) ?_
      refine g_imul (pc1 := 51) d_Mod_deed_50 rfl ?_
      refine g_iload_n (pc1 := 52) d_Mod_deed_51 rfl 1 rfl ?_
      refine g_iadd (pc1 := 53) d_Mod_deed_52 rfl ?_
      obtain ⟨g7, h⟩ := gdn h
      refine g_iald (pc1 := 54) d_Mod_deed_53 rfl sh_421 (by decide) g7 ?_
      refine g_ireturn (Or.inl rfl) d_Mod_deed_54 rfl ?_
      cases h; exact hQ
    replace h := itn h c6
    by_cases c8 : p2 = 1
    · replace h := itp h c8
      refine g_tabK (tgt := 55) (off := 40) d_Mod_deed_15 c8 (by decide) (by decide) (by decide) (by decide) ?_
      refine g_aload_n (pc1 := 56) d_Mod_deed_55 rfl 0 rfl ?_
      refine g_getr (pc1 := 59) d_Mod_deed_56 rfl ⟨_, fo_Mod_79⟩ sh_401 (by decide) (rf_401_34 ld) ?_
      refine g_bipush (pc1 := 61) (v := 6) d_Mod_deed_59 rfl (by decide) ?_
      refine g_aload_n (pc1 := 62) d_Mod_deed_61 rfl 0 rfl ?_
      refine g_geti (pc1 := 65) d_Mod_deed_62 rfl ⟨_, fo_Mod_236⟩ sh_401 (by decide) ?_
      refine g_imul (pc1 := 66) d_Mod_deed_65 rfl ?_
      refine g_iload_n (pc1 := 67) d_Mod_deed_66 rfl 1 rfl ?_
      refine g_iadd (pc1 := 68) d_Mod_deed_67 rfl ?_
      obtain ⟨g9, h⟩ := gdn h
      refine g_iald (pc1 := 69) d_Mod_deed_68 rfl sh_422 (by decide) g9 ?_
      refine g_ireturn (Or.inl rfl) d_Mod_deed_69 rfl ?_
      cases h; exact hQ
    replace h := itn h c8
    by_cases c10 : p2 = 2
    · replace h := itp h c10
      refine g_tabK (tgt := 70) (off := 55) d_Mod_deed_15 c10 (by decide) (by decide) (by decide) (by decide) ?_
      refine g_iconst (pc1 := 71) (v := 0) d_Mod_deed_70 rfl (by decide) ?_
      refine g_istore_n (pc1 := 72) (lv' := [(0, .ref 401), (1, .int p1), (2, .int p2), (3, .int 0)]) d_Mod_deed_71 rfl rfl (by decide) [1, 2, 3, 0] rfl ?_
      refine g_iconst (pc1 := 73) (v := 0) d_Mod_deed_72 rfl (by decide) ?_
      refine g_istore (pc1 := 75) (lv' := [(0, .ref 401), (1, .int p1), (2, .int p2), (3, .int 0), (4, .int 0)]) d_Mod_deed_73 rfl (by decide) [1, 2, 3, 4, 0] rfl ?_
      refine Wp.loc (lv' := [(0, .ref 401), (1, .int p1), (3, .int 0), (4, .int 0)]) [0, 1, 3, 4] rfl ?_
      exact h_Mod_deed_75 hld  hQ  _ 0 0 q4 h
    replace h := itn h c10
    refine g_tabOut (tgt := 114) d_Mod_deed_15 (by
      have nc6 := neT (a := 0) c6 (by decide)
      have nc8 := neT (a := 1) c8 (by decide)
      have nc10 := neT (a := 2) c10 (by decide)
      omega) (by decide) ?_
    refine g_iconst (pc1 := 115) (v := (-1)) d_Mod_deed_114 rfl (by decide) ?_
    refine g_ireturn (Or.inl rfl) d_Mod_deed_115 rfl ?_
    cases h; exact hQ
  · replace h := itp h c3
    refine g_iconst (pc1 := 9) (v := (-1)) d_Mod_deed_8 rfl (by decide) ?_
    refine g_ireturn (Or.inl rfl) d_Mod_deed_9 rfl ?_
    cases h; exact hQ

def J_Mod_feud_86 (K37 : Int32 → Int32 → gM → Option (Int32 × gM)) (v1 : Int32) (v2 : Int32) (v3 : Int32) (v4 : Int32) (v5 : Int32) (M : gM) : Option (Int32 × gM) :=
  nmI (v5 + 1) (fun x22 => K37 v4 x22 M)
set_option maxHeartbeats 4000000 in
set_option maxRecDepth 20000 in
theorem j_Mod_feud_86 {l : Launch} {ld : Nat} {Q : Option Value → gM → gL → gR → Prop} (hld : isLa ld)   {q : Int32 × gM} {M : gM} {L : gL} (hQ : Q (some (.int q.1)) q.2 L (rf ld)) {K37 : Int32 → Int32 → gM → Option (Int32 × gM)} {v1 : Int32} {v2 : Int32} {v3 : Int32} {v4 : Int32} {v5 : Int32} (hK37 : ∀ (w4 : Int32) (w5 : Int32) (M : gM), K37 w4 w5 M = some q → Wp l y_Mod_feud (0, 0, 447) 447 0 0 37 [(0, .ref 401), (1, .int v1), (2, .int v2), (3, .int v3), (4, .int w4), (5, .int w5)] [] M L (rf ld) Q) (h : J_Mod_feud_86 K37 v1 v2 v3 v4 v5 M = some q) : Wp l y_Mod_feud (0, 0, 447) 447 0 0 86 [(0, .ref 401), (1, .int v1), (2, .int v2), (3, .int v3), (4, .int v4), (5, .int v5)] [] M L (rf ld) Q := by
  unfold J_Mod_feud_86 at h
  obtain ⟨x22, ex22, h⟩ := ltI h
  refine g_iinc (pc1 := 89) (v := x22) (lv' := [(0, .ref 401), (1, .int v1), (2, .int v2), (3, .int v3), (4, .int v4), (5, .int x22)]) d_Mod_feud_86 rfl 5 rfl (by rw [ex22]; rfl) (by decide) [1, 2, 3, 4, 5, 0] rfl ?_
  refine g_goto (tgt := 37) d_Mod_feud_89 (by decide) ?_
  exact hK37 v4 x22 M h
def B_Mod_feud_37 (v1 : Int32) (v2 : Int32) (v3 : Int32) (K37 : Int32 → Int32 → gM → Option (Int32 × gM)) : Int32 → Int32 → gM → Option (Int32 × gM) := fun v4 v5 M =>
  (if ((M 401 18) : Int32) < 0 ∨ 2 ≤ ((M 401 18) : Int32).toNatClampNeg then none else (if (M 415 ((M 401 18) : Int32).toNatClampNeg) ≤ v5 then some (v4, M) else bI (F_Mod_copies M) (fun q13 => bI (F_Mod_eatsDish v1 v5 q13) (fun q15 => bI (F_Mod_isFree v1 v2 q15) (fun q17 => bI (F_Mod_isFree v1 v3 q17.2) (fun q19 => (if q17.1 = q19.1 then J_Mod_feud_86 K37 v1 v2 v3 v4 v5 q19.2 else nmI (v4 ||| (1 <<< (v5 &&& 31))) (fun x23 => J_Mod_feud_86 K37 v1 v2 v3 x23 v5 q19.2))))))))
def H_Mod_feud_37 (v1 : Int32) (v2 : Int32) (v3 : Int32) : Nat → Int32 → Int32 → gM → Option (Int32 × gM) := lpK (B_Mod_feud_37 v1 v2 v3) (fun _ _ _ => none)
set_option maxHeartbeats 4000000 in
set_option maxRecDepth 20000 in
theorem h_Mod_feud_37 {l : Launch} {ld : Nat} {Q : Option Value → gM → gL → gR → Prop} (hld : isLa ld)   {q : Int32 × gM} {L : gL} (hQ : Q (some (.int q.1)) q.2 L (rf ld))  {v1 : Int32} {v2 : Int32} {v3 : Int32}  : ∀ (f : Nat) (v4 : Int32) (v5 : Int32) (M : gM), H_Mod_feud_37 v1 v2 v3 f v4 v5 M = some q → Wp l y_Mod_feud (0, 0, 447) 447 0 0 37 [(0, .ref 401), (1, .int v1), (2, .int v2), (3, .int v3), (4, .int v4), (5, .int v5)] [] M L (rf ld) Q := by
  intro f
  induction f with
  | zero => intro v4 v5 M h; cases h
  | succ f hK37 =>
    intro v4 v5 M h
    replace h : B_Mod_feud_37 v1 v2 v3 (H_Mod_feud_37 v1 v2 v3 f) v4 v5 M = some q := h
    unfold B_Mod_feud_37 at h
    refine g_iload (pc1 := 39) d_Mod_feud_37 rfl 5 rfl ?_
    refine g_aload_n (pc1 := 40) d_Mod_feud_39 rfl 0 rfl ?_
    refine g_getr (pc1 := 43) d_Mod_feud_40 rfl ⟨_, fo_Mod_58⟩ sh_401 (by decide) (rf_401_27 ld) ?_
    refine g_aload_n (pc1 := 44) d_Mod_feud_43 rfl 0 rfl ?_
    refine g_geti (pc1 := 47) d_Mod_feud_44 rfl ⟨_, fo_Mod_236⟩ sh_401 (by decide) ?_
    obtain ⟨g11, h⟩ := gdn h
    refine g_iald (pc1 := 48) d_Mod_feud_47 rfl sh_415 (by decide) g11 ?_
    refine g_icmp_ge (pc1 := 51) (tgt := 92) d_Mod_feud_48 (by decide) rfl (fun c12 => ?_) (fun c12 => ?_)
    · replace h := itp h c12
      refine g_iload (pc1 := 94) d_Mod_feud_92 rfl 4 rfl ?_
      refine g_ireturn (Or.inl rfl) d_Mod_feud_94 rfl ?_
      cases h; exact hQ
    · replace h := itn h c12
      refine g_aload_n (pc1 := 52) d_Mod_feud_51 rfl 0 rfl ?_
      refine g_callV0 (pc1 := 55) (As := []) (rest := []) d_Mod_feud_52 rfl mo_Mod_377 mi_Mod_copies mv_Mod_copies rfl sh_401 (by decide) (by decide) rfl rfl (Nat.le_of_ble_eq_true rfl) ?_
      obtain ⟨q13, hq14, h⟩ := bnd h
      refine f_Mod_copies hld  hq14 ?_
      dsimp only [psh]
      refine g_aload_n (pc1 := 56) d_Mod_feud_55 rfl 0 rfl ?_
      refine g_iload_n (pc1 := 57) d_Mod_feud_56 rfl 1 rfl ?_
      refine g_iload (pc1 := 59) d_Mod_feud_57 rfl 5 rfl ?_
      refine g_callV0 (pc1 := 62) (As := [.int v1, .int v5]) (rest := []) d_Mod_feud_59 rfl mo_Mod_431 mi_Mod_eatsDish mv_Mod_eatsDish rfl sh_401 (by decide) (by decide) rfl rfl (Nat.le_of_ble_eq_true rfl) ?_
      obtain ⟨q15, hq16, h⟩ := bnd h
      refine f_Mod_eatsDish hld  hq16 ?_
      dsimp only [psh]
      refine g_aload_n (pc1 := 63) d_Mod_feud_62 rfl 0 rfl ?_
      refine g_iload_n (pc1 := 64) d_Mod_feud_63 rfl 1 rfl ?_
      refine g_iload_n (pc1 := 65) d_Mod_feud_64 rfl 2 rfl ?_
      refine g_callV0 (pc1 := 68) (As := [.int v1, .int v2]) (rest := []) d_Mod_feud_65 rfl mo_Mod_352 mi_Mod_isFree mv_Mod_isFree rfl sh_401 (by decide) (by decide) rfl rfl (Nat.le_of_ble_eq_true rfl) ?_
      obtain ⟨q17, hq18, h⟩ := bnd h
      refine f_Mod_isFree hld  hq18 ?_
      dsimp only [psh]
      refine g_aload_n (pc1 := 69) d_Mod_feud_68 rfl 0 rfl ?_
      refine g_iload_n (pc1 := 70) d_Mod_feud_69 rfl 1 rfl ?_
      refine g_iload_n (pc1 := 71) d_Mod_feud_70 rfl 3 rfl ?_
      refine g_callV0 (pc1 := 74) (As := [.int v1, .int v3]) (rest := [.int q17.1]) d_Mod_feud_71 rfl mo_Mod_352 mi_Mod_isFree mv_Mod_isFree rfl sh_401 (by decide) (by decide) rfl rfl (Nat.le_of_ble_eq_true rfl) ?_
      obtain ⟨q19, hq20, h⟩ := bnd h
      refine f_Mod_isFree hld  hq20 ?_
      dsimp only [psh]
      refine g_icmp_eq (pc1 := 77) (tgt := 86) d_Mod_feud_74 (by decide) rfl (fun c21 => ?_) (fun c21 => ?_)
      · replace h := itp h c21
        exact j_Mod_feud_86 hld  hQ hK37 h
      · replace h := itn h c21
        refine g_iload (pc1 := 79) d_Mod_feud_77 rfl 4 rfl ?_
        refine g_iconst (pc1 := 80) (v := 1) d_Mod_feud_79 rfl (by decide) ?_
        refine g_iload (pc1 := 82) d_Mod_feud_80 rfl 5 rfl ?_
        refine g_ishl (pc1 := 83) d_Mod_feud_82 rfl ?_
        refine g_ior (pc1 := 84) d_Mod_feud_83 rfl ?_
        refine Wp.lI h (fun x23 h => ?_)
        refine g_istore (pc1 := 86) (lv' := [(0, .ref 401), (1, .int v1), (2, .int v2), (3, .int v3), (4, .int x23), (5, .int v5)]) d_Mod_feud_84 rfl (by decide) [1, 2, 3, 4, 0, 5] rfl ?_
        exact j_Mod_feud_86 hld  hQ hK37 h
def F_Mod_feud (p1 : Int32) (p2 : Int32) (p3 : Int32) (M : gM) : Option (Int32 × gM) :=
  bI (F_Mod_isGuest p1 M) (fun q1 => (if q1 = 0 then some ((-1), M) else bI (F_Mod_isDeed p2 M) (fun q4 => (if q4 = 0 then some ((-1), M) else bI (F_Mod_isDeed p3 M) (fun q7 => (if q7 = 0 then some ((-1), M) else (if p2 = p3 then some ((-1), M) else H_Mod_feud_37 p1 p2 p3 FU 0 0 M)))))))
set_option maxHeartbeats 4000000 in
set_option maxRecDepth 20000 in
theorem f_Mod_feud {l : Launch} {ld : Nat} {M : gM} {L : gL} {Q : Option Value → gM → gL → gR → Prop} (hld : isLa ld) {p1 : Int32} {p2 : Int32} {p3 : Int32}  {q : Int32 × gM} (h : F_Mod_feud p1 p2 p3 M = some q) (hQ : Q (some (.int q.1)) q.2 L (rf ld)) : Tm l y_Mod_feud (0, 0, 447) 447 [.ref 401, .int p1, .int p2, .int p3] M L (rf ld) Q := by
  refine Tm.of (by decide) (Nat.le_of_ble_eq_true rfl) ?_
  show Wp l y_Mod_feud (0, 0, 447) 447 0 0 0 [(0, .ref 401), (1, .int p1), (2, .int p2), (3, .int p3)] [] M L (rf ld) Q
  unfold F_Mod_feud at h
  refine g_aload_n (pc1 := 1) d_Mod_feud_0 rfl 0 rfl ?_
  refine g_iload_n (pc1 := 2) d_Mod_feud_1 rfl 1 rfl ?_
  refine g_callV0 (pc1 := 5) (As := [.int p1]) (rest := []) d_Mod_feud_2 rfl mo_Mod_380 mi_Mod_isGuest mv_Mod_isGuest rfl sh_401 (by decide) (by decide) rfl rfl (Nat.le_of_ble_eq_true rfl) ?_
  obtain ⟨q1, hq2, h⟩ := bnd h
  refine f_Mod_isGuest hld  hq2 ?_
  dsimp only [psh]
  refine g_if_eq (pc1 := 8) (tgt := 29) d_Mod_feud_5 (by decide) rfl (fun c3 => ?_) (fun c3 => ?_)
  · replace h := itp h c3
    refine g_iconst (pc1 := 30) (v := (-1)) d_Mod_feud_29 rfl (by decide) ?_
    refine g_ireturn (Or.inl rfl) d_Mod_feud_30 rfl ?_
    cases h; exact hQ
  · replace h := itn h c3
    refine g_aload_n (pc1 := 9) d_Mod_feud_8 rfl 0 rfl ?_
    refine g_iload_n (pc1 := 10) d_Mod_feud_9 rfl 2 rfl ?_
    refine g_callV0 (pc1 := 13) (As := [.int p2]) (rest := []) d_Mod_feud_10 rfl mo_Mod_383 mi_Mod_isDeed mv_Mod_isDeed rfl sh_401 (by decide) (by decide) rfl rfl (Nat.le_of_ble_eq_true rfl) ?_
    obtain ⟨q4, hq5, h⟩ := bnd h
    refine f_Mod_isDeed hld  hq5 ?_
    dsimp only [psh]
    refine g_if_eq (pc1 := 16) (tgt := 29) d_Mod_feud_13 (by decide) rfl (fun c6 => ?_) (fun c6 => ?_)
    · replace h := itp h c6
      refine g_iconst (pc1 := 30) (v := (-1)) d_Mod_feud_29 rfl (by decide) ?_
      refine g_ireturn (Or.inl rfl) d_Mod_feud_30 rfl ?_
      cases h; exact hQ
    · replace h := itn h c6
      refine g_aload_n (pc1 := 17) d_Mod_feud_16 rfl 0 rfl ?_
      refine g_iload_n (pc1 := 18) d_Mod_feud_17 rfl 3 rfl ?_
      refine g_callV0 (pc1 := 21) (As := [.int p3]) (rest := []) d_Mod_feud_18 rfl mo_Mod_383 mi_Mod_isDeed mv_Mod_isDeed rfl sh_401 (by decide) (by decide) rfl rfl (Nat.le_of_ble_eq_true rfl) ?_
      obtain ⟨q7, hq8, h⟩ := bnd h
      refine f_Mod_isDeed hld  hq8 ?_
      dsimp only [psh]
      refine g_if_eq (pc1 := 24) (tgt := 29) d_Mod_feud_21 (by decide) rfl (fun c9 => ?_) (fun c9 => ?_)
      · replace h := itp h c9
        refine g_iconst (pc1 := 30) (v := (-1)) d_Mod_feud_29 rfl (by decide) ?_
        refine g_ireturn (Or.inl rfl) d_Mod_feud_30 rfl ?_
        cases h; exact hQ
      · replace h := itn h c9
        refine g_iload_n (pc1 := 25) d_Mod_feud_24 rfl 2 rfl ?_
        refine g_iload_n (pc1 := 26) d_Mod_feud_25 rfl 3 rfl ?_
        refine g_icmp_ne (pc1 := 29) (tgt := 31) d_Mod_feud_26 (by decide) rfl (fun c10 => ?_) (fun c10 => ?_)
        · replace h := itn h c10
          refine g_iconst (pc1 := 32) (v := 0) d_Mod_feud_31 rfl (by decide) ?_
          refine g_istore (pc1 := 34) (lv' := [(0, .ref 401), (1, .int p1), (2, .int p2), (3, .int p3), (4, .int 0)]) d_Mod_feud_32 rfl (by decide) [1, 2, 3, 4, 0] rfl ?_
          refine g_iconst (pc1 := 35) (v := 0) d_Mod_feud_34 rfl (by decide) ?_
          refine g_istore (pc1 := 37) (lv' := [(0, .ref 401), (1, .int p1), (2, .int p2), (3, .int p3), (4, .int 0), (5, .int 0)]) d_Mod_feud_35 rfl (by decide) [1, 2, 3, 4, 5, 0] rfl ?_
          exact h_Mod_feud_37 hld  hQ  _ 0 0 M h
        · replace h := itp h c10
          refine g_iconst (pc1 := 30) (v := (-1)) d_Mod_feud_29 rfl (by decide) ?_
          refine g_ireturn (Or.inl rfl) d_Mod_feud_30 rfl ?_
          cases h; exact hQ

def J_Mod_freeBits_32 (K4 : Int32 → Int32 → gM → Option (Int32 × gM)) (v1 : Int32) (v2 : Int32) (v3 : Int32) (M : gM) : Option (Int32 × gM) :=
  nmI (v3 + 1) (fun x6 => K4 v2 x6 M)
set_option maxHeartbeats 4000000 in
set_option maxRecDepth 20000 in
theorem j_Mod_freeBits_32 {l : Launch} {ld : Nat} {Q : Option Value → gM → gL → gR → Prop} (hld : isLa ld)   {q : Int32 × gM} {M : gM} {L : gL} (hQ : Q (some (.int q.1)) q.2 L (rf ld)) {K4 : Int32 → Int32 → gM → Option (Int32 × gM)} {v1 : Int32} {v2 : Int32} {v3 : Int32} (hK4 : ∀ (w2 : Int32) (w3 : Int32) (M : gM), K4 w2 w3 M = some q → Wp l y_Mod_freeBits (0, 0, 447) 447 0 0 4 [(0, .ref 401), (1, .int v1), (2, .int w2), (3, .int w3)] [] M L (rf ld) Q) (h : J_Mod_freeBits_32 K4 v1 v2 v3 M = some q) : Wp l y_Mod_freeBits (0, 0, 447) 447 0 0 32 [(0, .ref 401), (1, .int v1), (2, .int v2), (3, .int v3)] [] M L (rf ld) Q := by
  unfold J_Mod_freeBits_32 at h
  obtain ⟨x6, ex6, h⟩ := ltI h
  refine g_iinc (pc1 := 35) (v := x6) (lv' := [(0, .ref 401), (1, .int v1), (2, .int v2), (3, .int x6)]) d_Mod_freeBits_32 rfl 3 rfl (by rw [ex6]; rfl) (by decide) [1, 2, 3, 0] rfl ?_
  refine g_goto (tgt := 4) d_Mod_freeBits_35 (by decide) ?_
  exact hK4 v2 x6 M h
def B_Mod_freeBits_4 (v1 : Int32) (K4 : Int32 → Int32 → gM → Option (Int32 × gM)) : Int32 → Int32 → gM → Option (Int32 × gM) := fun v2 v3 M =>
  (if ((M 401 18) : Int32) < 0 ∨ 2 ≤ ((M 401 18) : Int32).toNatClampNeg then none else (if (M 420 ((M 401 18) : Int32).toNatClampNeg) ≤ v3 then some (v2, M) else bI (F_Mod_isFree v1 v3 M) (fun q3 => (if q3.1 = 0 then J_Mod_freeBits_32 K4 v1 v2 v3 q3.2 else nmI (v2 ||| (1 <<< (v3 &&& 31))) (fun x7 => J_Mod_freeBits_32 K4 v1 x7 v3 q3.2)))))
def H_Mod_freeBits_4 (v1 : Int32) : Nat → Int32 → Int32 → gM → Option (Int32 × gM) := lpK (B_Mod_freeBits_4 v1) (fun _ _ _ => none)
set_option maxHeartbeats 4000000 in
set_option maxRecDepth 20000 in
theorem h_Mod_freeBits_4 {l : Launch} {ld : Nat} {Q : Option Value → gM → gL → gR → Prop} (hld : isLa ld)   {q : Int32 × gM} {L : gL} (hQ : Q (some (.int q.1)) q.2 L (rf ld))  {v1 : Int32}  : ∀ (f : Nat) (v2 : Int32) (v3 : Int32) (M : gM), H_Mod_freeBits_4 v1 f v2 v3 M = some q → Wp l y_Mod_freeBits (0, 0, 447) 447 0 0 4 [(0, .ref 401), (1, .int v1), (2, .int v2), (3, .int v3)] [] M L (rf ld) Q := by
  intro f
  induction f with
  | zero => intro v2 v3 M h; cases h
  | succ f hK4 =>
    intro v2 v3 M h
    replace h : B_Mod_freeBits_4 v1 (H_Mod_freeBits_4 v1 f) v2 v3 M = some q := h
    unfold B_Mod_freeBits_4 at h
    refine g_iload_n (pc1 := 5) d_Mod_freeBits_4 rfl 3 rfl ?_
    refine g_aload_n (pc1 := 6) d_Mod_freeBits_5 rfl 0 rfl ?_
    refine g_getr (pc1 := 9) d_Mod_freeBits_6 rfl ⟨_, fo_Mod_73⟩ sh_401 (by decide) (rf_401_32 ld) ?_
    refine g_aload_n (pc1 := 10) d_Mod_freeBits_9 rfl 0 rfl ?_
    refine g_geti (pc1 := 13) d_Mod_freeBits_10 rfl ⟨_, fo_Mod_236⟩ sh_401 (by decide) ?_
    obtain ⟨g1, h⟩ := gdn h
    refine g_iald (pc1 := 14) d_Mod_freeBits_13 rfl sh_420 (by decide) g1 ?_
    refine g_icmp_ge (pc1 := 17) (tgt := 38) d_Mod_freeBits_14 (by decide) rfl (fun c2 => ?_) (fun c2 => ?_)
    · replace h := itp h c2
      refine g_iload_n (pc1 := 39) d_Mod_freeBits_38 rfl 2 rfl ?_
      refine g_ireturn (Or.inl rfl) d_Mod_freeBits_39 rfl ?_
      cases h; exact hQ
    · replace h := itn h c2
      refine g_aload_n (pc1 := 18) d_Mod_freeBits_17 rfl 0 rfl ?_
      refine g_iload_n (pc1 := 19) d_Mod_freeBits_18 rfl 1 rfl ?_
      refine g_iload_n (pc1 := 20) d_Mod_freeBits_19 rfl 3 rfl ?_
      refine g_callV0 (pc1 := 23) (As := [.int v1, .int v3]) (rest := []) d_Mod_freeBits_20 rfl mo_Mod_352 mi_Mod_isFree mv_Mod_isFree rfl sh_401 (by decide) (by decide) rfl rfl (Nat.le_of_ble_eq_true rfl) ?_
      obtain ⟨q3, hq4, h⟩ := bnd h
      refine f_Mod_isFree hld  hq4 ?_
      dsimp only [psh]
      refine g_if_eq (pc1 := 26) (tgt := 32) d_Mod_freeBits_23 (by decide) rfl (fun c5 => ?_) (fun c5 => ?_)
      · replace h := itp h c5
        exact j_Mod_freeBits_32 hld  hQ hK4 h
      · replace h := itn h c5
        refine g_iload_n (pc1 := 27) d_Mod_freeBits_26 rfl 2 rfl ?_
        refine g_iconst (pc1 := 28) (v := 1) d_Mod_freeBits_27 rfl (by decide) ?_
        refine g_iload_n (pc1 := 29) d_Mod_freeBits_28 rfl 3 rfl ?_
        refine g_ishl (pc1 := 30) d_Mod_freeBits_29 rfl ?_
        refine g_ior (pc1 := 31) d_Mod_freeBits_30 rfl ?_
        refine Wp.lI h (fun x7 h => ?_)
        refine g_istore_n (pc1 := 32) (lv' := [(0, .ref 401), (1, .int v1), (2, .int x7), (3, .int v3)]) d_Mod_freeBits_31 rfl rfl (by decide) [1, 2, 0, 3] rfl ?_
        exact j_Mod_freeBits_32 hld  hQ hK4 h
def F_Mod_freeBits (p1 : Int32) (M : gM) : Option (Int32 × gM) :=
  H_Mod_freeBits_4 p1 FU 0 0 M
set_option maxHeartbeats 4000000 in
set_option maxRecDepth 20000 in
theorem f_Mod_freeBits {l : Launch} {ld : Nat} {M : gM} {L : gL} {Q : Option Value → gM → gL → gR → Prop} (hld : isLa ld) {p1 : Int32}  {q : Int32 × gM} (h : F_Mod_freeBits p1 M = some q) (hQ : Q (some (.int q.1)) q.2 L (rf ld)) : Tm l y_Mod_freeBits (0, 0, 447) 447 [.ref 401, .int p1] M L (rf ld) Q := by
  refine Tm.of (by decide) (Nat.le_of_ble_eq_true rfl) ?_
  show Wp l y_Mod_freeBits (0, 0, 447) 447 0 0 0 [(0, .ref 401), (1, .int p1)] [] M L (rf ld) Q
  unfold F_Mod_freeBits at h
  refine g_iconst (pc1 := 1) (v := 0) d_Mod_freeBits_0 rfl (by decide) ?_
  refine g_istore_n (pc1 := 2) (lv' := [(0, .ref 401), (1, .int p1), (2, .int 0)]) d_Mod_freeBits_1 rfl rfl (by decide) [1, 2, 0] rfl ?_
  refine g_iconst (pc1 := 3) (v := 0) d_Mod_freeBits_2 rfl (by decide) ?_
  refine g_istore_n (pc1 := 4) (lv' := [(0, .ref 401), (1, .int p1), (2, .int 0), (3, .int 0)]) d_Mod_freeBits_3 rfl rfl (by decide) [1, 2, 3, 0] rfl ?_
  exact h_Mod_freeBits_4 hld  hQ  _ 0 0 M h

def B_Mod_hunger_24 (v1 : Int32) (v2 : Int32) (K24 : Int32 → gM → Option (Int32 × gM)) : Int32 → gM → Option (Int32 × gM) := fun v3 M =>
  (if 99 < v3 then some ((-2), M) else bI (F_Mod_isFree v1 v2 M) (fun q10 => (if q10.1 = 0 then nmM (uM q10.2 437 (35 : Int32).toNatClampNeg ((q10.2 437 (35 : Int32).toNatClampNeg) + 1)) (fun M13 => nmI (v3 + 1) (fun x14 => K24 x14 M13)) else some (v3, q10.2))))
def H_Mod_hunger_24 (v1 : Int32) (v2 : Int32) : Nat → Int32 → gM → Option (Int32 × gM) := lpK (B_Mod_hunger_24 v1 v2) (fun _ _ => none)
set_option maxHeartbeats 4000000 in
set_option maxRecDepth 20000 in
theorem h_Mod_hunger_24 {l : Launch} {ld : Nat} {Q : Option Value → gM → gL → gR → Prop} (hld : isLa ld)   {q : Int32 × gM} {L : gL} (hQ : Q (some (.int q.1)) q.2 L (rf ld))  {v1 : Int32} {v2 : Int32}  : ∀ (f : Nat) (v3 : Int32) (M : gM), H_Mod_hunger_24 v1 v2 f v3 M = some q → Wp l y_Mod_hunger (0, 0, 447) 447 0 0 24 [(0, .ref 401), (1, .int v1), (2, .int v2), (3, .int v3)] [] M L (rf ld) Q := by
  intro f
  induction f with
  | zero => intro v3 M h; cases h
  | succ f hK24 =>
    intro v3 M h
    replace h : B_Mod_hunger_24 v1 v2 (H_Mod_hunger_24 v1 v2 f) v3 M = some q := h
    unfold B_Mod_hunger_24 at h
    refine g_iload_n (pc1 := 25) d_Mod_hunger_24 rfl 3 rfl ?_
    refine g_bipush (pc1 := 27) (v := 99) d_Mod_hunger_25 rfl (by decide) ?_
    refine g_icmp_gt (pc1 := 30) (tgt := 58) d_Mod_hunger_27 (by decide) rfl (fun c9 => ?_) (fun c9 => ?_)
    · replace h := itp h c9
      refine g_bipush (pc1 := 60) (v := (-2)) d_Mod_hunger_58 rfl (by decide) ?_
      refine g_ireturn (Or.inl rfl) d_Mod_hunger_60 rfl ?_
      cases h; exact hQ
    · replace h := itn h c9
      refine g_aload_n (pc1 := 31) d_Mod_hunger_30 rfl 0 rfl ?_
      refine g_iload_n (pc1 := 32) d_Mod_hunger_31 rfl 1 rfl ?_
      refine g_iload_n (pc1 := 33) d_Mod_hunger_32 rfl 2 rfl ?_
      refine g_callV0 (pc1 := 36) (As := [.int v1, .int v2]) (rest := []) d_Mod_hunger_33 rfl mo_Mod_352 mi_Mod_isFree mv_Mod_isFree rfl sh_401 (by decide) (by decide) rfl rfl (Nat.le_of_ble_eq_true rfl) ?_
      obtain ⟨q10, hq11, h⟩ := bnd h
      refine f_Mod_isFree hld  hq11 ?_
      dsimp only [psh]
      refine g_if_eq (pc1 := 39) (tgt := 41) d_Mod_hunger_36 (by decide) rfl (fun c12 => ?_) (fun c12 => ?_)
      · replace h := itp h c12
        refine g_aload_n (pc1 := 42) d_Mod_hunger_41 rfl 0 rfl ?_
        refine g_getr (pc1 := 45) d_Mod_hunger_42 rfl ⟨_, fo_Mod_125⟩ sh_401 (by decide) (rf_401_53 ld) ?_
        refine g_bipush (pc1 := 47) (v := 35) d_Mod_hunger_45 rfl (by decide) ?_
        refine g_dup2 (pc1 := 48) d_Mod_hunger_47 rfl rfl rfl ?_
        refine g_iald (pc1 := 49) d_Mod_hunger_48 rfl sh_437 (by decide) (vin_lit (x := 35) (by decide)) ?_
        refine g_iconst (pc1 := 50) (v := 1) d_Mod_hunger_49 rfl (by decide) ?_
        refine g_iadd (pc1 := 51) d_Mod_hunger_50 rfl ?_
        refine g_iast (pc1 := 52) d_Mod_hunger_51 rfl sh_437 (by decide) (vin_lit (x := 35) (by decide)) ?_
        refine Wp.lM h (fun M13 h => ?_)
        obtain ⟨x14, ex14, h⟩ := ltI h
        refine g_iinc (pc1 := 55) (v := x14) (lv' := [(0, .ref 401), (1, .int v1), (2, .int v2), (3, .int x14)]) d_Mod_hunger_52 rfl 3 rfl (by rw [ex14]; rfl) (by decide) [1, 2, 3, 0] rfl ?_
        refine g_goto (tgt := 24) d_Mod_hunger_55 (by decide) ?_
        exact hK24 x14 M13 h
      · replace h := itn h c12
        refine g_iload_n (pc1 := 40) d_Mod_hunger_39 rfl 3 rfl ?_
        refine g_ireturn (Or.inl rfl) d_Mod_hunger_40 rfl ?_
        cases h; exact hQ
def F_Mod_hunger (p1 : Int32) (p2 : Int32) (M : gM) : Option (Int32 × gM) :=
  bI (F_Mod_isGuest p1 M) (fun q1 => (if q1 = 0 then some ((-1), M) else bI (F_Mod_isDeed p2 M) (fun q4 => (if q4 = 0 then some ((-1), M) else bI (F_Mod_copies M) (fun q7 => H_Mod_hunger_24 p1 p2 FU 0 q7)))))
set_option maxHeartbeats 4000000 in
set_option maxRecDepth 20000 in
theorem f_Mod_hunger {l : Launch} {ld : Nat} {M : gM} {L : gL} {Q : Option Value → gM → gL → gR → Prop} (hld : isLa ld) {p1 : Int32} {p2 : Int32}  {q : Int32 × gM} (h : F_Mod_hunger p1 p2 M = some q) (hQ : Q (some (.int q.1)) q.2 L (rf ld)) : Tm l y_Mod_hunger (0, 0, 447) 447 [.ref 401, .int p1, .int p2] M L (rf ld) Q := by
  refine Tm.of (by decide) (Nat.le_of_ble_eq_true rfl) ?_
  show Wp l y_Mod_hunger (0, 0, 447) 447 0 0 0 [(0, .ref 401), (1, .int p1), (2, .int p2)] [] M L (rf ld) Q
  unfold F_Mod_hunger at h
  refine g_aload_n (pc1 := 1) d_Mod_hunger_0 rfl 0 rfl ?_
  refine g_iload_n (pc1 := 2) d_Mod_hunger_1 rfl 1 rfl ?_
  refine g_callV0 (pc1 := 5) (As := [.int p1]) (rest := []) d_Mod_hunger_2 rfl mo_Mod_380 mi_Mod_isGuest mv_Mod_isGuest rfl sh_401 (by decide) (by decide) rfl rfl (Nat.le_of_ble_eq_true rfl) ?_
  obtain ⟨q1, hq2, h⟩ := bnd h
  refine f_Mod_isGuest hld  hq2 ?_
  dsimp only [psh]
  refine g_if_eq (pc1 := 8) (tgt := 16) d_Mod_hunger_5 (by decide) rfl (fun c3 => ?_) (fun c3 => ?_)
  · replace h := itp h c3
    refine g_iconst (pc1 := 17) (v := (-1)) d_Mod_hunger_16 rfl (by decide) ?_
    refine g_ireturn (Or.inl rfl) d_Mod_hunger_17 rfl ?_
    cases h; exact hQ
  · replace h := itn h c3
    refine g_aload_n (pc1 := 9) d_Mod_hunger_8 rfl 0 rfl ?_
    refine g_iload_n (pc1 := 10) d_Mod_hunger_9 rfl 2 rfl ?_
    refine g_callV0 (pc1 := 13) (As := [.int p2]) (rest := []) d_Mod_hunger_10 rfl mo_Mod_383 mi_Mod_isDeed mv_Mod_isDeed rfl sh_401 (by decide) (by decide) rfl rfl (Nat.le_of_ble_eq_true rfl) ?_
    obtain ⟨q4, hq5, h⟩ := bnd h
    refine f_Mod_isDeed hld  hq5 ?_
    dsimp only [psh]
    refine g_if_ne (pc1 := 16) (tgt := 18) d_Mod_hunger_13 (by decide) rfl (fun c6 => ?_) (fun c6 => ?_)
    · replace h := itn h c6
      refine g_aload_n (pc1 := 19) d_Mod_hunger_18 rfl 0 rfl ?_
      refine g_callV0 (pc1 := 22) (As := []) (rest := []) d_Mod_hunger_19 rfl mo_Mod_377 mi_Mod_copies mv_Mod_copies rfl sh_401 (by decide) (by decide) rfl rfl (Nat.le_of_ble_eq_true rfl) ?_
      obtain ⟨q7, hq8, h⟩ := bnd h
      refine f_Mod_copies hld  hq8 ?_
      dsimp only [psh]
      refine g_iconst (pc1 := 23) (v := 0) d_Mod_hunger_22 rfl (by decide) ?_
      refine g_istore_n (pc1 := 24) (lv' := [(0, .ref 401), (1, .int p1), (2, .int p2), (3, .int 0)]) d_Mod_hunger_23 rfl rfl (by decide) [1, 2, 3, 0] rfl ?_
      exact h_Mod_hunger_24 hld  hQ  _ 0 q7 h
    · replace h := itp h c6
      refine g_iconst (pc1 := 17) (v := (-1)) d_Mod_hunger_16 rfl (by decide) ?_
      refine g_ireturn (Or.inl rfl) d_Mod_hunger_17 rfl ?_
      cases h; exact hQ

def J_Mod_sure_76 (v2 : Int32) (M : gM) : Option (Int32 × gM) :=
  (if 0 ≤ v2 then some (v2, M) else some ((-2), M))
set_option maxHeartbeats 4000000 in
set_option maxRecDepth 20000 in
theorem j_Mod_sure_76 {l : Launch} {ld : Nat} {Q : Option Value → gM → gL → gR → Prop} (hld : isLa ld)   {q : Int32 × gM} {M : gM} {L : gL} (hQ : Q (some (.int q.1)) q.2 L (rf ld))  {v2 : Int32}  (h : J_Mod_sure_76 v2 M = some q) : Wp l y_Mod_sure (0, 0, 447) 447 0 0 76 [(2, .int v2)] [] M L (rf ld) Q := by
  unfold J_Mod_sure_76 at h
  refine g_iload_n (pc1 := 77) d_Mod_sure_76 rfl 0 rfl ?_
  refine g_if_ge (pc1 := 80) (tgt := 85) d_Mod_sure_77 (by decide) rfl (fun c8 => ?_) (fun c8 => ?_)
  · replace h := itp h c8
    refine g_iload_n (pc1 := 86) d_Mod_sure_85 rfl 0 rfl ?_
    refine g_ireturn (Or.inl rfl) d_Mod_sure_86 rfl ?_
    cases h; exact hQ
  · replace h := itn h c8
    refine g_bipush (pc1 := 82) (v := (-2)) d_Mod_sure_80 rfl (by decide) ?_
    refine g_goto (tgt := 86) d_Mod_sure_82 (by decide) ?_
    refine g_ireturn (Or.inl rfl) d_Mod_sure_86 rfl ?_
    cases h; exact hQ
def J_Mod_sure_70 (K22 : Int32 → Int32 → gM → Option (Int32 × gM)) (v1 : Int32) (v2 : Int32) (v3 : Int32) (M : gM) : Option (Int32 × gM) :=
  nmI (v3 + 1) (fun x14 => K22 v2 x14 M)
set_option maxHeartbeats 4000000 in
set_option maxRecDepth 20000 in
theorem j_Mod_sure_70 {l : Launch} {ld : Nat} {Q : Option Value → gM → gL → gR → Prop} (hld : isLa ld)   {q : Int32 × gM} {M : gM} {L : gL} (hQ : Q (some (.int q.1)) q.2 L (rf ld)) {K22 : Int32 → Int32 → gM → Option (Int32 × gM)} {v1 : Int32} {v2 : Int32} {v3 : Int32} (hK22 : ∀ (w2 : Int32) (w3 : Int32) (M : gM), K22 w2 w3 M = some q → Wp l y_Mod_sure (0, 0, 447) 447 0 0 22 [(0, .ref 401), (1, .int v1), (2, .int w2), (3, .int w3)] [] M L (rf ld) Q) (h : J_Mod_sure_70 K22 v1 v2 v3 M = some q) : Wp l y_Mod_sure (0, 0, 447) 447 0 0 70 [(0, .ref 401), (1, .int v1), (2, .int v2), (3, .int v3)] [] M L (rf ld) Q := by
  unfold J_Mod_sure_70 at h
  obtain ⟨x14, ex14, h⟩ := ltI h
  refine g_iinc (pc1 := 73) (v := x14) (lv' := [(0, .ref 401), (1, .int v1), (2, .int v2), (3, .int x14)]) d_Mod_sure_70 rfl 3 rfl (by rw [ex14]; rfl) (by decide) [1, 2, 3, 0] rfl ?_
  refine g_goto (tgt := 22) d_Mod_sure_73 (by decide) ?_
  exact hK22 v2 x14 M h
def J_Mod_sure_65 (K22 : Int32 → Int32 → gM → Option (Int32 × gM)) (v1 : Int32) (v3 : Int32) (M : gM) : Option (Int32 × gM) :=
  nmI (v3 / 13) (fun x13 => J_Mod_sure_70 K22 v1 x13 v3 M)
set_option maxHeartbeats 4000000 in
set_option maxRecDepth 20000 in
theorem j_Mod_sure_65 {l : Launch} {ld : Nat} {Q : Option Value → gM → gL → gR → Prop} (hld : isLa ld)   {q : Int32 × gM} {M : gM} {L : gL} (hQ : Q (some (.int q.1)) q.2 L (rf ld)) {K22 : Int32 → Int32 → gM → Option (Int32 × gM)} {v1 : Int32} {v3 : Int32} (hK22 : ∀ (w2 : Int32) (w3 : Int32) (M : gM), K22 w2 w3 M = some q → Wp l y_Mod_sure (0, 0, 447) 447 0 0 22 [(0, .ref 401), (1, .int v1), (2, .int w2), (3, .int w3)] [] M L (rf ld) Q) (h : J_Mod_sure_65 K22 v1 v3 M = some q) : Wp l y_Mod_sure (0, 0, 447) 447 0 0 65 [(0, .ref 401), (1, .int v1), (3, .int v3)] [] M L (rf ld) Q := by
  unfold J_Mod_sure_65 at h
  refine g_iload_n (pc1 := 66) d_Mod_sure_65 rfl 2 rfl ?_
  refine g_bipush (pc1 := 68) (v := 13) d_Mod_sure_66 rfl (by decide) ?_
  refine g_idiv (pc1 := 69) d_Mod_sure_68 rfl (by decide) ?_
  refine Wp.lI h (fun x13 h => ?_)
  refine g_istore_n (pc1 := 70) (lv' := [(0, .ref 401), (1, .int v1), (2, .int x13), (3, .int v3)]) d_Mod_sure_69 rfl rfl (by decide) [1, 2, 0, 3] rfl ?_
  exact j_Mod_sure_70 hld  hQ hK22 h
def B_Mod_sure_22 (v1 : Int32) (K22 : Int32 → Int32 → gM → Option (Int32 × gM)) : Int32 → Int32 → gM → Option (Int32 × gM) := fun v2 v3 M =>
  (if ((M 401 18) : Int32) < 0 ∨ 2 ≤ ((M 401 18) : Int32).toNatClampNeg then none else (if (13 * (M 415 ((M 401 18) : Int32).toNatClampNeg)) ≤ v3 then J_Mod_sure_76 v2 M else bI (F_Mod_isWay v3 v1 M) (fun q9 => (if q9.1 = 0 then J_Mod_sure_70 K22 v1 v2 v3 q9.2 else (if v2 < 0 then J_Mod_sure_65 K22 v1 v3 q9.2 else (if v2 = (v3 / 13) then J_Mod_sure_65 K22 v1 v3 q9.2 else some ((-2), q9.2)))))))
def H_Mod_sure_22 (v1 : Int32) : Nat → Int32 → Int32 → gM → Option (Int32 × gM) := lpK (B_Mod_sure_22 v1) (fun _ _ _ => none)
set_option maxHeartbeats 4000000 in
set_option maxRecDepth 20000 in
theorem h_Mod_sure_22 {l : Launch} {ld : Nat} {Q : Option Value → gM → gL → gR → Prop} (hld : isLa ld)   {q : Int32 × gM} {L : gL} (hQ : Q (some (.int q.1)) q.2 L (rf ld))  {v1 : Int32}  : ∀ (f : Nat) (v2 : Int32) (v3 : Int32) (M : gM), H_Mod_sure_22 v1 f v2 v3 M = some q → Wp l y_Mod_sure (0, 0, 447) 447 0 0 22 [(0, .ref 401), (1, .int v1), (2, .int v2), (3, .int v3)] [] M L (rf ld) Q := by
  intro f
  induction f with
  | zero => intro v2 v3 M h; cases h
  | succ f hK22 =>
    intro v2 v3 M h
    replace h : B_Mod_sure_22 v1 (H_Mod_sure_22 v1 f) v2 v3 M = some q := h
    unfold B_Mod_sure_22 at h
    refine g_iload_n (pc1 := 23) d_Mod_sure_22 rfl 3 rfl ?_
    refine g_bipush (pc1 := 25) (v := 13) d_Mod_sure_23 rfl (by decide) ?_
    refine g_aload_n (pc1 := 26) d_Mod_sure_25 rfl 0 rfl ?_
    refine g_getr (pc1 := 29) d_Mod_sure_26 rfl ⟨_, fo_Mod_58⟩ sh_401 (by decide) (rf_401_27 ld) ?_
    refine g_aload_n (pc1 := 30) d_Mod_sure_29 rfl 0 rfl ?_
    refine g_geti (pc1 := 33) d_Mod_sure_30 rfl ⟨_, fo_Mod_236⟩ sh_401 (by decide) ?_
    obtain ⟨g6, h⟩ := gdn h
    refine g_iald (pc1 := 34) d_Mod_sure_33 rfl sh_415 (by decide) g6 ?_
    refine g_imul (pc1 := 35) d_Mod_sure_34 rfl ?_
    refine g_icmp_ge (pc1 := 38) (tgt := 76) d_Mod_sure_35 (by decide) rfl (fun c7 => ?_) (fun c7 => ?_)
    · replace h := itp h c7
      refine Wp.loc (lv' := [(2, .int v2)]) [2] rfl ?_
      exact j_Mod_sure_76 hld  hQ  h
    · replace h := itn h c7
      refine g_aload_n (pc1 := 39) d_Mod_sure_38 rfl 0 rfl ?_
      refine g_iload_n (pc1 := 40) d_Mod_sure_39 rfl 3 rfl ?_
      refine g_iload_n (pc1 := 41) d_Mod_sure_40 rfl 1 rfl ?_
      refine g_callV0 (pc1 := 44) (As := [.int v3, .int v1]) (rest := []) d_Mod_sure_41 rfl mo_Mod_455 mi_Mod_isWay mv_Mod_isWay rfl sh_401 (by decide) (by decide) rfl rfl (Nat.le_of_ble_eq_true rfl) ?_
      obtain ⟨q9, hq10, h⟩ := bnd h
      refine f_Mod_isWay hld  hq10 ?_
      dsimp only [psh]
      refine g_if_ne (pc1 := 47) (tgt := 50) d_Mod_sure_44 (by decide) rfl (fun c11 => ?_) (fun c11 => ?_)
      · replace h := itn h c11
        refine g_iload_n (pc1 := 51) d_Mod_sure_50 rfl 2 rfl ?_
        refine g_if_lt (pc1 := 54) (tgt := 65) d_Mod_sure_51 (by decide) rfl (fun c12 => ?_) (fun c12 => ?_)
        · replace h := itp h c12
          refine Wp.loc (lv' := [(0, .ref 401), (1, .int v1), (3, .int v3)]) [0, 1, 3] rfl ?_
          exact j_Mod_sure_65 hld  hQ hK22 h
        · replace h := itn h c12
          refine g_iload_n (pc1 := 55) d_Mod_sure_54 rfl 2 rfl ?_
          refine g_iload_n (pc1 := 56) d_Mod_sure_55 rfl 3 rfl ?_
          refine g_bipush (pc1 := 58) (v := 13) d_Mod_sure_56 rfl (by decide) ?_
          refine g_idiv (pc1 := 59) d_Mod_sure_58 rfl (by decide) ?_
          refine g_icmp_eq (pc1 := 62) (tgt := 65) d_Mod_sure_59 (by decide) rfl (fun c15 => ?_) (fun c15 => ?_)
          · replace h := itp h c15
            refine Wp.loc (lv' := [(0, .ref 401), (1, .int v1), (3, .int v3)]) [0, 1, 3] rfl ?_
            exact j_Mod_sure_65 hld  hQ hK22 h
          · replace h := itn h c15
            refine g_bipush (pc1 := 64) (v := (-2)) d_Mod_sure_62 rfl (by decide) ?_
            refine g_ireturn (Or.inl rfl) d_Mod_sure_64 rfl ?_
            cases h; exact hQ
      · replace h := itp h c11
        refine g_goto (tgt := 70) d_Mod_sure_47 (by decide) ?_
        exact j_Mod_sure_70 hld  hQ hK22 h
def F_Mod_sure (p1 : Int32) (M : gM) : Option (Int32 × gM) :=
  bI (F_Mod_in p1 0 (M 401 64)) (fun q1 => (if q1 = 0 then some ((-1), M) else bI (F_Mod_copies M) (fun q4 => H_Mod_sure_22 p1 FU (-1) 0 q4)))
set_option maxHeartbeats 4000000 in
set_option maxRecDepth 20000 in
theorem f_Mod_sure {l : Launch} {ld : Nat} {M : gM} {L : gL} {Q : Option Value → gM → gL → gR → Prop} (hld : isLa ld) {p1 : Int32}  {q : Int32 × gM} (h : F_Mod_sure p1 M = some q) (hQ : Q (some (.int q.1)) q.2 L (rf ld)) : Tm l y_Mod_sure (0, 0, 447) 447 [.ref 401, .int p1] M L (rf ld) Q := by
  refine Tm.of (by decide) (Nat.le_of_ble_eq_true rfl) ?_
  show Wp l y_Mod_sure (0, 0, 447) 447 0 0 0 [(0, .ref 401), (1, .int p1)] [] M L (rf ld) Q
  unfold F_Mod_sure at h
  refine g_iload_n (pc1 := 1) d_Mod_sure_0 rfl 1 rfl ?_
  refine g_iconst (pc1 := 2) (v := 0) d_Mod_sure_1 rfl (by decide) ?_
  refine g_aload_n (pc1 := 3) d_Mod_sure_2 rfl 0 rfl ?_
  refine g_geti (pc1 := 6) d_Mod_sure_3 rfl ⟨_, fo_Mod_257⟩ sh_401 (by decide) ?_
  refine g_callS0 (pc1 := 9) (As := [.int p1, .int 0, .int (M 401 64)]) (rest := []) d_Mod_sure_6 rfl mo_Mod_316 ms_Mod_in (by decide) rfl rfl (Nat.le_of_ble_eq_true rfl) ?_
  obtain ⟨q1, hq2, h⟩ := bnd h
  refine f_Mod_in hld  hq2 ?_
  dsimp only [psh]
  refine g_if_ne (pc1 := 12) (tgt := 14) d_Mod_sure_9 (by decide) rfl (fun c3 => ?_) (fun c3 => ?_)
  · replace h := itn h c3
    refine g_aload_n (pc1 := 15) d_Mod_sure_14 rfl 0 rfl ?_
    refine g_callV0 (pc1 := 18) (As := []) (rest := []) d_Mod_sure_15 rfl mo_Mod_377 mi_Mod_copies mv_Mod_copies rfl sh_401 (by decide) (by decide) rfl rfl (Nat.le_of_ble_eq_true rfl) ?_
    obtain ⟨q4, hq5, h⟩ := bnd h
    refine f_Mod_copies hld  hq5 ?_
    dsimp only [psh]
    refine g_iconst (pc1 := 19) (v := (-1)) d_Mod_sure_18 rfl (by decide) ?_
    refine g_istore_n (pc1 := 20) (lv' := [(0, .ref 401), (1, .int p1), (2, .int (-1))]) d_Mod_sure_19 rfl rfl (by decide) [1, 2, 0] rfl ?_
    refine g_iconst (pc1 := 21) (v := 0) d_Mod_sure_20 rfl (by decide) ?_
    refine g_istore_n (pc1 := 22) (lv' := [(0, .ref 401), (1, .int p1), (2, .int (-1)), (3, .int 0)]) d_Mod_sure_21 rfl rfl (by decide) [1, 2, 3, 0] rfl ?_
    exact h_Mod_sure_22 hld  hQ  _ (-1) 0 q4 h
  · replace h := itp h c3
    refine g_iconst (pc1 := 13) (v := (-1)) d_Mod_sure_12 rfl (by decide) ?_
    refine g_ireturn (Or.inl rfl) d_Mod_sure_13 rfl ?_
    cases h; exact hQ

def J_Mod_taste_222 (K142 : Int32 → Int32 → Int32 → Option (Int32 × gM)) (v3 : Int32) (v4 : Int32) (v5 : Int32) (M : gM) : Option (Int32 × gM) :=
  nmI (v5 + 1) (fun x13 => K142 v3 v4 x13)
set_option maxHeartbeats 4000000 in
set_option maxRecDepth 20000 in
theorem j_Mod_taste_222 {l : Launch} {ld : Nat} {Q : Option Value → gM → gL → gR → Prop} (hld : isLa ld)   {q : Int32 × gM} {M : gM} {L : gL} (hQ : Q (some (.int q.1)) q.2 L (rf ld)) {K142 : Int32 → Int32 → Int32 → Option (Int32 × gM)} {v3 : Int32} {v4 : Int32} {v5 : Int32} (hK142 : ∀ (w3 : Int32) (w4 : Int32) (w5 : Int32), K142 w3 w4 w5 = some q → Wp l y_Mod_taste (0, 0, 447) 447 0 0 142 [(0, .ref 401), (3, .int w3), (4, .int w4), (5, .int w5)] [] M L (rf ld) Q) (h : J_Mod_taste_222 K142 v3 v4 v5 M = some q) : Wp l y_Mod_taste (0, 0, 447) 447 0 0 222 [(0, .ref 401), (3, .int v3), (4, .int v4), (5, .int v5)] [] M L (rf ld) Q := by
  unfold J_Mod_taste_222 at h
  obtain ⟨x13, ex13, h⟩ := ltI h
  refine g_iinc (pc1 := 225) (v := x13) (lv' := [(0, .ref 401), (3, .int v3), (4, .int v4), (5, .int x13)]) d_Mod_taste_222 rfl 3 rfl (by rw [ex13]; rfl) (by decide) [1, 2, 3, 0] rfl ?_
  refine g_goto (tgt := 142) d_Mod_taste_225 (by decide) ?_
  exact hK142 v3 v4 x13 h
def J_Mod_taste_215 (K142 : Int32 → Int32 → Int32 → Option (Int32 × gM)) (v5 : Int32) (v6 : Int32) (M : gM) : Option (Int32 × gM) :=
  J_Mod_taste_222 K142 v5 v6 v5 M
set_option maxHeartbeats 4000000 in
set_option maxRecDepth 20000 in
theorem j_Mod_taste_215 {l : Launch} {ld : Nat} {Q : Option Value → gM → gL → gR → Prop} (hld : isLa ld)   {q : Int32 × gM} {M : gM} {L : gL} (hQ : Q (some (.int q.1)) q.2 L (rf ld)) {K142 : Int32 → Int32 → Int32 → Option (Int32 × gM)} {v5 : Int32} {v6 : Int32} (hK142 : ∀ (w3 : Int32) (w4 : Int32) (w5 : Int32), K142 w3 w4 w5 = some q → Wp l y_Mod_taste (0, 0, 447) 447 0 0 142 [(0, .ref 401), (3, .int w3), (4, .int w4), (5, .int w5)] [] M L (rf ld) Q) (h : J_Mod_taste_215 K142 v5 v6 M = some q) : Wp l y_Mod_taste (0, 0, 447) 447 0 0 215 [(0, .ref 401), (5, .int v5), (6, .int v6)] [] M L (rf ld) Q := by
  unfold J_Mod_taste_215 at h
  refine g_iload (pc1 := 217) d_Mod_taste_215 rfl 1 rfl ?_
  refine g_istore_n (pc1 := 218) (lv' := [(0, .ref 401), (3, .int v5), (5, .int v5), (6, .int v6)]) d_Mod_taste_217 rfl rfl (by decide) [1, 0, 2, 3] rfl ?_
  refine g_iload (pc1 := 220) d_Mod_taste_218 rfl 3 rfl ?_
  refine g_istore (pc1 := 222) (lv' := [(0, .ref 401), (3, .int v5), (4, .int v6), (5, .int v5), (6, .int v6)]) d_Mod_taste_220 rfl (by decide) [1, 2, 0, 3, 4] rfl ?_
  refine Wp.loc (lv' := [(0, .ref 401), (3, .int v5), (4, .int v6), (5, .int v5)]) [0, 1, 2, 3] rfl ?_
  exact j_Mod_taste_222 hld  hQ hK142 h
def J_Mod_taste_201 (K142 : Int32 → Int32 → Int32 → Option (Int32 × gM)) (v3 : Int32) (v4 : Int32) (v5 : Int32) (v6 : Int32) (M : gM) : Option (Int32 × gM) :=
  (if v3 < 0 then J_Mod_taste_215 K142 v5 v6 M else (if v6 < v4 then J_Mod_taste_215 K142 v5 v6 M else J_Mod_taste_222 K142 v3 v4 v5 M))
set_option maxHeartbeats 4000000 in
set_option maxRecDepth 20000 in
theorem j_Mod_taste_201 {l : Launch} {ld : Nat} {Q : Option Value → gM → gL → gR → Prop} (hld : isLa ld)   {q : Int32 × gM} {M : gM} {L : gL} (hQ : Q (some (.int q.1)) q.2 L (rf ld)) {K142 : Int32 → Int32 → Int32 → Option (Int32 × gM)} {v3 : Int32} {v4 : Int32} {v5 : Int32} {v6 : Int32} (hK142 : ∀ (w3 : Int32) (w4 : Int32) (w5 : Int32), K142 w3 w4 w5 = some q → Wp l y_Mod_taste (0, 0, 447) 447 0 0 142 [(0, .ref 401), (3, .int w3), (4, .int w4), (5, .int w5)] [] M L (rf ld) Q) (h : J_Mod_taste_201 K142 v3 v4 v5 v6 M = some q) : Wp l y_Mod_taste (0, 0, 447) 447 0 0 201 [(0, .ref 401), (3, .int v3), (4, .int v4), (5, .int v5), (6, .int v6)] [] M L (rf ld) Q := by
  unfold J_Mod_taste_201 at h
  refine g_iload_n (pc1 := 202) d_Mod_taste_201 rfl 1 rfl ?_
  refine g_if_lt (pc1 := 205) (tgt := 215) d_Mod_taste_202 (by decide) rfl (fun c12 => ?_) (fun c12 => ?_)
  · replace h := itp h c12
    refine Wp.loc (lv' := [(0, .ref 401), (5, .int v5), (6, .int v6)]) [0, 3, 4] rfl ?_
    exact j_Mod_taste_215 hld  hQ hK142 h
  · replace h := itn h c12
    refine g_iload (pc1 := 207) d_Mod_taste_205 rfl 4 rfl ?_
    refine g_iload (pc1 := 209) d_Mod_taste_207 rfl 2 rfl ?_
    refine g_icmp_lt (pc1 := 212) (tgt := 215) d_Mod_taste_209 (by decide) rfl (fun c14 => ?_) (fun c14 => ?_)
    · replace h := itp h c14
      refine Wp.loc (lv' := [(0, .ref 401), (5, .int v5), (6, .int v6)]) [0, 3, 4] rfl ?_
      exact j_Mod_taste_215 hld  hQ hK142 h
    · replace h := itn h c14
      refine g_goto (tgt := 222) d_Mod_taste_212 (by decide) ?_
      refine Wp.loc (lv' := [(0, .ref 401), (3, .int v3), (4, .int v4), (5, .int v5)]) [0, 1, 2, 3] rfl ?_
      exact j_Mod_taste_222 hld  hQ hK142 h
def J_Mod_taste_195 (K142 : Int32 → Int32 → Int32 → Option (Int32 × gM)) (K155 : Int32 → Int32 → Option (Int32 × gM)) (v3 : Int32) (v4 : Int32) (v5 : Int32) (v6 : Int32) (v7 : Int32) (M : gM) : Option (Int32 × gM) :=
  nmI (v7 + 1) (fun x17 => K155 v6 x17)
set_option maxHeartbeats 4000000 in
set_option maxRecDepth 20000 in
theorem j_Mod_taste_195 {l : Launch} {ld : Nat} {Q : Option Value → gM → gL → gR → Prop} (hld : isLa ld)   {q : Int32 × gM} {M : gM} {L : gL} (hQ : Q (some (.int q.1)) q.2 L (rf ld)) {K142 : Int32 → Int32 → Int32 → Option (Int32 × gM)} {K155 : Int32 → Int32 → Option (Int32 × gM)} {v3 : Int32} {v4 : Int32} {v5 : Int32} {v6 : Int32} {v7 : Int32} (hK142 : ∀ (w3 : Int32) (w4 : Int32) (w5 : Int32), K142 w3 w4 w5 = some q → Wp l y_Mod_taste (0, 0, 447) 447 0 0 142 [(0, .ref 401), (3, .int w3), (4, .int w4), (5, .int w5)] [] M L (rf ld) Q) (hK155 : ∀ (w6 : Int32) (w7 : Int32), K155 w6 w7 = some q → Wp l y_Mod_taste (0, 0, 447) 447 0 0 155 [(0, .ref 401), (3, .int v3), (4, .int v4), (5, .int v5), (6, .int w6), (7, .int w7)] [] M L (rf ld) Q) (h : J_Mod_taste_195 K142 K155 v3 v4 v5 v6 v7 M = some q) : Wp l y_Mod_taste (0, 0, 447) 447 0 0 195 [(0, .ref 401), (3, .int v3), (4, .int v4), (5, .int v5), (6, .int v6), (7, .int v7)] [] M L (rf ld) Q := by
  unfold J_Mod_taste_195 at h
  obtain ⟨x17, ex17, h⟩ := ltI h
  refine g_iinc (pc1 := 198) (v := x17) (lv' := [(0, .ref 401), (3, .int v3), (4, .int v4), (5, .int v5), (6, .int v6), (7, .int x17)]) d_Mod_taste_195 rfl 5 rfl (by rw [ex17]; rfl) (by decide) [1, 2, 3, 4, 5, 0] rfl ?_
  refine g_goto (tgt := 155) d_Mod_taste_198 (by decide) ?_
  exact hK155 v6 x17 h
def B_Mod_taste_155 (K142 : Int32 → Int32 → Int32 → Option (Int32 × gM)) (v3 : Int32) (v4 : Int32) (v5 : Int32) (M : gM) (K155 : Int32 → Int32 → Option (Int32 × gM)) : Int32 → Int32 → Option (Int32 × gM) := fun v6 v7 =>
  (if 100 ≤ v7 then J_Mod_taste_201 K142 v3 v4 v5 v6 M else (if (((100 * v5) + v7) : Int32) < 0 ∨ 3000 ≤ (((100 * v5) + v7) : Int32).toNatClampNeg then none else (if (M 444 (((100 * v5) + v7) : Int32).toNatClampNeg) ≤ v6 then J_Mod_taste_195 K142 K155 v3 v4 v5 v6 v7 M else (if (((100 * v5) + v7) : Int32) < 0 ∨ 3000 ≤ (((100 * v5) + v7) : Int32).toNatClampNeg then none else nmI (M 444 (((100 * v5) + v7) : Int32).toNatClampNeg) (fun x19 => J_Mod_taste_195 K142 K155 v3 v4 v5 x19 v7 M)))))
def H_Mod_taste_155 (K142 : Int32 → Int32 → Int32 → Option (Int32 × gM)) (v3 : Int32) (v4 : Int32) (v5 : Int32) (M : gM) : Nat → Int32 → Int32 → Option (Int32 × gM) := lpK (B_Mod_taste_155 K142 v3 v4 v5 M) (fun _ _ => none)
set_option maxHeartbeats 4000000 in
set_option maxRecDepth 20000 in
theorem h_Mod_taste_155 {l : Launch} {ld : Nat} {Q : Option Value → gM → gL → gR → Prop} (hld : isLa ld)   {q : Int32 × gM} {M : gM} {L : gL} (hQ : Q (some (.int q.1)) q.2 L (rf ld)) {K142 : Int32 → Int32 → Int32 → Option (Int32 × gM)} {v3 : Int32} {v4 : Int32} {v5 : Int32} (hK142 : ∀ (w3 : Int32) (w4 : Int32) (w5 : Int32), K142 w3 w4 w5 = some q → Wp l y_Mod_taste (0, 0, 447) 447 0 0 142 [(0, .ref 401), (3, .int w3), (4, .int w4), (5, .int w5)] [] M L (rf ld) Q) : ∀ (f : Nat) (v6 : Int32) (v7 : Int32), H_Mod_taste_155 K142 v3 v4 v5 M f v6 v7 = some q → Wp l y_Mod_taste (0, 0, 447) 447 0 0 155 [(0, .ref 401), (3, .int v3), (4, .int v4), (5, .int v5), (6, .int v6), (7, .int v7)] [] M L (rf ld) Q := by
  intro f
  induction f with
  | zero => intro v6 v7 h; cases h
  | succ f hK155 =>
    intro v6 v7 h
    replace h : B_Mod_taste_155 K142 v3 v4 v5 M (H_Mod_taste_155 K142 v3 v4 v5 M f) v6 v7 = some q := h
    unfold B_Mod_taste_155 at h
    refine g_iload (pc1 := 157) d_Mod_taste_155 rfl 5 rfl ?_
    refine g_bipush (pc1 := 159) (v := 100) d_Mod_taste_157 rfl (by decide) ?_
    refine g_icmp_ge (pc1 := 162) (tgt := 201) d_Mod_taste_159 (by decide) rfl (fun c11 => ?_) (fun c11 => ?_)
    · replace h := itp h c11
      refine Wp.loc (lv' := [(0, .ref 401), (3, .int v3), (4, .int v4), (5, .int v5), (6, .int v6)]) [0, 1, 2, 3, 4] rfl ?_
      exact j_Mod_taste_201 hld  hQ hK142 h
    · replace h := itn h c11
      refine g_aload_n (pc1 := 163) d_Mod_taste_162 rfl 0 rfl ?_
      refine g_getr (pc1 := 166) d_Mod_taste_163 rfl ⟨_, fo_Mod_146⟩ sh_401 (by decide) (rf_401_68 ld) ?_
      refine g_bipush (pc1 := 168) (v := 100) d_Mod_taste_166 rfl (by decide) ?_
      refine g_iload (pc1 := 170) d_Mod_taste_168 rfl 3 rfl ?_
      refine g_imul (pc1 := 171) d_Mod_taste_170 rfl ?_
      refine g_iload (pc1 := 173) d_Mod_taste_171 rfl 5 rfl ?_
      refine g_iadd (pc1 := 174) d_Mod_taste_173 rfl ?_
      obtain ⟨g15, h⟩ := gdn h
      refine g_iald (pc1 := 175) d_Mod_taste_174 rfl sh_444 (by decide) g15 ?_
      refine g_iload (pc1 := 177) d_Mod_taste_175 rfl 4 rfl ?_
      refine g_icmp_le (pc1 := 180) (tgt := 195) d_Mod_taste_177 (by decide) rfl (fun c16 => ?_) (fun c16 => ?_)
      · replace h := itp h c16
        exact j_Mod_taste_195 hld  hQ hK142 hK155 h
      · replace h := itn h c16
        refine g_aload_n (pc1 := 181) d_Mod_taste_180 rfl 0 rfl ?_
        refine g_getr (pc1 := 184) d_Mod_taste_181 rfl ⟨_, fo_Mod_146⟩ sh_401 (by decide) (rf_401_68 ld) ?_
        refine g_bipush (pc1 := 186) (v := 100) d_Mod_taste_184 rfl (by decide) ?_
        refine g_iload (pc1 := 188) d_Mod_taste_186 rfl 3 rfl ?_
        refine g_imul (pc1 := 189) d_Mod_taste_188 rfl ?_
        refine g_iload (pc1 := 191) d_Mod_taste_189 rfl 5 rfl ?_
        refine g_iadd (pc1 := 192) d_Mod_taste_191 rfl ?_
        obtain ⟨g18, h⟩ := gdn h
        refine g_iald (pc1 := 193) d_Mod_taste_192 rfl sh_444 (by decide) g18 ?_
        refine Wp.lI h (fun x19 h => ?_)
        refine g_istore (pc1 := 195) (lv' := [(0, .ref 401), (3, .int v3), (4, .int v4), (5, .int v5), (6, .int x19), (7, .int v7)]) d_Mod_taste_193 rfl (by decide) [1, 2, 3, 4, 0, 5] rfl ?_
        exact j_Mod_taste_195 hld  hQ hK142 hK155 h
def B_Mod_taste_142 (M : gM) (K142 : Int32 → Int32 → Int32 → Option (Int32 × gM)) : Int32 → Int32 → Int32 → Option (Int32 × gM) := fun v3 v4 v5 =>
  (if 30 ≤ v5 then some (v3, M) else H_Mod_taste_155 K142 v3 v4 v5 M FU 0 0)
def H_Mod_taste_142 (M : gM) : Nat → Int32 → Int32 → Int32 → Option (Int32 × gM) := lpK (B_Mod_taste_142 M) (fun _ _ _ => none)
set_option maxHeartbeats 4000000 in
set_option maxRecDepth 20000 in
theorem h_Mod_taste_142 {l : Launch} {ld : Nat} {Q : Option Value → gM → gL → gR → Prop} (hld : isLa ld)   {q : Int32 × gM} {M : gM} {L : gL} (hQ : Q (some (.int q.1)) q.2 L (rf ld))    : ∀ (f : Nat) (v3 : Int32) (v4 : Int32) (v5 : Int32), H_Mod_taste_142 M f v3 v4 v5 = some q → Wp l y_Mod_taste (0, 0, 447) 447 0 0 142 [(0, .ref 401), (3, .int v3), (4, .int v4), (5, .int v5)] [] M L (rf ld) Q := by
  intro f
  induction f with
  | zero => intro v3 v4 v5 h; cases h
  | succ f hK142 =>
    intro v3 v4 v5 h
    replace h : B_Mod_taste_142 M (H_Mod_taste_142 M f) v3 v4 v5 = some q := h
    unfold B_Mod_taste_142 at h
    refine g_iload (pc1 := 144) d_Mod_taste_142 rfl 3 rfl ?_
    refine g_bipush (pc1 := 146) (v := 30) d_Mod_taste_144 rfl (by decide) ?_
    refine g_icmp_ge (pc1 := 149) (tgt := 228) d_Mod_taste_146 (by decide) rfl (fun c10 => ?_) (fun c10 => ?_)
    · replace h := itp h c10
      refine g_iload_n (pc1 := 229) d_Mod_taste_228 rfl 1 rfl ?_
      refine g_ireturn (Or.inl rfl) d_Mod_taste_229 rfl ?_
      cases h; exact hQ
    · replace h := itn h c10
      refine g_iconst (pc1 := 150) (v := 0) d_Mod_taste_149 rfl (by decide) ?_
      refine g_istore (pc1 := 152) (lv' := [(0, .ref 401), (3, .int v3), (4, .int v4), (5, .int v5), (6, .int 0)]) d_Mod_taste_150 rfl (by decide) [1, 2, 3, 4, 0] rfl ?_
      refine g_iconst (pc1 := 153) (v := 0) d_Mod_taste_152 rfl (by decide) ?_
      refine g_istore (pc1 := 155) (lv' := [(0, .ref 401), (3, .int v3), (4, .int v4), (5, .int v5), (6, .int 0), (7, .int 0)]) d_Mod_taste_153 rfl (by decide) [1, 2, 3, 4, 5, 0] rfl ?_
      exact h_Mod_taste_155 hld  hQ hK142 _ 0 0 h
def J_Mod_taste_126 (v2 : Int32) (M : gM) : Option (Int32 × gM) :=
  (if v2 = 0 then some ((-2), M) else H_Mod_taste_142 M FU (-2) 0 0)
set_option maxHeartbeats 4000000 in
set_option maxRecDepth 20000 in
theorem j_Mod_taste_126 {l : Launch} {ld : Nat} {Q : Option Value → gM → gL → gR → Prop} (hld : isLa ld)   {q : Int32 × gM} {M : gM} {L : gL} (hQ : Q (some (.int q.1)) q.2 L (rf ld))  {v2 : Int32}  (h : J_Mod_taste_126 v2 M = some q) : Wp l y_Mod_taste (0, 0, 447) 447 0 0 126 [(0, .ref 401), (2, .int v2)] [] M L (rf ld) Q := by
  unfold J_Mod_taste_126 at h
  refine g_iload_n (pc1 := 127) d_Mod_taste_126 rfl 1 rfl ?_
  refine g_if_ne (pc1 := 130) (tgt := 133) d_Mod_taste_127 (by decide) rfl (fun c9 => ?_) (fun c9 => ?_)
  · replace h := itn h c9
    refine g_bipush (pc1 := 135) (v := (-2)) d_Mod_taste_133 rfl (by decide) ?_
    refine g_istore_n (pc1 := 136) (lv' := [(0, .ref 401), (2, .int v2), (3, .int (-2))]) d_Mod_taste_135 rfl rfl (by decide) [1, 2, 0] rfl ?_
    refine g_iconst (pc1 := 137) (v := 0) d_Mod_taste_136 rfl (by decide) ?_
    refine g_istore (pc1 := 139) (lv' := [(0, .ref 401), (2, .int v2), (3, .int (-2)), (4, .int 0)]) d_Mod_taste_137 rfl (by decide) [1, 2, 3, 0] rfl ?_
    refine g_iconst (pc1 := 140) (v := 0) d_Mod_taste_139 rfl (by decide) ?_
    refine g_istore (pc1 := 142) (lv' := [(0, .ref 401), (2, .int v2), (3, .int (-2)), (4, .int 0), (5, .int 0)]) d_Mod_taste_140 rfl (by decide) [1, 2, 3, 4, 0] rfl ?_
    refine Wp.loc (lv' := [(0, .ref 401), (3, .int (-2)), (4, .int 0), (5, .int 0)]) [0, 2, 3, 4] rfl ?_
    exact h_Mod_taste_142 hld  hQ  _ (-2) 0 0 h
  · replace h := itp h c9
    refine g_bipush (pc1 := 132) (v := (-2)) d_Mod_taste_130 rfl (by decide) ?_
    refine g_ireturn (Or.inl rfl) d_Mod_taste_132 rfl ?_
    cases h; exact hQ
def J_Mod_taste_120 (K44 : Int32 → Int32 → gM → Option (Int32 × gM)) (v1 : Int32) (v2 : Int32) (v3 : Int32) (M : gM) : Option (Int32 × gM) :=
  nmI (v3 + 1) (fun x25 => K44 v2 x25 M)
set_option maxHeartbeats 4000000 in
set_option maxRecDepth 20000 in
theorem j_Mod_taste_120 {l : Launch} {ld : Nat} {Q : Option Value → gM → gL → gR → Prop} (hld : isLa ld)   {q : Int32 × gM} {M : gM} {L : gL} (hQ : Q (some (.int q.1)) q.2 L (rf ld)) {K44 : Int32 → Int32 → gM → Option (Int32 × gM)} {v1 : Int32} {v2 : Int32} {v3 : Int32} (hK44 : ∀ (w2 : Int32) (w3 : Int32) (M : gM), K44 w2 w3 M = some q → Wp l y_Mod_taste (0, 0, 447) 447 0 0 44 [(0, .ref 401), (1, .int v1), (2, .int w2), (3, .int w3)] [] M L (rf ld) Q) (h : J_Mod_taste_120 K44 v1 v2 v3 M = some q) : Wp l y_Mod_taste (0, 0, 447) 447 0 0 120 [(0, .ref 401), (1, .int v1), (2, .int v2), (3, .int v3)] [] M L (rf ld) Q := by
  unfold J_Mod_taste_120 at h
  obtain ⟨x25, ex25, h⟩ := ltI h
  refine g_iinc (pc1 := 123) (v := x25) (lv' := [(0, .ref 401), (1, .int v1), (2, .int v2), (3, .int x25)]) d_Mod_taste_120 rfl 3 rfl (by rw [ex25]; rfl) (by decide) [1, 2, 3, 0] rfl ?_
  refine g_goto (tgt := 44) d_Mod_taste_123 (by decide) ?_
  exact hK44 v2 x25 M h
def B_Mod_taste_78 (K44 : Int32 → Int32 → gM → Option (Int32 × gM)) (v1 : Int32) (v2 : Int32) (v3 : Int32) (K78 : Int32 → gM → Option (Int32 × gM)) : Int32 → gM → Option (Int32 × gM) := fun v4 M =>
  (if 30 ≤ v4 then J_Mod_taste_120 K44 v1 v2 v3 M else bI (F_Mod_forceBy (v4 / 10) (v4 - v4 / 10 * 10) M) (fun q26 => (if (((100 * v4) + q26.1) : Int32) < 0 ∨ 3000 ≤ (((100 * v4) + q26.1) : Int32).toNatClampNeg then none else (if (((100 * v4) + q26.1) : Int32) < 0 ∨ 3000 ≤ (((100 * v4) + q26.1) : Int32).toNatClampNeg then none else nmM (uM q26.2 444 (((100 * v4) + q26.1) : Int32).toNatClampNeg ((q26.2 444 (((100 * v4) + q26.1) : Int32).toNatClampNeg) + 1)) (fun M30 => nmI (v4 + 1) (fun x31 => K78 x31 M30))))))
def H_Mod_taste_78 (K44 : Int32 → Int32 → gM → Option (Int32 × gM)) (v1 : Int32) (v2 : Int32) (v3 : Int32) : Nat → Int32 → gM → Option (Int32 × gM) := lpK (B_Mod_taste_78 K44 v1 v2 v3) (fun _ _ => none)
set_option maxHeartbeats 4000000 in
set_option maxRecDepth 20000 in
theorem h_Mod_taste_78 {l : Launch} {ld : Nat} {Q : Option Value → gM → gL → gR → Prop} (hld : isLa ld)   {q : Int32 × gM} {L : gL} (hQ : Q (some (.int q.1)) q.2 L (rf ld)) {K44 : Int32 → Int32 → gM → Option (Int32 × gM)} {v1 : Int32} {v2 : Int32} {v3 : Int32} (hK44 : ∀ (w2 : Int32) (w3 : Int32) (M : gM), K44 w2 w3 M = some q → Wp l y_Mod_taste (0, 0, 447) 447 0 0 44 [(0, .ref 401), (1, .int v1), (2, .int w2), (3, .int w3)] [] M L (rf ld) Q) : ∀ (f : Nat) (v4 : Int32) (M : gM), H_Mod_taste_78 K44 v1 v2 v3 f v4 M = some q → Wp l y_Mod_taste (0, 0, 447) 447 0 0 78 [(0, .ref 401), (1, .int v1), (2, .int v2), (3, .int v3), (4, .int v4)] [] M L (rf ld) Q := by
  intro f
  induction f with
  | zero => intro v4 M h; cases h
  | succ f hK78 =>
    intro v4 M h
    replace h : B_Mod_taste_78 K44 v1 v2 v3 (H_Mod_taste_78 K44 v1 v2 v3 f) v4 M = some q := h
    unfold B_Mod_taste_78 at h
    refine g_iload (pc1 := 80) d_Mod_taste_78 rfl 4 rfl ?_
    refine g_bipush (pc1 := 82) (v := 30) d_Mod_taste_80 rfl (by decide) ?_
    refine g_icmp_ge (pc1 := 85) (tgt := 120) d_Mod_taste_82 (by decide) rfl (fun c24 => ?_) (fun c24 => ?_)
    · replace h := itp h c24
      refine Wp.loc (lv' := [(0, .ref 401), (1, .int v1), (2, .int v2), (3, .int v3)]) [0, 1, 2, 3] rfl ?_
      exact j_Mod_taste_120 hld  hQ hK44 h
    · replace h := itn h c24
      refine g_aload_n (pc1 := 86) d_Mod_taste_85 rfl 0 rfl ?_
      refine g_getr (pc1 := 89) d_Mod_taste_86 rfl ⟨_, fo_Mod_146⟩ sh_401 (by decide) (rf_401_68 ld) ?_
      refine g_bipush (pc1 := 91) (v := 100) d_Mod_taste_89 rfl (by decide) ?_
      refine g_iload (pc1 := 93) d_Mod_taste_91 rfl 4 rfl ?_
      refine g_imul (pc1 := 94) d_Mod_taste_93 rfl ?_
      refine g_aload_n (pc1 := 95) d_Mod_taste_94 rfl 0 rfl ?_
      refine g_iload (pc1 := 97) d_Mod_taste_95 rfl 4 rfl ?_
      refine g_bipush (pc1 := 99) (v := 10) d_Mod_taste_97 rfl (by decide) ?_
      refine g_idiv (pc1 := 100) d_Mod_taste_99 rfl (by decide) ?_
      refine g_iload (pc1 := 102) d_Mod_taste_100 rfl 4 rfl ?_
      refine g_bipush (pc1 := 104) (v := 10) d_Mod_taste_102 rfl (by decide) ?_
      refine g_irem (pc1 := 105) d_Mod_taste_104 rfl (by decide) ?_
      refine g_callV0 (pc1 := 108) (As := [.int (v4 / 10), .int (v4 - v4 / 10 * 10)]) (rest := [.int (100 * v4), .ref 444]) d_Mod_taste_105 rfl mo_Mod_359 mi_Mod_forceBy mv_Mod_forceBy rfl sh_401 (by decide) (by decide) rfl rfl (Nat.le_of_ble_eq_true rfl) ?_
      obtain ⟨q26, hq27, h⟩ := bnd h
      refine f_Mod_forceBy hld  hq27 ?_
      dsimp only [psh]
      refine g_iadd (pc1 := 109) d_Mod_taste_108 rfl ?_
      refine g_dup2 (pc1 := 110) d_Mod_taste_109 rfl rfl rfl ?_
      obtain ⟨g28, h⟩ := gdn h
      refine g_iald (pc1 := 111) d_Mod_taste_110 rfl sh_444 (by decide) g28 ?_
      refine g_iconst (pc1 := 112) (v := 1) d_Mod_taste_111 rfl (by decide) ?_
      refine g_iadd (pc1 := 113) d_Mod_taste_112 rfl ?_
      obtain ⟨g29, h⟩ := gdn h
      refine g_iast (pc1 := 114) d_Mod_taste_113 rfl sh_444 (by decide) g29 ?_
      refine Wp.lM h (fun M30 h => ?_)
      obtain ⟨x31, ex31, h⟩ := ltI h
      refine g_iinc (pc1 := 117) (v := x31) (lv' := [(0, .ref 401), (1, .int v1), (2, .int v2), (3, .int v3), (4, .int x31)]) d_Mod_taste_114 rfl 4 rfl (by rw [ex31]; rfl) (by decide) [1, 2, 3, 4, 0] rfl ?_
      refine g_goto (tgt := 78) d_Mod_taste_117 (by decide) ?_
      exact hK78 x31 M30 h
def B_Mod_taste_44 (v1 : Int32) (K44 : Int32 → Int32 → gM → Option (Int32 × gM)) : Int32 → Int32 → gM → Option (Int32 × gM) := fun v2 v3 M =>
  (if ((M 401 18) : Int32) < 0 ∨ 2 ≤ ((M 401 18) : Int32).toNatClampNeg then none else (if (13 * (M 415 ((M 401 18) : Int32).toNatClampNeg)) ≤ v3 then J_Mod_taste_126 v2 M else bI (F_Mod_isWay v3 v1 M) (fun q20 => (if q20.1 = 0 then J_Mod_taste_120 K44 v1 v2 v3 q20.2 else nmI (v2 + 1) (fun x23 => H_Mod_taste_78 K44 v1 x23 v3 FU 0 q20.2)))))
def H_Mod_taste_44 (v1 : Int32) : Nat → Int32 → Int32 → gM → Option (Int32 × gM) := lpK (B_Mod_taste_44 v1) (fun _ _ _ => none)
set_option maxHeartbeats 4000000 in
set_option maxRecDepth 20000 in
theorem h_Mod_taste_44 {l : Launch} {ld : Nat} {Q : Option Value → gM → gL → gR → Prop} (hld : isLa ld)   {q : Int32 × gM} {L : gL} (hQ : Q (some (.int q.1)) q.2 L (rf ld))  {v1 : Int32}  : ∀ (f : Nat) (v2 : Int32) (v3 : Int32) (M : gM), H_Mod_taste_44 v1 f v2 v3 M = some q → Wp l y_Mod_taste (0, 0, 447) 447 0 0 44 [(0, .ref 401), (1, .int v1), (2, .int v2), (3, .int v3)] [] M L (rf ld) Q := by
  intro f
  induction f with
  | zero => intro v2 v3 M h; cases h
  | succ f hK44 =>
    intro v2 v3 M h
    replace h : B_Mod_taste_44 v1 (H_Mod_taste_44 v1 f) v2 v3 M = some q := h
    unfold B_Mod_taste_44 at h
    refine g_iload_n (pc1 := 45) d_Mod_taste_44 rfl 3 rfl ?_
    refine g_bipush (pc1 := 47) (v := 13) d_Mod_taste_45 rfl (by decide) ?_
    refine g_aload_n (pc1 := 48) d_Mod_taste_47 rfl 0 rfl ?_
    refine g_getr (pc1 := 51) d_Mod_taste_48 rfl ⟨_, fo_Mod_58⟩ sh_401 (by decide) (rf_401_27 ld) ?_
    refine g_aload_n (pc1 := 52) d_Mod_taste_51 rfl 0 rfl ?_
    refine g_geti (pc1 := 55) d_Mod_taste_52 rfl ⟨_, fo_Mod_236⟩ sh_401 (by decide) ?_
    obtain ⟨g7, h⟩ := gdn h
    refine g_iald (pc1 := 56) d_Mod_taste_55 rfl sh_415 (by decide) g7 ?_
    refine g_imul (pc1 := 57) d_Mod_taste_56 rfl ?_
    refine g_icmp_ge (pc1 := 60) (tgt := 126) d_Mod_taste_57 (by decide) rfl (fun c8 => ?_) (fun c8 => ?_)
    · replace h := itp h c8
      refine Wp.loc (lv' := [(0, .ref 401), (2, .int v2)]) [0, 2] rfl ?_
      exact j_Mod_taste_126 hld  hQ  h
    · replace h := itn h c8
      refine g_aload_n (pc1 := 61) d_Mod_taste_60 rfl 0 rfl ?_
      refine g_iload_n (pc1 := 62) d_Mod_taste_61 rfl 3 rfl ?_
      refine g_iload_n (pc1 := 63) d_Mod_taste_62 rfl 1 rfl ?_
      refine g_callV0 (pc1 := 66) (As := [.int v3, .int v1]) (rest := []) d_Mod_taste_63 rfl mo_Mod_455 mi_Mod_isWay mv_Mod_isWay rfl sh_401 (by decide) (by decide) rfl rfl (Nat.le_of_ble_eq_true rfl) ?_
      obtain ⟨q20, hq21, h⟩ := bnd h
      refine f_Mod_isWay hld  hq21 ?_
      dsimp only [psh]
      refine g_if_ne (pc1 := 69) (tgt := 72) d_Mod_taste_66 (by decide) rfl (fun c22 => ?_) (fun c22 => ?_)
      · replace h := itn h c22
        obtain ⟨x23, ex23, h⟩ := ltI h
        refine g_iinc (pc1 := 75) (v := x23) (lv' := [(0, .ref 401), (1, .int v1), (2, .int x23), (3, .int v3)]) d_Mod_taste_72 rfl 2 rfl (by rw [ex23]; rfl) (by decide) [1, 2, 0, 3] rfl ?_
        refine g_iconst (pc1 := 76) (v := 0) d_Mod_taste_75 rfl (by decide) ?_
        refine g_istore (pc1 := 78) (lv' := [(0, .ref 401), (1, .int v1), (2, .int x23), (3, .int v3), (4, .int 0)]) d_Mod_taste_76 rfl (by decide) [1, 2, 3, 4, 0] rfl ?_
        exact h_Mod_taste_78 hld  hQ hK44 _ 0 q20.2 h
      · replace h := itp h c22
        refine g_goto (tgt := 120) d_Mod_taste_69 (by decide) ?_
        exact j_Mod_taste_120 hld  hQ hK44 h
def J_Mod_taste_40 (v1 : Int32) (M : gM) : Option (Int32 × gM) :=
  H_Mod_taste_44 v1 FU 0 0 M
set_option maxHeartbeats 4000000 in
set_option maxRecDepth 20000 in
theorem j_Mod_taste_40 {l : Launch} {ld : Nat} {Q : Option Value → gM → gL → gR → Prop} (hld : isLa ld)   {q : Int32 × gM} {M : gM} {L : gL} (hQ : Q (some (.int q.1)) q.2 L (rf ld))  {v1 : Int32}  (h : J_Mod_taste_40 v1 M = some q) : Wp l y_Mod_taste (0, 0, 447) 447 0 0 40 [(0, .ref 401), (1, .int v1)] [] M L (rf ld) Q := by
  unfold J_Mod_taste_40 at h
  refine g_iconst (pc1 := 41) (v := 0) d_Mod_taste_40 rfl (by decide) ?_
  refine g_istore_n (pc1 := 42) (lv' := [(0, .ref 401), (1, .int v1), (2, .int 0)]) d_Mod_taste_41 rfl rfl (by decide) [1, 2, 0] rfl ?_
  refine g_iconst (pc1 := 43) (v := 0) d_Mod_taste_42 rfl (by decide) ?_
  refine g_istore_n (pc1 := 44) (lv' := [(0, .ref 401), (1, .int v1), (2, .int 0), (3, .int 0)]) d_Mod_taste_43 rfl rfl (by decide) [1, 2, 3, 0] rfl ?_
  exact h_Mod_taste_44 hld  hQ  _ 0 0 M h
def B_Mod_taste_20 (v1 : Int32) (K20 : Int32 → gM → Option (Int32 × gM)) : Int32 → gM → Option (Int32 × gM) := fun v2 M =>
  (if 3000 ≤ v2 then J_Mod_taste_40 v1 M else (if (v2 : Int32) < 0 ∨ 3000 ≤ (v2 : Int32).toNatClampNeg then none else nmM (uM M 444 (v2 : Int32).toNatClampNeg 0) (fun M33 => nmI (v2 + 1) (fun x34 => K20 x34 M33))))
def H_Mod_taste_20 (v1 : Int32) : Nat → Int32 → gM → Option (Int32 × gM) := lpK (B_Mod_taste_20 v1) (fun _ _ => none)
set_option maxHeartbeats 4000000 in
set_option maxRecDepth 20000 in
theorem h_Mod_taste_20 {l : Launch} {ld : Nat} {Q : Option Value → gM → gL → gR → Prop} (hld : isLa ld)   {q : Int32 × gM} {L : gL} (hQ : Q (some (.int q.1)) q.2 L (rf ld))  {v1 : Int32}  : ∀ (f : Nat) (v2 : Int32) (M : gM), H_Mod_taste_20 v1 f v2 M = some q → Wp l y_Mod_taste (0, 0, 447) 447 0 0 20 [(0, .ref 401), (1, .int v1), (2, .int v2)] [] M L (rf ld) Q := by
  intro f
  induction f with
  | zero => intro v2 M h; cases h
  | succ f hK20 =>
    intro v2 M h
    replace h : B_Mod_taste_20 v1 (H_Mod_taste_20 v1 f) v2 M = some q := h
    unfold B_Mod_taste_20 at h
    refine g_iload_n (pc1 := 21) d_Mod_taste_20 rfl 2 rfl ?_
    refine g_sipush (pc1 := 24) (v := 3000) d_Mod_taste_21 rfl (by decide) ?_
    refine g_icmp_ge (pc1 := 27) (tgt := 40) d_Mod_taste_24 (by decide) rfl (fun c6 => ?_) (fun c6 => ?_)
    · replace h := itp h c6
      refine Wp.loc (lv' := [(0, .ref 401), (1, .int v1)]) [0, 1] rfl ?_
      exact j_Mod_taste_40 hld  hQ  h
    · replace h := itn h c6
      refine g_aload_n (pc1 := 28) d_Mod_taste_27 rfl 0 rfl ?_
      refine g_getr (pc1 := 31) d_Mod_taste_28 rfl ⟨_, fo_Mod_146⟩ sh_401 (by decide) (rf_401_68 ld) ?_
      refine g_iload_n (pc1 := 32) d_Mod_taste_31 rfl 2 rfl ?_
      refine g_iconst (pc1 := 33) (v := 0) d_Mod_taste_32 rfl (by decide) ?_
      obtain ⟨g32, h⟩ := gdn h
      refine g_iast (pc1 := 34) d_Mod_taste_33 rfl sh_444 (by decide) g32 ?_
      refine Wp.lM h (fun M33 h => ?_)
      obtain ⟨x34, ex34, h⟩ := ltI h
      refine g_iinc (pc1 := 37) (v := x34) (lv' := [(0, .ref 401), (1, .int v1), (2, .int x34)]) d_Mod_taste_34 rfl 2 rfl (by rw [ex34]; rfl) (by decide) [1, 2, 0] rfl ?_
      refine g_goto (tgt := 20) d_Mod_taste_37 (by decide) ?_
      exact hK20 x34 M33 h
def F_Mod_taste (p1 : Int32) (M : gM) : Option (Int32 × gM) :=
  bI (F_Mod_in p1 0 (M 401 64)) (fun q1 => (if q1 = 0 then some ((-1), M) else bI (F_Mod_copies M) (fun q4 => H_Mod_taste_20 p1 FU 0 q4)))
set_option maxHeartbeats 4000000 in
set_option maxRecDepth 20000 in
theorem f_Mod_taste {l : Launch} {ld : Nat} {M : gM} {L : gL} {Q : Option Value → gM → gL → gR → Prop} (hld : isLa ld) {p1 : Int32}  {q : Int32 × gM} (h : F_Mod_taste p1 M = some q) (hQ : Q (some (.int q.1)) q.2 L (rf ld)) : Tm l y_Mod_taste (0, 0, 447) 447 [.ref 401, .int p1] M L (rf ld) Q := by
  refine Tm.of (by decide) (Nat.le_of_ble_eq_true rfl) ?_
  show Wp l y_Mod_taste (0, 0, 447) 447 0 0 0 [(0, .ref 401), (1, .int p1)] [] M L (rf ld) Q
  unfold F_Mod_taste at h
  refine g_iload_n (pc1 := 1) d_Mod_taste_0 rfl 1 rfl ?_
  refine g_iconst (pc1 := 2) (v := 0) d_Mod_taste_1 rfl (by decide) ?_
  refine g_aload_n (pc1 := 3) d_Mod_taste_2 rfl 0 rfl ?_
  refine g_geti (pc1 := 6) d_Mod_taste_3 rfl ⟨_, fo_Mod_257⟩ sh_401 (by decide) ?_
  refine g_callS0 (pc1 := 9) (As := [.int p1, .int 0, .int (M 401 64)]) (rest := []) d_Mod_taste_6 rfl mo_Mod_316 ms_Mod_in (by decide) rfl rfl (Nat.le_of_ble_eq_true rfl) ?_
  obtain ⟨q1, hq2, h⟩ := bnd h
  refine f_Mod_in hld  hq2 ?_
  dsimp only [psh]
  refine g_if_ne (pc1 := 12) (tgt := 14) d_Mod_taste_9 (by decide) rfl (fun c3 => ?_) (fun c3 => ?_)
  · replace h := itn h c3
    refine g_aload_n (pc1 := 15) d_Mod_taste_14 rfl 0 rfl ?_
    refine g_callV0 (pc1 := 18) (As := []) (rest := []) d_Mod_taste_15 rfl mo_Mod_377 mi_Mod_copies mv_Mod_copies rfl sh_401 (by decide) (by decide) rfl rfl (Nat.le_of_ble_eq_true rfl) ?_
    obtain ⟨q4, hq5, h⟩ := bnd h
    refine f_Mod_copies hld  hq5 ?_
    dsimp only [psh]
    refine g_iconst (pc1 := 19) (v := 0) d_Mod_taste_18 rfl (by decide) ?_
    refine g_istore_n (pc1 := 20) (lv' := [(0, .ref 401), (1, .int p1), (2, .int 0)]) d_Mod_taste_19 rfl rfl (by decide) [1, 2, 0] rfl ?_
    exact h_Mod_taste_20 hld  hQ  _ 0 q4 h
  · replace h := itp h c3
    refine g_iconst (pc1 := 13) (v := (-1)) d_Mod_taste_12 rfl (by decide) ?_
    refine g_ireturn (Or.inl rfl) d_Mod_taste_13 rfl ?_
    cases h; exact hQ

def J_Mod_tellOne_380 (v1 : Int32) (M : gM) (L : gL) : Option (gM × gL) :=
  (if (M 401 13) ≤ 0 then bI (F_Mod_goesOn M) (fun q64 => bI (F_Mod_tellLaw v1 q64) (fun q66 => some (q66, L))) else some (M, L))
set_option maxHeartbeats 4000000 in
set_option maxRecDepth 20000 in
theorem j_Mod_tellOne_380 {l : Launch} {ld : Nat} {Q : Option Value → gM → gL → gR → Prop} (hld : isLa ld)   {q : gM × gL} {M : gM} {L : gL} (hQ : Q none q.1 q.2 (rf ld))  {v1 : Int32}  (h : J_Mod_tellOne_380 v1 M L = some q) : Wp l y_Mod_tellOne (0, 0, 447) 447 0 0 380 [(0, .ref 401), (1, .int v1)] [] M L (rf ld) Q := by
  unfold J_Mod_tellOne_380 at h
  refine g_aload_n (pc1 := 381) d_Mod_tellOne_380 rfl 0 rfl ?_
  refine g_geti (pc1 := 384) d_Mod_tellOne_381 rfl ⟨_, fo_Mod_206⟩ sh_401 (by decide) ?_
  refine g_if_le (pc1 := 387) (tgt := 388) d_Mod_tellOne_384 (by decide) rfl (fun c63 => ?_) (fun c63 => ?_)
  · replace h := itp h c63
    refine g_aload_n (pc1 := 389) d_Mod_tellOne_388 rfl 0 rfl ?_
    refine g_callV0 (pc1 := 392) (As := []) (rest := []) d_Mod_tellOne_389 rfl mo_Mod_227 mi_Mod_goesOn mv_Mod_goesOn rfl sh_401 (by decide) (by decide) rfl rfl (Nat.le_of_ble_eq_true rfl) ?_
    obtain ⟨q64, hq65, h⟩ := bnd h
    refine f_Mod_goesOn hld  hq65 ?_
    dsimp only [psh]
    refine g_aload_n (pc1 := 393) d_Mod_tellOne_392 rfl 0 rfl ?_
    refine g_iload_n (pc1 := 394) d_Mod_tellOne_393 rfl 1 rfl ?_
    refine g_callV0 (pc1 := 397) (As := [.int v1]) (rest := []) d_Mod_tellOne_394 rfl mo_Mod_284 mi_Mod_tellLaw mv_Mod_tellLaw rfl sh_401 (by decide) (by decide) rfl rfl (Nat.le_of_ble_eq_true rfl) ?_
    obtain ⟨q66, hq67, h⟩ := bnd h
    refine f_Mod_tellLaw hld  hq67 ?_
    dsimp only [psh]
    refine g_return rfl d_Mod_tellOne_397 rfl ?_
    cases h; exact hQ
  · replace h := itn h c63
    refine g_return rfl d_Mod_tellOne_387 rfl ?_
    cases h; exact hQ
def J_Mod_tellOne_375 (v1 : Int32) (M : gM) (L : gL) : Option (gM × gL) :=
  bI (F_Mod_fail 1 M) (fun q61 => J_Mod_tellOne_380 v1 q61 L)
set_option maxHeartbeats 4000000 in
set_option maxRecDepth 20000 in
theorem j_Mod_tellOne_375 {l : Launch} {ld : Nat} {Q : Option Value → gM → gL → gR → Prop} (hld : isLa ld)   {q : gM × gL} {M : gM} {L : gL} (hQ : Q none q.1 q.2 (rf ld))  {v1 : Int32}  (h : J_Mod_tellOne_375 v1 M L = some q) : Wp l y_Mod_tellOne (0, 0, 447) 447 0 0 375 [(0, .ref 401), (1, .int v1)] [] M L (rf ld) Q := by
  unfold J_Mod_tellOne_375 at h
  refine g_aload_n (pc1 := 376) d_Mod_tellOne_375 rfl 0 rfl ?_
  refine g_iconst (pc1 := 377) (v := 1) d_Mod_tellOne_376 rfl (by decide) ?_
  refine g_callV0 (pc1 := 380) (As := [.int 1]) (rest := []) d_Mod_tellOne_377 rfl mo_Mod_221 mi_Mod_fail mv_Mod_fail rfl sh_401 (by decide) (by decide) rfl rfl (Nat.le_of_ble_eq_true rfl) ?_
  obtain ⟨q61, hq62, h⟩ := bnd h
  refine f_Mod_fail hld  hq62 ?_
  dsimp only [psh]
  exact j_Mod_tellOne_380 hld  hQ  h
def F_Mod_tellOne (M : gM) (L : gL) : Option (gM × gL) :=
  (if ((M 401 11) : Int32) < 0 ∨ 403 ≤ ((M 401 11) : Int32).toNatClampNeg then none else (if (M 404 ((M 401 11) : Int32).toNatClampNeg) = 20 then (if ((M 401 19) : Int32) < 0 ∨ 2 ≤ ((M 401 19) : Int32).toNatClampNeg then none else bI (F_Mod_roomFor (M 411 ((M 401 19) : Int32).toNatClampNeg) 6 M) (fun q4 => (if (q4 401 13) = 0 then bI (F_Mod_tellFood q4 L) (fun q7 => some (q7.1, q7.2)) else some (q4, L)))) else (if (M 404 ((M 401 11) : Int32).toNatClampNeg) = 21 then (if ((M 401 19) : Int32) < 0 ∨ 2 ≤ ((M 401 19) : Int32).toNatClampNeg then none else bI (F_Mod_roomFor (M 415 ((M 401 19) : Int32).toNatClampNeg) 5 M) (fun q11 => (if (q11 401 13) = 0 then bI (F_Mod_tellDish q11 L) (fun q14 => some (q14.1, q14.2)) else some (q11, L)))) else (if (M 404 ((M 401 11) : Int32).toNatClampNeg) = 22 then (if ((M 401 19) : Int32) < 0 ∨ 2 ≤ ((M 401 19) : Int32).toNatClampNeg then none else bI (F_Mod_roomFor (M 418 ((M 401 19) : Int32).toNatClampNeg) 4 M) (fun q18 => (if (q18 401 13) ≤ 0 then bI (F_Mod_named q18 L) (fun q21 => (if ((q21.2 401 19) : Int32) < 0 ∨ 2 ≤ ((q21.2 401 19) : Int32).toNatClampNeg then none else bI (F_Mod_bounded 0 9 q21.2) (fun q24 => (if (((4 * (q21.2 401 19)) + (q21.2 418 ((q21.2 401 19) : Int32).toNatClampNeg)) : Int32) < 0 ∨ 8 ≤ (((4 * (q21.2 401 19)) + (q21.2 418 ((q21.2 401 19) : Int32).toNatClampNeg)) : Int32).toNatClampNeg then none else nmM (uM q24.2 419 (((4 * (q21.2 401 19)) + (q21.2 418 ((q21.2 401 19) : Int32).toNatClampNeg)) : Int32).toNatClampNeg q24.1) (fun M27 => bI (F_Mod_ends q21.1 (-1) M27 L) (fun q28 => (if (q28.1 401 13) = 0 then (if ((q28.1 401 19) : Int32) < 0 ∨ 2 ≤ ((q28.1 401 19) : Int32).toNatClampNeg then none else (if ((q28.1 401 19) : Int32) < 0 ∨ 2 ≤ ((q28.1 401 19) : Int32).toNatClampNeg then none else nmM (uM q28.1 418 ((q28.1 401 19) : Int32).toNatClampNeg ((q28.1 418 ((q28.1 401 19) : Int32).toNatClampNeg) + 1)) (fun M33 => some (M33, q28.2)))) else some (q28.1, q28.2)))))))) else some (q18, L)))) else (if (M 404 ((M 401 11) : Int32).toNatClampNeg) = 23 then (if ((M 401 19) : Int32) < 0 ∨ 2 ≤ ((M 401 19) : Int32).toNatClampNeg then none else bI (F_Mod_roomFor (M 420 ((M 401 19) : Int32).toNatClampNeg) 6 M) (fun q36 => (if (q36 401 13) ≤ 0 then bI (F_Mod_named q36 L) (fun q39 => (if ((q39.2 401 19) : Int32) < 0 ∨ 2 ≤ ((q39.2 401 19) : Int32).toNatClampNeg then none else bI (F_Mod_bounded 0 2 q39.2) (fun q42 => (if (((6 * (q39.2 401 19)) + (q39.2 420 ((q39.2 401 19) : Int32).toNatClampNeg)) : Int32) < 0 ∨ 12 ≤ (((6 * (q39.2 401 19)) + (q39.2 420 ((q39.2 401 19) : Int32).toNatClampNeg)) : Int32).toNatClampNeg then none else nmM (uM q42.2 421 (((6 * (q39.2 401 19)) + (q39.2 420 ((q39.2 401 19) : Int32).toNatClampNeg)) : Int32).toNatClampNeg q42.1) (fun M45 => (if ((M45 401 19) : Int32) < 0 ∨ 2 ≤ ((M45 401 19) : Int32).toNatClampNeg then none else bI (F_Mod_bounded 0 99 M45) (fun q47 => (if (((6 * (M45 401 19)) + (M45 420 ((M45 401 19) : Int32).toNatClampNeg)) : Int32) < 0 ∨ 12 ≤ (((6 * (M45 401 19)) + (M45 420 ((M45 401 19) : Int32).toNatClampNeg)) : Int32).toNatClampNeg then none else nmM (uM q47.2 422 (((6 * (M45 401 19)) + (M45 420 ((M45 401 19) : Int32).toNatClampNeg)) : Int32).toNatClampNeg q47.1) (fun M50 => bI (F_Mod_ends q39.1 (-1) M50 L) (fun q51 => (if (q51.1 401 13) = 0 then (if ((q51.1 401 19) : Int32) < 0 ∨ 2 ≤ ((q51.1 401 19) : Int32).toNatClampNeg then none else (if ((q51.1 401 19) : Int32) < 0 ∨ 2 ≤ ((q51.1 401 19) : Int32).toNatClampNeg then none else nmM (uM q51.1 420 ((q51.1 401 19) : Int32).toNatClampNeg ((q51.1 420 ((q51.1 401 19) : Int32).toNatClampNeg) + 1)) (fun M56 => some (M56, q51.2)))) else some (q51.1, q51.2)))))))))))) else some (q36, L)))) else (if (M 404 ((M 401 11) : Int32).toNatClampNeg) = 24 then (if ((M 401 11) : Int32) < 0 ∨ 403 ≤ ((M 401 11) : Int32).toNatClampNeg then none else nmI ((M 404 ((M 401 11) : Int32).toNatClampNeg) - 24) (fun x59 => (if x59 < 0 then J_Mod_tellOne_375 x59 M L else (if ((M 401 11) : Int32) < 0 ∨ 403 ≤ ((M 401 11) : Int32).toNatClampNeg then none else (if (M 404 ((M 401 11) : Int32).toNatClampNeg) ≤ 27 then J_Mod_tellOne_380 x59 M L else J_Mod_tellOne_375 x59 M L))))) else (if (M 404 ((M 401 11) : Int32).toNatClampNeg) = 25 then (if ((M 401 11) : Int32) < 0 ∨ 403 ≤ ((M 401 11) : Int32).toNatClampNeg then none else nmI ((M 404 ((M 401 11) : Int32).toNatClampNeg) - 24) (fun x72 => (if x72 < 0 then J_Mod_tellOne_375 x72 M L else (if ((M 401 11) : Int32) < 0 ∨ 403 ≤ ((M 401 11) : Int32).toNatClampNeg then none else (if (M 404 ((M 401 11) : Int32).toNatClampNeg) ≤ 27 then J_Mod_tellOne_380 x72 M L else J_Mod_tellOne_375 x72 M L))))) else (if (M 404 ((M 401 11) : Int32).toNatClampNeg) = 26 then (if ((M 401 11) : Int32) < 0 ∨ 403 ≤ ((M 401 11) : Int32).toNatClampNeg then none else nmI ((M 404 ((M 401 11) : Int32).toNatClampNeg) - 24) (fun x78 => (if x78 < 0 then J_Mod_tellOne_375 x78 M L else (if ((M 401 11) : Int32) < 0 ∨ 403 ≤ ((M 401 11) : Int32).toNatClampNeg then none else (if (M 404 ((M 401 11) : Int32).toNatClampNeg) ≤ 27 then J_Mod_tellOne_380 x78 M L else J_Mod_tellOne_375 x78 M L))))) else (if (M 404 ((M 401 11) : Int32).toNatClampNeg) = 27 then (if ((M 401 11) : Int32) < 0 ∨ 403 ≤ ((M 401 11) : Int32).toNatClampNeg then none else nmI ((M 404 ((M 401 11) : Int32).toNatClampNeg) - 24) (fun x84 => (if x84 < 0 then J_Mod_tellOne_375 x84 M L else (if ((M 401 11) : Int32) < 0 ∨ 403 ≤ ((M 401 11) : Int32).toNatClampNeg then none else (if (M 404 ((M 401 11) : Int32).toNatClampNeg) ≤ 27 then J_Mod_tellOne_380 x84 M L else J_Mod_tellOne_375 x84 M L))))) else (if (M 404 ((M 401 11) : Int32).toNatClampNeg) = 28 then bI (F_Mod_goesOn M) (fun q89 => bI (F_Mod_bounded 0 9999 q89) (fun q91 => (if ((q89 401 19) : Int32) < 0 ∨ 2 ≤ ((q89 401 19) : Int32).toNatClampNeg then none else nmM (uM q91.2 423 ((q89 401 19) : Int32).toNatClampNeg q91.1) (fun M94 => bI (F_Mod_must 4 M94) (fun q95 => some (q95, L)))))) else (if ((M 401 11) : Int32) < 0 ∨ 403 ≤ ((M 401 11) : Int32).toNatClampNeg then none else nmI ((M 404 ((M 401 11) : Int32).toNatClampNeg) - 24) (fun x98 => (if x98 < 0 then J_Mod_tellOne_375 x98 M L else (if ((M 401 11) : Int32) < 0 ∨ 403 ≤ ((M 401 11) : Int32).toNatClampNeg then none else (if (M 404 ((M 401 11) : Int32).toNatClampNeg) ≤ 27 then J_Mod_tellOne_380 x98 M L else J_Mod_tellOne_375 x98 M L)))))))))))))))
set_option maxHeartbeats 4000000 in
set_option maxRecDepth 20000 in
theorem f_Mod_tellOne {l : Launch} {ld : Nat} {M : gM} {L : gL} {Q : Option Value → gM → gL → gR → Prop} (hld : isLa ld)   {q : gM × gL} (h : F_Mod_tellOne M L = some q) (hQ : Q none q.1 q.2 (rf ld)) : Tm l y_Mod_tellOne (0, 0, 447) 447 [.ref 401] M L (rf ld) Q := by
  refine Tm.of (by decide) (Nat.le_of_ble_eq_true rfl) ?_
  show Wp l y_Mod_tellOne (0, 0, 447) 447 0 0 0 [(0, .ref 401)] [] M L (rf ld) Q
  unfold F_Mod_tellOne at h
  refine g_aload_n (pc1 := 1) d_Mod_tellOne_0 rfl 0 rfl ?_
  refine g_getr (pc1 := 4) d_Mod_tellOne_1 rfl ⟨_, fo_Mod_20⟩ sh_401 (by decide) (rf_401_5 ld) ?_
  refine g_aload_n (pc1 := 5) d_Mod_tellOne_4 rfl 0 rfl ?_
  refine g_geti (pc1 := 8) d_Mod_tellOne_5 rfl ⟨_, fo_Mod_209⟩ sh_401 (by decide) ?_
  obtain ⟨g1, h⟩ := gdn h
  refine g_iald (pc1 := 9) d_Mod_tellOne_8 rfl sh_404 (by decide) g1 ?_
  by_cases c2 : (M 404 ((M 401 11) : Int32).toNatClampNeg) = 20
  · replace h := itp h c2
    refine g_tabK (tgt := 60) (off := 51) d_Mod_tellOne_9 c2 (by decide) (by decide) (by decide) (by decide) ?_
    refine g_aload_n (pc1 := 61) d_Mod_tellOne_60 rfl 0 rfl ?_
    refine g_aload_n (pc1 := 62) d_Mod_tellOne_61 rfl 0 rfl ?_
    refine g_getr (pc1 := 65) d_Mod_tellOne_62 rfl ⟨_, fo_Mod_46⟩ sh_401 (by decide) (rf_401_23 ld) ?_
    refine g_aload_n (pc1 := 66) d_Mod_tellOne_65 rfl 0 rfl ?_
    refine g_geti (pc1 := 69) d_Mod_tellOne_66 rfl ⟨_, fo_Mod_239⟩ sh_401 (by decide) ?_
    obtain ⟨g3, h⟩ := gdn h
    refine g_iald (pc1 := 70) d_Mod_tellOne_69 rfl sh_411 (by decide) g3 ?_
    refine g_bipush (pc1 := 72) (v := 6) d_Mod_tellOne_70 rfl (by decide) ?_
    refine g_callV0 (pc1 := 75) (As := [.int (M 411 ((M 401 19) : Int32).toNatClampNeg), .int 6]) (rest := []) d_Mod_tellOne_72 rfl mo_Mod_260 mi_Mod_roomFor mv_Mod_roomFor rfl sh_401 (by decide) (by decide) rfl rfl (Nat.le_of_ble_eq_true rfl) ?_
    obtain ⟨q4, hq5, h⟩ := bnd h
    refine f_Mod_roomFor hld  hq5 ?_
    dsimp only [psh]
    refine g_aload_n (pc1 := 76) d_Mod_tellOne_75 rfl 0 rfl ?_
    refine g_geti (pc1 := 79) d_Mod_tellOne_76 rfl ⟨_, fo_Mod_206⟩ sh_401 (by decide) ?_
    refine g_if_ne (pc1 := 82) (tgt := 397) d_Mod_tellOne_79 (by decide) rfl (fun c6 => ?_) (fun c6 => ?_)
    · replace h := itn h c6
      refine g_return rfl d_Mod_tellOne_397 rfl ?_
      cases h; exact hQ
    · replace h := itp h c6
      refine g_aload_n (pc1 := 83) d_Mod_tellOne_82 rfl 0 rfl ?_
      refine g_callV0 (pc1 := 86) (As := []) (rest := []) d_Mod_tellOne_83 rfl mo_Mod_264 mi_Mod_tellFood mv_Mod_tellFood rfl sh_401 (by decide) (by decide) rfl rfl (Nat.le_of_ble_eq_true rfl) ?_
      obtain ⟨q7, hq8, h⟩ := bnd h
      refine f_Mod_tellFood hld  hq8 ?_
      dsimp only [psh]
      refine g_goto (tgt := 397) d_Mod_tellOne_86 (by decide) ?_
      refine g_return rfl d_Mod_tellOne_397 rfl ?_
      cases h; exact hQ
  replace h := itn h c2
  by_cases c9 : (M 404 ((M 401 11) : Int32).toNatClampNeg) = 21
  · replace h := itp h c9
    refine g_tabK (tgt := 89) (off := 80) d_Mod_tellOne_9 c9 (by decide) (by decide) (by decide) (by decide) ?_
    refine g_aload_n (pc1 := 90) d_Mod_tellOne_89 rfl 0 rfl ?_
    refine g_aload_n (pc1 := 91) d_Mod_tellOne_90 rfl 0 rfl ?_
    refine g_getr (pc1 := 94) d_Mod_tellOne_91 rfl ⟨_, fo_Mod_58⟩ sh_401 (by decide) (rf_401_27 ld) ?_
    refine g_aload_n (pc1 := 95) d_Mod_tellOne_94 rfl 0 rfl ?_
    refine g_geti (pc1 := 98) d_Mod_tellOne_95 rfl ⟨_, fo_Mod_239⟩ sh_401 (by decide) ?_
    obtain ⟨g10, h⟩ := gdn h
    refine g_iald (pc1 := 99) d_Mod_tellOne_98 rfl sh_415 (by decide) g10 ?_
    refine g_iconst (pc1 := 100) (v := 5) d_Mod_tellOne_99 rfl (by decide) ?_
    refine g_callV0 (pc1 := 103) (As := [.int (M 415 ((M 401 19) : Int32).toNatClampNeg), .int 5]) (rest := []) d_Mod_tellOne_100 rfl mo_Mod_260 mi_Mod_roomFor mv_Mod_roomFor rfl sh_401 (by decide) (by decide) rfl rfl (Nat.le_of_ble_eq_true rfl) ?_
    obtain ⟨q11, hq12, h⟩ := bnd h
    refine f_Mod_roomFor hld  hq12 ?_
    dsimp only [psh]
    refine g_aload_n (pc1 := 104) d_Mod_tellOne_103 rfl 0 rfl ?_
    refine g_geti (pc1 := 107) d_Mod_tellOne_104 rfl ⟨_, fo_Mod_206⟩ sh_401 (by decide) ?_
    refine g_if_ne (pc1 := 110) (tgt := 397) d_Mod_tellOne_107 (by decide) rfl (fun c13 => ?_) (fun c13 => ?_)
    · replace h := itn h c13
      refine g_return rfl d_Mod_tellOne_397 rfl ?_
      cases h; exact hQ
    · replace h := itp h c13
      refine g_aload_n (pc1 := 111) d_Mod_tellOne_110 rfl 0 rfl ?_
      refine g_callV0 (pc1 := 114) (As := []) (rest := []) d_Mod_tellOne_111 rfl mo_Mod_267 mi_Mod_tellDish mv_Mod_tellDish rfl sh_401 (by decide) (by decide) rfl rfl (Nat.le_of_ble_eq_true rfl) ?_
      obtain ⟨q14, hq15, h⟩ := bnd h
      refine f_Mod_tellDish hld  hq15 ?_
      dsimp only [psh]
      refine g_goto (tgt := 397) d_Mod_tellOne_114 (by decide) ?_
      refine g_return rfl d_Mod_tellOne_397 rfl ?_
      cases h; exact hQ
  replace h := itn h c9
  by_cases c16 : (M 404 ((M 401 11) : Int32).toNatClampNeg) = 22
  · replace h := itp h c16
    refine g_tabK (tgt := 117) (off := 108) d_Mod_tellOne_9 c16 (by decide) (by decide) (by decide) (by decide) ?_
    refine g_aload_n (pc1 := 118) d_Mod_tellOne_117 rfl 0 rfl ?_
    refine g_aload_n (pc1 := 119) d_Mod_tellOne_118 rfl 0 rfl ?_
    refine g_getr (pc1 := 122) d_Mod_tellOne_119 rfl ⟨_, fo_Mod_67⟩ sh_401 (by decide) (rf_401_30 ld) ?_
    refine g_aload_n (pc1 := 123) d_Mod_tellOne_122 rfl 0 rfl ?_
    refine g_geti (pc1 := 126) d_Mod_tellOne_123 rfl ⟨_, fo_Mod_239⟩ sh_401 (by decide) ?_
    obtain ⟨g17, h⟩ := gdn h
    refine g_iald (pc1 := 127) d_Mod_tellOne_126 rfl sh_418 (by decide) g17 ?_
    refine g_iconst (pc1 := 128) (v := 4) d_Mod_tellOne_127 rfl (by decide) ?_
    refine g_callV0 (pc1 := 131) (As := [.int (M 418 ((M 401 19) : Int32).toNatClampNeg), .int 4]) (rest := []) d_Mod_tellOne_128 rfl mo_Mod_260 mi_Mod_roomFor mv_Mod_roomFor rfl sh_401 (by decide) (by decide) rfl rfl (Nat.le_of_ble_eq_true rfl) ?_
    obtain ⟨q18, hq19, h⟩ := bnd h
    refine f_Mod_roomFor hld  hq19 ?_
    dsimp only [psh]
    refine g_aload_n (pc1 := 132) d_Mod_tellOne_131 rfl 0 rfl ?_
    refine g_geti (pc1 := 135) d_Mod_tellOne_132 rfl ⟨_, fo_Mod_206⟩ sh_401 (by decide) ?_
    refine g_if_le (pc1 := 138) (tgt := 139) d_Mod_tellOne_135 (by decide) rfl (fun c20 => ?_) (fun c20 => ?_)
    · replace h := itp h c20
      refine g_aload_n (pc1 := 140) d_Mod_tellOne_139 rfl 0 rfl ?_
      refine g_callV0 (pc1 := 143) (As := []) (rest := []) d_Mod_tellOne_140 rfl mo_Mod_270 mi_Mod_named mv_Mod_named rfl sh_401 (by decide) (by decide) rfl rfl (Nat.le_of_ble_eq_true rfl) ?_
      obtain ⟨q21, hq22, h⟩ := bnd h
      refine f_Mod_named hld  hq22 ?_
      dsimp only [psh]
      refine g_istore_n (pc1 := 144) (lv' := [(0, .ref 401), (1, .int q21.1)]) d_Mod_tellOne_143 rfl rfl (by decide) [1, 0] rfl ?_
      refine g_aload_n (pc1 := 145) d_Mod_tellOne_144 rfl 0 rfl ?_
      refine g_getr (pc1 := 148) d_Mod_tellOne_145 rfl ⟨_, fo_Mod_70⟩ sh_401 (by decide) (rf_401_31 ld) ?_
      refine g_iconst (pc1 := 149) (v := 4) d_Mod_tellOne_148 rfl (by decide) ?_
      refine g_aload_n (pc1 := 150) d_Mod_tellOne_149 rfl 0 rfl ?_
      refine g_geti (pc1 := 153) d_Mod_tellOne_150 rfl ⟨_, fo_Mod_239⟩ sh_401 (by decide) ?_
      refine g_imul (pc1 := 154) d_Mod_tellOne_153 rfl ?_
      refine g_aload_n (pc1 := 155) d_Mod_tellOne_154 rfl 0 rfl ?_
      refine g_getr (pc1 := 158) d_Mod_tellOne_155 rfl ⟨_, fo_Mod_67⟩ sh_401 (by decide) (rf_401_30 ld) ?_
      refine g_aload_n (pc1 := 159) d_Mod_tellOne_158 rfl 0 rfl ?_
      refine g_geti (pc1 := 162) d_Mod_tellOne_159 rfl ⟨_, fo_Mod_239⟩ sh_401 (by decide) ?_
      obtain ⟨g23, h⟩ := gdn h
      refine g_iald (pc1 := 163) d_Mod_tellOne_162 rfl sh_418 (by decide) g23 ?_
      refine g_iadd (pc1 := 164) d_Mod_tellOne_163 rfl ?_
      refine g_aload_n (pc1 := 165) d_Mod_tellOne_164 rfl 0 rfl ?_
      refine g_iconst (pc1 := 166) (v := 0) d_Mod_tellOne_165 rfl (by decide) ?_
      refine g_bipush (pc1 := 168) (v := 9) d_Mod_tellOne_166 rfl (by decide) ?_
      refine g_callV0 (pc1 := 171) (As := [.int 0, .int 9]) (rest := [.int ((4 * (q21.2 401 19)) + (q21.2 418 ((q21.2 401 19) : Int32).toNatClampNeg)), .ref 419]) d_Mod_tellOne_168 rfl mo_Mod_274 mi_Mod_bounded mv_Mod_bounded rfl sh_401 (by decide) (by decide) rfl rfl (Nat.le_of_ble_eq_true rfl) ?_
      obtain ⟨q24, hq25, h⟩ := bnd h
      refine f_Mod_bounded hld  hq25 ?_
      dsimp only [psh]
      obtain ⟨g26, h⟩ := gdn h
      refine g_iast (pc1 := 172) d_Mod_tellOne_171 rfl sh_419 (by decide) g26 ?_
      refine Wp.lM h (fun M27 h => ?_)
      refine g_aload_n (pc1 := 173) d_Mod_tellOne_172 rfl 0 rfl ?_
      refine g_iload_n (pc1 := 174) d_Mod_tellOne_173 rfl 1 rfl ?_
      refine g_iconst (pc1 := 175) (v := (-1)) d_Mod_tellOne_174 rfl (by decide) ?_
      refine g_callV0 (pc1 := 178) (As := [.int q21.1, .int (-1)]) (rest := []) d_Mod_tellOne_175 rfl mo_Mod_278 mi_Mod_ends mv_Mod_ends rfl sh_401 (by decide) (by decide) rfl rfl (Nat.le_of_ble_eq_true rfl) ?_
      obtain ⟨q28, hq29, h⟩ := bnd h
      refine f_Mod_ends hld  hq29 ?_
      dsimp only [psh]
      refine g_aload_n (pc1 := 179) d_Mod_tellOne_178 rfl 0 rfl ?_
      refine g_geti (pc1 := 182) d_Mod_tellOne_179 rfl ⟨_, fo_Mod_206⟩ sh_401 (by decide) ?_
      refine g_if_ne (pc1 := 185) (tgt := 397) d_Mod_tellOne_182 (by decide) rfl (fun c30 => ?_) (fun c30 => ?_)
      · replace h := itn h c30
        refine g_return rfl d_Mod_tellOne_397 rfl ?_
        cases h; exact hQ
      · replace h := itp h c30
        refine g_aload_n (pc1 := 186) d_Mod_tellOne_185 rfl 0 rfl ?_
        refine g_getr (pc1 := 189) d_Mod_tellOne_186 rfl ⟨_, fo_Mod_67⟩ sh_401 (by decide) (rf_401_30 ld) ?_
        refine g_aload_n (pc1 := 190) d_Mod_tellOne_189 rfl 0 rfl ?_
        refine g_geti (pc1 := 193) d_Mod_tellOne_190 rfl ⟨_, fo_Mod_239⟩ sh_401 (by decide) ?_
        refine g_dup2 (pc1 := 194) d_Mod_tellOne_193 rfl rfl rfl ?_
        obtain ⟨g31, h⟩ := gdn h
        refine g_iald (pc1 := 195) d_Mod_tellOne_194 rfl sh_418 (by decide) g31 ?_
        refine g_iconst (pc1 := 196) (v := 1) d_Mod_tellOne_195 rfl (by decide) ?_
        refine g_iadd (pc1 := 197) d_Mod_tellOne_196 rfl ?_
        obtain ⟨g32, h⟩ := gdn h
        refine g_iast (pc1 := 198) d_Mod_tellOne_197 rfl sh_418 (by decide) g32 ?_
        refine Wp.lM h (fun M33 h => ?_)
        refine g_goto (tgt := 397) d_Mod_tellOne_198 (by decide) ?_
        refine g_return rfl d_Mod_tellOne_397 rfl ?_
        cases h; exact hQ
    · replace h := itn h c20
      refine g_return rfl d_Mod_tellOne_138 rfl ?_
      cases h; exact hQ
  replace h := itn h c16
  by_cases c34 : (M 404 ((M 401 11) : Int32).toNatClampNeg) = 23
  · replace h := itp h c34
    refine g_tabK (tgt := 201) (off := 192) d_Mod_tellOne_9 c34 (by decide) (by decide) (by decide) (by decide) ?_
    refine g_aload_n (pc1 := 202) d_Mod_tellOne_201 rfl 0 rfl ?_
    refine g_aload_n (pc1 := 203) d_Mod_tellOne_202 rfl 0 rfl ?_
    refine g_getr (pc1 := 206) d_Mod_tellOne_203 rfl ⟨_, fo_Mod_73⟩ sh_401 (by decide) (rf_401_32 ld) ?_
    refine g_aload_n (pc1 := 207) d_Mod_tellOne_206 rfl 0 rfl ?_
    refine g_geti (pc1 := 210) d_Mod_tellOne_207 rfl ⟨_, fo_Mod_239⟩ sh_401 (by decide) ?_
    obtain ⟨g35, h⟩ := gdn h
    refine g_iald (pc1 := 211) d_Mod_tellOne_210 rfl sh_420 (by decide) g35 ?_
    refine g_bipush (pc1 := 213) (v := 6) d_Mod_tellOne_211 rfl (by decide) ?_
    refine g_callV0 (pc1 := 216) (As := [.int (M 420 ((M 401 19) : Int32).toNatClampNeg), .int 6]) (rest := []) d_Mod_tellOne_213 rfl mo_Mod_260 mi_Mod_roomFor mv_Mod_roomFor rfl sh_401 (by decide) (by decide) rfl rfl (Nat.le_of_ble_eq_true rfl) ?_
    obtain ⟨q36, hq37, h⟩ := bnd h
    refine f_Mod_roomFor hld  hq37 ?_
    dsimp only [psh]
    refine g_aload_n (pc1 := 217) d_Mod_tellOne_216 rfl 0 rfl ?_
    refine g_geti (pc1 := 220) d_Mod_tellOne_217 rfl ⟨_, fo_Mod_206⟩ sh_401 (by decide) ?_
    refine g_if_le (pc1 := 223) (tgt := 224) d_Mod_tellOne_220 (by decide) rfl (fun c38 => ?_) (fun c38 => ?_)
    · replace h := itp h c38
      refine g_aload_n (pc1 := 225) d_Mod_tellOne_224 rfl 0 rfl ?_
      refine g_callV0 (pc1 := 228) (As := []) (rest := []) d_Mod_tellOne_225 rfl mo_Mod_270 mi_Mod_named mv_Mod_named rfl sh_401 (by decide) (by decide) rfl rfl (Nat.le_of_ble_eq_true rfl) ?_
      obtain ⟨q39, hq40, h⟩ := bnd h
      refine f_Mod_named hld  hq40 ?_
      dsimp only [psh]
      refine g_istore_n (pc1 := 229) (lv' := [(0, .ref 401), (1, .int q39.1)]) d_Mod_tellOne_228 rfl rfl (by decide) [1, 0] rfl ?_
      refine g_aload_n (pc1 := 230) d_Mod_tellOne_229 rfl 0 rfl ?_
      refine g_getr (pc1 := 233) d_Mod_tellOne_230 rfl ⟨_, fo_Mod_76⟩ sh_401 (by decide) (rf_401_33 ld) ?_
      refine g_bipush (pc1 := 235) (v := 6) d_Mod_tellOne_233 rfl (by decide) ?_
      refine g_aload_n (pc1 := 236) d_Mod_tellOne_235 rfl 0 rfl ?_
      refine g_geti (pc1 := 239) d_Mod_tellOne_236 rfl ⟨_, fo_Mod_239⟩ sh_401 (by decide) ?_
      refine g_imul (pc1 := 240) d_Mod_tellOne_239 rfl ?_
      refine g_aload_n (pc1 := 241) d_Mod_tellOne_240 rfl 0 rfl ?_
      refine g_getr (pc1 := 244) d_Mod_tellOne_241 rfl ⟨_, fo_Mod_73⟩ sh_401 (by decide) (rf_401_32 ld) ?_
      refine g_aload_n (pc1 := 245) d_Mod_tellOne_244 rfl 0 rfl ?_
      refine g_geti (pc1 := 248) d_Mod_tellOne_245 rfl ⟨_, fo_Mod_239⟩ sh_401 (by decide) ?_
      obtain ⟨g41, h⟩ := gdn h
      refine g_iald (pc1 := 249) d_Mod_tellOne_248 rfl sh_420 (by decide) g41 ?_
      refine g_iadd (pc1 := 250) d_Mod_tellOne_249 rfl ?_
      refine g_aload_n (pc1 := 251) d_Mod_tellOne_250 rfl 0 rfl ?_
      refine g_iconst (pc1 := 252) (v := 0) d_Mod_tellOne_251 rfl (by decide) ?_
      refine g_iconst (pc1 := 253) (v := 2) d_Mod_tellOne_252 rfl (by decide) ?_
      refine g_callV0 (pc1 := 256) (As := [.int 0, .int 2]) (rest := [.int ((6 * (q39.2 401 19)) + (q39.2 420 ((q39.2 401 19) : Int32).toNatClampNeg)), .ref 421]) d_Mod_tellOne_253 rfl mo_Mod_274 mi_Mod_bounded mv_Mod_bounded rfl sh_401 (by decide) (by decide) rfl rfl (Nat.le_of_ble_eq_true rfl) ?_
      obtain ⟨q42, hq43, h⟩ := bnd h
      refine f_Mod_bounded hld  hq43 ?_
      dsimp only [psh]
      obtain ⟨g44, h⟩ := gdn h
      refine g_iast (pc1 := 257) d_Mod_tellOne_256 rfl sh_421 (by decide) g44 ?_
      refine Wp.lM h (fun M45 h => ?_)
      refine g_aload_n (pc1 := 258) d_Mod_tellOne_257 rfl 0 rfl ?_
      refine g_getr (pc1 := 261) d_Mod_tellOne_258 rfl ⟨_, fo_Mod_79⟩ sh_401 (by decide) (rf_401_34 ld) ?_
      refine g_bipush (pc1 := 263) (v := 6) d_Mod_tellOne_261 rfl (by decide) ?_
      refine g_aload_n (pc1 := 264) d_Mod_tellOne_263 rfl 0 rfl ?_
      refine g_geti (pc1 := 267) d_Mod_tellOne_264 rfl ⟨_, fo_Mod_239⟩ sh_401 (by decide) ?_
      refine g_imul (pc1 := 268) d_Mod_tellOne_267 rfl ?_
      refine g_aload_n (pc1 := 269) d_Mod_tellOne_268 rfl 0 rfl ?_
      refine g_getr (pc1 := 272) d_Mod_tellOne_269 rfl ⟨_, fo_Mod_73⟩ sh_401 (by decide) (rf_401_32 ld) ?_
      refine g_aload_n (pc1 := 273) d_Mod_tellOne_272 rfl 0 rfl ?_
      refine g_geti (pc1 := 276) d_Mod_tellOne_273 rfl ⟨_, fo_Mod_239⟩ sh_401 (by decide) ?_
      obtain ⟨g46, h⟩ := gdn h
      refine g_iald (pc1 := 277) d_Mod_tellOne_276 rfl sh_420 (by decide) g46 ?_
      refine g_iadd (pc1 := 278) d_Mod_tellOne_277 rfl ?_
      refine g_aload_n (pc1 := 279) d_Mod_tellOne_278 rfl 0 rfl ?_
      refine g_iconst (pc1 := 280) (v := 0) d_Mod_tellOne_279 rfl (by decide) ?_
      refine g_bipush (pc1 := 282) (v := 99) d_Mod_tellOne_280 rfl (by decide) ?_
      refine g_callV0 (pc1 := 285) (As := [.int 0, .int 99]) (rest := [.int ((6 * (M45 401 19)) + (M45 420 ((M45 401 19) : Int32).toNatClampNeg)), .ref 422]) d_Mod_tellOne_282 rfl mo_Mod_274 mi_Mod_bounded mv_Mod_bounded rfl sh_401 (by decide) (by decide) rfl rfl (Nat.le_of_ble_eq_true rfl) ?_
      obtain ⟨q47, hq48, h⟩ := bnd h
      refine f_Mod_bounded hld  hq48 ?_
      dsimp only [psh]
      obtain ⟨g49, h⟩ := gdn h
      refine g_iast (pc1 := 286) d_Mod_tellOne_285 rfl sh_422 (by decide) g49 ?_
      refine Wp.lM h (fun M50 h => ?_)
      refine g_aload_n (pc1 := 287) d_Mod_tellOne_286 rfl 0 rfl ?_
      refine g_iload_n (pc1 := 288) d_Mod_tellOne_287 rfl 1 rfl ?_
      refine g_iconst (pc1 := 289) (v := (-1)) d_Mod_tellOne_288 rfl (by decide) ?_
      refine g_callV0 (pc1 := 292) (As := [.int q39.1, .int (-1)]) (rest := []) d_Mod_tellOne_289 rfl mo_Mod_278 mi_Mod_ends mv_Mod_ends rfl sh_401 (by decide) (by decide) rfl rfl (Nat.le_of_ble_eq_true rfl) ?_
      obtain ⟨q51, hq52, h⟩ := bnd h
      refine f_Mod_ends hld  hq52 ?_
      dsimp only [psh]
      refine g_aload_n (pc1 := 293) d_Mod_tellOne_292 rfl 0 rfl ?_
      refine g_geti (pc1 := 296) d_Mod_tellOne_293 rfl ⟨_, fo_Mod_206⟩ sh_401 (by decide) ?_
      refine g_if_ne (pc1 := 299) (tgt := 397) d_Mod_tellOne_296 (by decide) rfl (fun c53 => ?_) (fun c53 => ?_)
      · replace h := itn h c53
        refine g_return rfl d_Mod_tellOne_397 rfl ?_
        cases h; exact hQ
      · replace h := itp h c53
        refine g_aload_n (pc1 := 300) d_Mod_tellOne_299 rfl 0 rfl ?_
        refine g_getr (pc1 := 303) d_Mod_tellOne_300 rfl ⟨_, fo_Mod_73⟩ sh_401 (by decide) (rf_401_32 ld) ?_
        refine g_aload_n (pc1 := 304) d_Mod_tellOne_303 rfl 0 rfl ?_
        refine g_geti (pc1 := 307) d_Mod_tellOne_304 rfl ⟨_, fo_Mod_239⟩ sh_401 (by decide) ?_
        refine g_dup2 (pc1 := 308) d_Mod_tellOne_307 rfl rfl rfl ?_
        obtain ⟨g54, h⟩ := gdn h
        refine g_iald (pc1 := 309) d_Mod_tellOne_308 rfl sh_420 (by decide) g54 ?_
        refine g_iconst (pc1 := 310) (v := 1) d_Mod_tellOne_309 rfl (by decide) ?_
        refine g_iadd (pc1 := 311) d_Mod_tellOne_310 rfl ?_
        obtain ⟨g55, h⟩ := gdn h
        refine g_iast (pc1 := 312) d_Mod_tellOne_311 rfl sh_420 (by decide) g55 ?_
        refine Wp.lM h (fun M56 h => ?_)
        refine g_goto (tgt := 397) d_Mod_tellOne_312 (by decide) ?_
        refine g_return rfl d_Mod_tellOne_397 rfl ?_
        cases h; exact hQ
    · replace h := itn h c38
      refine g_return rfl d_Mod_tellOne_223 rfl ?_
      cases h; exact hQ
  replace h := itn h c34
  by_cases c57 : (M 404 ((M 401 11) : Int32).toNatClampNeg) = 24
  · replace h := itp h c57
    refine g_tabK (tgt := 344) (off := 335) d_Mod_tellOne_9 c57 (by decide) (by decide) (by decide) (by decide) ?_
    refine g_aload_n (pc1 := 345) d_Mod_tellOne_344 rfl 0 rfl ?_
    refine g_getr (pc1 := 348) d_Mod_tellOne_345 rfl ⟨_, fo_Mod_20⟩ sh_401 (by decide) (rf_401_5 ld) ?_
    refine g_aload_n (pc1 := 349) d_Mod_tellOne_348 rfl 0 rfl ?_
    refine g_geti (pc1 := 352) d_Mod_tellOne_349 rfl ⟨_, fo_Mod_209⟩ sh_401 (by decide) ?_
    obtain ⟨g58, h⟩ := gdn h
    refine g_iald (pc1 := 353) d_Mod_tellOne_352 rfl sh_404 (by decide) g58 ?_
    refine g_bipush (pc1 := 355) (v := 24) d_Mod_tellOne_353 rfl (by decide) ?_
    refine g_isub (pc1 := 356) d_Mod_tellOne_355 rfl ?_
    refine Wp.lI h (fun x59 h => ?_)
    refine g_istore_n (pc1 := 357) (lv' := [(0, .ref 401), (1, .int x59)]) d_Mod_tellOne_356 rfl rfl (by decide) [1, 0] rfl ?_
    refine g_iload_n (pc1 := 358) d_Mod_tellOne_357 rfl 1 rfl ?_
    refine g_if_lt (pc1 := 361) (tgt := 375) d_Mod_tellOne_358 (by decide) rfl (fun c60 => ?_) (fun c60 => ?_)
    · replace h := itp h c60
      exact j_Mod_tellOne_375 hld  hQ  h
    · replace h := itn h c60
      refine g_aload_n (pc1 := 362) d_Mod_tellOne_361 rfl 0 rfl ?_
      refine g_getr (pc1 := 365) d_Mod_tellOne_362 rfl ⟨_, fo_Mod_20⟩ sh_401 (by decide) (rf_401_5 ld) ?_
      refine g_aload_n (pc1 := 366) d_Mod_tellOne_365 rfl 0 rfl ?_
      refine g_geti (pc1 := 369) d_Mod_tellOne_366 rfl ⟨_, fo_Mod_209⟩ sh_401 (by decide) ?_
      obtain ⟨g68, h⟩ := gdn h
      refine g_iald (pc1 := 370) d_Mod_tellOne_369 rfl sh_404 (by decide) g68 ?_
      refine g_bipush (pc1 := 372) (v := 27) d_Mod_tellOne_370 rfl (by decide) ?_
      refine g_icmp_le (pc1 := 375) (tgt := 380) d_Mod_tellOne_372 (by decide) rfl (fun c69 => ?_) (fun c69 => ?_)
      · replace h := itp h c69
        exact j_Mod_tellOne_380 hld  hQ  h
      · replace h := itn h c69
        exact j_Mod_tellOne_375 hld  hQ  h
  replace h := itn h c57
  by_cases c70 : (M 404 ((M 401 11) : Int32).toNatClampNeg) = 25
  · replace h := itp h c70
    refine g_tabK (tgt := 344) (off := 335) d_Mod_tellOne_9 c70 (by decide) (by decide) (by decide) (by decide) ?_
    refine g_aload_n (pc1 := 345) d_Mod_tellOne_344 rfl 0 rfl ?_
    refine g_getr (pc1 := 348) d_Mod_tellOne_345 rfl ⟨_, fo_Mod_20⟩ sh_401 (by decide) (rf_401_5 ld) ?_
    refine g_aload_n (pc1 := 349) d_Mod_tellOne_348 rfl 0 rfl ?_
    refine g_geti (pc1 := 352) d_Mod_tellOne_349 rfl ⟨_, fo_Mod_209⟩ sh_401 (by decide) ?_
    obtain ⟨g71, h⟩ := gdn h
    refine g_iald (pc1 := 353) d_Mod_tellOne_352 rfl sh_404 (by decide) g71 ?_
    refine g_bipush (pc1 := 355) (v := 24) d_Mod_tellOne_353 rfl (by decide) ?_
    refine g_isub (pc1 := 356) d_Mod_tellOne_355 rfl ?_
    refine Wp.lI h (fun x72 h => ?_)
    refine g_istore_n (pc1 := 357) (lv' := [(0, .ref 401), (1, .int x72)]) d_Mod_tellOne_356 rfl rfl (by decide) [1, 0] rfl ?_
    refine g_iload_n (pc1 := 358) d_Mod_tellOne_357 rfl 1 rfl ?_
    refine g_if_lt (pc1 := 361) (tgt := 375) d_Mod_tellOne_358 (by decide) rfl (fun c73 => ?_) (fun c73 => ?_)
    · replace h := itp h c73
      exact j_Mod_tellOne_375 hld  hQ  h
    · replace h := itn h c73
      refine g_aload_n (pc1 := 362) d_Mod_tellOne_361 rfl 0 rfl ?_
      refine g_getr (pc1 := 365) d_Mod_tellOne_362 rfl ⟨_, fo_Mod_20⟩ sh_401 (by decide) (rf_401_5 ld) ?_
      refine g_aload_n (pc1 := 366) d_Mod_tellOne_365 rfl 0 rfl ?_
      refine g_geti (pc1 := 369) d_Mod_tellOne_366 rfl ⟨_, fo_Mod_209⟩ sh_401 (by decide) ?_
      obtain ⟨g74, h⟩ := gdn h
      refine g_iald (pc1 := 370) d_Mod_tellOne_369 rfl sh_404 (by decide) g74 ?_
      refine g_bipush (pc1 := 372) (v := 27) d_Mod_tellOne_370 rfl (by decide) ?_
      refine g_icmp_le (pc1 := 375) (tgt := 380) d_Mod_tellOne_372 (by decide) rfl (fun c75 => ?_) (fun c75 => ?_)
      · replace h := itp h c75
        exact j_Mod_tellOne_380 hld  hQ  h
      · replace h := itn h c75
        exact j_Mod_tellOne_375 hld  hQ  h
  replace h := itn h c70
  by_cases c76 : (M 404 ((M 401 11) : Int32).toNatClampNeg) = 26
  · replace h := itp h c76
    refine g_tabK (tgt := 344) (off := 335) d_Mod_tellOne_9 c76 (by decide) (by decide) (by decide) (by decide) ?_
    refine g_aload_n (pc1 := 345) d_Mod_tellOne_344 rfl 0 rfl ?_
    refine g_getr (pc1 := 348) d_Mod_tellOne_345 rfl ⟨_, fo_Mod_20⟩ sh_401 (by decide) (rf_401_5 ld) ?_
    refine g_aload_n (pc1 := 349) d_Mod_tellOne_348 rfl 0 rfl ?_
    refine g_geti (pc1 := 352) d_Mod_tellOne_349 rfl ⟨_, fo_Mod_209⟩ sh_401 (by decide) ?_
    obtain ⟨g77, h⟩ := gdn h
    refine g_iald (pc1 := 353) d_Mod_tellOne_352 rfl sh_404 (by decide) g77 ?_
    refine g_bipush (pc1 := 355) (v := 24) d_Mod_tellOne_353 rfl (by decide) ?_
    refine g_isub (pc1 := 356) d_Mod_tellOne_355 rfl ?_
    refine Wp.lI h (fun x78 h => ?_)
    refine g_istore_n (pc1 := 357) (lv' := [(0, .ref 401), (1, .int x78)]) d_Mod_tellOne_356 rfl rfl (by decide) [1, 0] rfl ?_
    refine g_iload_n (pc1 := 358) d_Mod_tellOne_357 rfl 1 rfl ?_
    refine g_if_lt (pc1 := 361) (tgt := 375) d_Mod_tellOne_358 (by decide) rfl (fun c79 => ?_) (fun c79 => ?_)
    · replace h := itp h c79
      exact j_Mod_tellOne_375 hld  hQ  h
    · replace h := itn h c79
      refine g_aload_n (pc1 := 362) d_Mod_tellOne_361 rfl 0 rfl ?_
      refine g_getr (pc1 := 365) d_Mod_tellOne_362 rfl ⟨_, fo_Mod_20⟩ sh_401 (by decide) (rf_401_5 ld) ?_
      refine g_aload_n (pc1 := 366) d_Mod_tellOne_365 rfl 0 rfl ?_
      refine g_geti (pc1 := 369) d_Mod_tellOne_366 rfl ⟨_, fo_Mod_209⟩ sh_401 (by decide) ?_
      obtain ⟨g80, h⟩ := gdn h
      refine g_iald (pc1 := 370) d_Mod_tellOne_369 rfl sh_404 (by decide) g80 ?_
      refine g_bipush (pc1 := 372) (v := 27) d_Mod_tellOne_370 rfl (by decide) ?_
      refine g_icmp_le (pc1 := 375) (tgt := 380) d_Mod_tellOne_372 (by decide) rfl (fun c81 => ?_) (fun c81 => ?_)
      · replace h := itp h c81
        exact j_Mod_tellOne_380 hld  hQ  h
      · replace h := itn h c81
        exact j_Mod_tellOne_375 hld  hQ  h
  replace h := itn h c76
  by_cases c82 : (M 404 ((M 401 11) : Int32).toNatClampNeg) = 27
  · replace h := itp h c82
    refine g_tabK (tgt := 344) (off := 335) d_Mod_tellOne_9 c82 (by decide) (by decide) (by decide) (by decide) ?_
    refine g_aload_n (pc1 := 345) d_Mod_tellOne_344 rfl 0 rfl ?_
    refine g_getr (pc1 := 348) d_Mod_tellOne_345 rfl ⟨_, fo_Mod_20⟩ sh_401 (by decide) (rf_401_5 ld) ?_
    refine g_aload_n (pc1 := 349) d_Mod_tellOne_348 rfl 0 rfl ?_
    refine g_geti (pc1 := 352) d_Mod_tellOne_349 rfl ⟨_, fo_Mod_209⟩ sh_401 (by decide) ?_
    obtain ⟨g83, h⟩ := gdn h
    refine g_iald (pc1 := 353) d_Mod_tellOne_352 rfl sh_404 (by decide) g83 ?_
    refine g_bipush (pc1 := 355) (v := 24) d_Mod_tellOne_353 rfl (by decide) ?_
    refine g_isub (pc1 := 356) d_Mod_tellOne_355 rfl ?_
    refine Wp.lI h (fun x84 h => ?_)
    refine g_istore_n (pc1 := 357) (lv' := [(0, .ref 401), (1, .int x84)]) d_Mod_tellOne_356 rfl rfl (by decide) [1, 0] rfl ?_
    refine g_iload_n (pc1 := 358) d_Mod_tellOne_357 rfl 1 rfl ?_
    refine g_if_lt (pc1 := 361) (tgt := 375) d_Mod_tellOne_358 (by decide) rfl (fun c85 => ?_) (fun c85 => ?_)
    · replace h := itp h c85
      exact j_Mod_tellOne_375 hld  hQ  h
    · replace h := itn h c85
      refine g_aload_n (pc1 := 362) d_Mod_tellOne_361 rfl 0 rfl ?_
      refine g_getr (pc1 := 365) d_Mod_tellOne_362 rfl ⟨_, fo_Mod_20⟩ sh_401 (by decide) (rf_401_5 ld) ?_
      refine g_aload_n (pc1 := 366) d_Mod_tellOne_365 rfl 0 rfl ?_
      refine g_geti (pc1 := 369) d_Mod_tellOne_366 rfl ⟨_, fo_Mod_209⟩ sh_401 (by decide) ?_
      obtain ⟨g86, h⟩ := gdn h
      refine g_iald (pc1 := 370) d_Mod_tellOne_369 rfl sh_404 (by decide) g86 ?_
      refine g_bipush (pc1 := 372) (v := 27) d_Mod_tellOne_370 rfl (by decide) ?_
      refine g_icmp_le (pc1 := 375) (tgt := 380) d_Mod_tellOne_372 (by decide) rfl (fun c87 => ?_) (fun c87 => ?_)
      · replace h := itp h c87
        exact j_Mod_tellOne_380 hld  hQ  h
      · replace h := itn h c87
        exact j_Mod_tellOne_375 hld  hQ  h
  replace h := itn h c82
  by_cases c88 : (M 404 ((M 401 11) : Int32).toNatClampNeg) = 28
  · replace h := itp h c88
    refine g_tabK (tgt := 315) (off := 306) d_Mod_tellOne_9 c88 (by decide) (by decide) (by decide) (by decide) ?_
    refine g_aload_n (pc1 := 316) d_Mod_tellOne_315 rfl 0 rfl ?_
    refine g_callV0 (pc1 := 319) (As := []) (rest := []) d_Mod_tellOne_316 rfl mo_Mod_227 mi_Mod_goesOn mv_Mod_goesOn rfl sh_401 (by decide) (by decide) rfl rfl (Nat.le_of_ble_eq_true rfl) ?_
    obtain ⟨q89, hq90, h⟩ := bnd h
    refine f_Mod_goesOn hld  hq90 ?_
    dsimp only [psh]
    refine g_aload_n (pc1 := 320) d_Mod_tellOne_319 rfl 0 rfl ?_
    refine g_getr (pc1 := 323) d_Mod_tellOne_320 rfl ⟨_, fo_Mod_82⟩ sh_401 (by decide) (rf_401_35 ld) ?_
    refine g_aload_n (pc1 := 324) d_Mod_tellOne_323 rfl 0 rfl ?_
    refine g_geti (pc1 := 327) d_Mod_tellOne_324 rfl ⟨_, fo_Mod_239⟩ sh_401 (by decide) ?_
    refine g_aload_n (pc1 := 328) d_Mod_tellOne_327 rfl 0 rfl ?_
    refine g_iconst (pc1 := 329) (v := 0) d_Mod_tellOne_328 rfl (by decide) ?_
    refine g_sipush (pc1 := 332) (v := 9999) d_Mod_tellOne_329 rfl (by decide) ?_
    refine g_callV0 (pc1 := 335) (As := [.int 0, .int 9999]) (rest := [.int (q89 401 19), .ref 423]) d_Mod_tellOne_332 rfl mo_Mod_274 mi_Mod_bounded mv_Mod_bounded rfl sh_401 (by decide) (by decide) rfl rfl (Nat.le_of_ble_eq_true rfl) ?_
    obtain ⟨q91, hq92, h⟩ := bnd h
    refine f_Mod_bounded hld  hq92 ?_
    dsimp only [psh]
    obtain ⟨g93, h⟩ := gdn h
    refine g_iast (pc1 := 336) d_Mod_tellOne_335 rfl sh_423 (by decide) g93 ?_
    refine Wp.lM h (fun M94 h => ?_)
    refine g_aload_n (pc1 := 337) d_Mod_tellOne_336 rfl 0 rfl ?_
    refine g_iconst (pc1 := 338) (v := 4) d_Mod_tellOne_337 rfl (by decide) ?_
    refine g_callV0 (pc1 := 341) (As := [.int 4]) (rest := []) d_Mod_tellOne_338 rfl mo_Mod_281 mi_Mod_must mv_Mod_must rfl sh_401 (by decide) (by decide) rfl rfl (Nat.le_of_ble_eq_true rfl) ?_
    obtain ⟨q95, hq96, h⟩ := bnd h
    refine f_Mod_must hld  hq96 ?_
    dsimp only [psh]
    refine g_goto (tgt := 397) d_Mod_tellOne_341 (by decide) ?_
    refine g_return rfl d_Mod_tellOne_397 rfl ?_
    cases h; exact hQ
  replace h := itn h c88
  refine g_tabOut (tgt := 344) d_Mod_tellOne_9 (by
    have nc2 := neT (a := 20) c2 (by decide)
    have nc9 := neT (a := 21) c9 (by decide)
    have nc16 := neT (a := 22) c16 (by decide)
    have nc34 := neT (a := 23) c34 (by decide)
    have nc57 := neT (a := 24) c57 (by decide)
    have nc70 := neT (a := 25) c70 (by decide)
    have nc76 := neT (a := 26) c76 (by decide)
    have nc82 := neT (a := 27) c82 (by decide)
    have nc88 := neT (a := 28) c88 (by decide)
    omega) (by decide) ?_
  refine g_aload_n (pc1 := 345) d_Mod_tellOne_344 rfl 0 rfl ?_
  refine g_getr (pc1 := 348) d_Mod_tellOne_345 rfl ⟨_, fo_Mod_20⟩ sh_401 (by decide) (rf_401_5 ld) ?_
  refine g_aload_n (pc1 := 349) d_Mod_tellOne_348 rfl 0 rfl ?_
  refine g_geti (pc1 := 352) d_Mod_tellOne_349 rfl ⟨_, fo_Mod_209⟩ sh_401 (by decide) ?_
  obtain ⟨g97, h⟩ := gdn h
  refine g_iald (pc1 := 353) d_Mod_tellOne_352 rfl sh_404 (by decide) g97 ?_
  refine g_bipush (pc1 := 355) (v := 24) d_Mod_tellOne_353 rfl (by decide) ?_
  refine g_isub (pc1 := 356) d_Mod_tellOne_355 rfl ?_
  refine Wp.lI h (fun x98 h => ?_)
  refine g_istore_n (pc1 := 357) (lv' := [(0, .ref 401), (1, .int x98)]) d_Mod_tellOne_356 rfl rfl (by decide) [1, 0] rfl ?_
  refine g_iload_n (pc1 := 358) d_Mod_tellOne_357 rfl 1 rfl ?_
  refine g_if_lt (pc1 := 361) (tgt := 375) d_Mod_tellOne_358 (by decide) rfl (fun c99 => ?_) (fun c99 => ?_)
  · replace h := itp h c99
    exact j_Mod_tellOne_375 hld  hQ  h
  · replace h := itn h c99
    refine g_aload_n (pc1 := 362) d_Mod_tellOne_361 rfl 0 rfl ?_
    refine g_getr (pc1 := 365) d_Mod_tellOne_362 rfl ⟨_, fo_Mod_20⟩ sh_401 (by decide) (rf_401_5 ld) ?_
    refine g_aload_n (pc1 := 366) d_Mod_tellOne_365 rfl 0 rfl ?_
    refine g_geti (pc1 := 369) d_Mod_tellOne_366 rfl ⟨_, fo_Mod_209⟩ sh_401 (by decide) ?_
    obtain ⟨g100, h⟩ := gdn h
    refine g_iald (pc1 := 370) d_Mod_tellOne_369 rfl sh_404 (by decide) g100 ?_
    refine g_bipush (pc1 := 372) (v := 27) d_Mod_tellOne_370 rfl (by decide) ?_
    refine g_icmp_le (pc1 := 375) (tgt := 380) d_Mod_tellOne_372 (by decide) rfl (fun c101 => ?_) (fun c101 => ?_)
    · replace h := itp h c101
      exact j_Mod_tellOne_380 hld  hQ  h
    · replace h := itn h c101
      exact j_Mod_tellOne_375 hld  hQ  h

def J_Mod_eat_78 (v1 : Int32) (M : gM) : Option (Int32 × gM) :=
  (if ((31 + v1) : Int32) < 0 ∨ 38 ≤ ((31 + v1) : Int32).toNatClampNeg then none else (if ((31 + v1) : Int32) < 0 ∨ 38 ≤ ((31 + v1) : Int32).toNatClampNeg then none else nmM (uM M 437 ((31 + v1) : Int32).toNatClampNeg ((M 437 ((31 + v1) : Int32).toNatClampNeg) + 1)) (fun M12 => bI (F_Mod_records M12) (fun q13 => bI (F_Mod_freeBits v1 q13) (fun q15 => some (q15.1, q15.2))))))
set_option maxHeartbeats 4000000 in
set_option maxRecDepth 20000 in
theorem j_Mod_eat_78 {l : Launch} {ld : Nat} {Q : Option Value → gM → gL → gR → Prop} (hld : isLa ld)   {q : Int32 × gM} {M : gM} {L : gL} (hQ : Q (some (.int q.1)) q.2 L (rf ld))  {v1 : Int32}  (h : J_Mod_eat_78 v1 M = some q) : Wp l y_Mod_eat (0, 0, 447) 447 0 0 78 [(0, .ref 401), (1, .int v1)] [] M L (rf ld) Q := by
  unfold J_Mod_eat_78 at h
  refine g_aload_n (pc1 := 79) d_Mod_eat_78 rfl 0 rfl ?_
  refine g_getr (pc1 := 82) d_Mod_eat_79 rfl ⟨_, fo_Mod_125⟩ sh_401 (by decide) (rf_401_53 ld) ?_
  refine g_bipush (pc1 := 84) (v := 31) d_Mod_eat_82 rfl (by decide) ?_
  refine g_iload_n (pc1 := 85) d_Mod_eat_84 rfl 1 rfl ?_
  refine g_iadd (pc1 := 86) d_Mod_eat_85 rfl ?_
  refine g_dup2 (pc1 := 87) d_Mod_eat_86 rfl rfl rfl ?_
  obtain ⟨g10, h⟩ := gdn h
  refine g_iald (pc1 := 88) d_Mod_eat_87 rfl sh_437 (by decide) g10 ?_
  refine g_iconst (pc1 := 89) (v := 1) d_Mod_eat_88 rfl (by decide) ?_
  refine g_iadd (pc1 := 90) d_Mod_eat_89 rfl ?_
  obtain ⟨g11, h⟩ := gdn h
  refine g_iast (pc1 := 91) d_Mod_eat_90 rfl sh_437 (by decide) g11 ?_
  refine Wp.lM h (fun M12 h => ?_)
  refine g_aload_n (pc1 := 92) d_Mod_eat_91 rfl 0 rfl ?_
  refine g_callV0 (pc1 := 95) (As := []) (rest := []) d_Mod_eat_92 rfl mo_Mod_392 mi_Mod_records mv_Mod_records rfl sh_401 (by decide) (by decide) rfl rfl (Nat.le_of_ble_eq_true rfl) ?_
  obtain ⟨q13, hq14, h⟩ := bnd h
  refine f_Mod_records hld  hq14 ?_
  dsimp only [psh]
  refine g_aload_n (pc1 := 96) d_Mod_eat_95 rfl 0 rfl ?_
  refine g_iload_n (pc1 := 97) d_Mod_eat_96 rfl 1 rfl ?_
  refine g_callV0 (pc1 := 100) (As := [.int v1]) (rest := []) d_Mod_eat_97 rfl mo_Mod_395 mi_Mod_freeBits mv_Mod_freeBits rfl sh_401 (by decide) (by decide) rfl rfl (Nat.le_of_ble_eq_true rfl) ?_
  obtain ⟨q15, hq16, h⟩ := bnd h
  refine f_Mod_freeBits hld  hq16 ?_
  dsimp only [psh]
  refine g_ireturn (Or.inl rfl) d_Mod_eat_100 rfl ?_
  cases h; exact hQ
def B_Mod_eat_45 (v1 : Int32) (K45 : Int32 → gM → Option (Int32 × gM)) : Int32 → gM → Option (Int32 × gM) := fun v2 M =>
  (if 3 ≤ v2 then J_Mod_eat_78 v1 M else (if ((12 + v2) : Int32) < 0 ∨ 38 ≤ ((12 + v2) : Int32).toNatClampNeg then none else (if (((19 + (3 * v1)) + v2) : Int32) < 0 ∨ 38 ≤ (((19 + (3 * v1)) + v2) : Int32).toNatClampNeg then none else nmM (uM M 437 (((19 + (3 * v1)) + v2) : Int32).toNatClampNeg (M 437 ((12 + v2) : Int32).toNatClampNeg)) (fun M19 => nmI (v2 + 1) (fun x20 => K45 x20 M19)))))
def H_Mod_eat_45 (v1 : Int32) : Nat → Int32 → gM → Option (Int32 × gM) := lpK (B_Mod_eat_45 v1) (fun _ _ => none)
set_option maxHeartbeats 4000000 in
set_option maxRecDepth 20000 in
theorem h_Mod_eat_45 {l : Launch} {ld : Nat} {Q : Option Value → gM → gL → gR → Prop} (hld : isLa ld)   {q : Int32 × gM} {L : gL} (hQ : Q (some (.int q.1)) q.2 L (rf ld))  {v1 : Int32}  : ∀ (f : Nat) (v2 : Int32) (M : gM), H_Mod_eat_45 v1 f v2 M = some q → Wp l y_Mod_eat (0, 0, 447) 447 0 0 45 [(0, .ref 401), (1, .int v1), (2, .int v2)] [] M L (rf ld) Q := by
  intro f
  induction f with
  | zero => intro v2 M h; cases h
  | succ f hK45 =>
    intro v2 M h
    replace h : B_Mod_eat_45 v1 (H_Mod_eat_45 v1 f) v2 M = some q := h
    unfold B_Mod_eat_45 at h
    refine g_iload_n (pc1 := 46) d_Mod_eat_45 rfl 2 rfl ?_
    refine g_iconst (pc1 := 47) (v := 3) d_Mod_eat_46 rfl (by decide) ?_
    refine g_icmp_ge (pc1 := 50) (tgt := 78) d_Mod_eat_47 (by decide) rfl (fun c9 => ?_) (fun c9 => ?_)
    · replace h := itp h c9
      refine Wp.loc (lv' := [(0, .ref 401), (1, .int v1)]) [0, 1] rfl ?_
      exact j_Mod_eat_78 hld  hQ  h
    · replace h := itn h c9
      refine g_aload_n (pc1 := 51) d_Mod_eat_50 rfl 0 rfl ?_
      refine g_getr (pc1 := 54) d_Mod_eat_51 rfl ⟨_, fo_Mod_125⟩ sh_401 (by decide) (rf_401_53 ld) ?_
      refine g_bipush (pc1 := 56) (v := 19) d_Mod_eat_54 rfl (by decide) ?_
      refine g_iconst (pc1 := 57) (v := 3) d_Mod_eat_56 rfl (by decide) ?_
      refine g_iload_n (pc1 := 58) d_Mod_eat_57 rfl 1 rfl ?_
      refine g_imul (pc1 := 59) d_Mod_eat_58 rfl ?_
      refine g_iadd (pc1 := 60) d_Mod_eat_59 rfl ?_
      refine g_iload_n (pc1 := 61) d_Mod_eat_60 rfl 2 rfl ?_
      refine g_iadd (pc1 := 62) d_Mod_eat_61 rfl ?_
      refine g_aload_n (pc1 := 63) d_Mod_eat_62 rfl 0 rfl ?_
      refine g_getr (pc1 := 66) d_Mod_eat_63 rfl ⟨_, fo_Mod_125⟩ sh_401 (by decide) (rf_401_53 ld) ?_
      refine g_bipush (pc1 := 68) (v := 12) d_Mod_eat_66 rfl (by decide) ?_
      refine g_iload_n (pc1 := 69) d_Mod_eat_68 rfl 2 rfl ?_
      refine g_iadd (pc1 := 70) d_Mod_eat_69 rfl ?_
      obtain ⟨g17, h⟩ := gdn h
      refine g_iald (pc1 := 71) d_Mod_eat_70 rfl sh_437 (by decide) g17 ?_
      obtain ⟨g18, h⟩ := gdn h
      refine g_iast (pc1 := 72) d_Mod_eat_71 rfl sh_437 (by decide) g18 ?_
      refine Wp.lM h (fun M19 h => ?_)
      obtain ⟨x20, ex20, h⟩ := ltI h
      refine g_iinc (pc1 := 75) (v := x20) (lv' := [(0, .ref 401), (1, .int v1), (2, .int x20)]) d_Mod_eat_72 rfl 2 rfl (by rw [ex20]; rfl) (by decide) [1, 2, 0] rfl ?_
      refine g_goto (tgt := 45) d_Mod_eat_75 (by decide) ?_
      exact hK45 x20 M19 h
def F_Mod_eat (p1 : Int32) (M : gM) : Option (Int32 × gM) :=
  bI (F_Mod_isGuest p1 M) (fun q1 => (if q1 = 0 then some ((-1), M) else bI (F_Mod_copies M) (fun q4 => (if 0 ≤ (q4 437 (11 : Int32).toNatClampNeg) then (if ((15 + p1) : Int32) < 0 ∨ 38 ≤ ((15 + p1) : Int32).toNatClampNeg then none else nmM (uM q4 437 ((15 + p1) : Int32).toNatClampNeg (q4 437 (35 : Int32).toNatClampNeg)) (fun M8 => H_Mod_eat_45 p1 FU 0 M8)) else some ((-2), q4)))))
set_option maxHeartbeats 4000000 in
set_option maxRecDepth 20000 in
theorem f_Mod_eat {l : Launch} {ld : Nat} {M : gM} {L : gL} {Q : Option Value → gM → gL → gR → Prop} (hld : isLa ld) {p1 : Int32}  {q : Int32 × gM} (h : F_Mod_eat p1 M = some q) (hQ : Q (some (.int q.1)) q.2 L (rf ld)) : Tm l y_Mod_eat (0, 0, 447) 447 [.ref 401, .int p1] M L (rf ld) Q := by
  refine Tm.of (by decide) (Nat.le_of_ble_eq_true rfl) ?_
  show Wp l y_Mod_eat (0, 0, 447) 447 0 0 0 [(0, .ref 401), (1, .int p1)] [] M L (rf ld) Q
  unfold F_Mod_eat at h
  refine g_aload_n (pc1 := 1) d_Mod_eat_0 rfl 0 rfl ?_
  refine g_iload_n (pc1 := 2) d_Mod_eat_1 rfl 1 rfl ?_
  refine g_callV0 (pc1 := 5) (As := [.int p1]) (rest := []) d_Mod_eat_2 rfl mo_Mod_380 mi_Mod_isGuest mv_Mod_isGuest rfl sh_401 (by decide) (by decide) rfl rfl (Nat.le_of_ble_eq_true rfl) ?_
  obtain ⟨q1, hq2, h⟩ := bnd h
  refine f_Mod_isGuest hld  hq2 ?_
  dsimp only [psh]
  refine g_if_ne (pc1 := 8) (tgt := 10) d_Mod_eat_5 (by decide) rfl (fun c3 => ?_) (fun c3 => ?_)
  · replace h := itn h c3
    refine g_aload_n (pc1 := 11) d_Mod_eat_10 rfl 0 rfl ?_
    refine g_callV0 (pc1 := 14) (As := []) (rest := []) d_Mod_eat_11 rfl mo_Mod_377 mi_Mod_copies mv_Mod_copies rfl sh_401 (by decide) (by decide) rfl rfl (Nat.le_of_ble_eq_true rfl) ?_
    obtain ⟨q4, hq5, h⟩ := bnd h
    refine f_Mod_copies hld  hq5 ?_
    dsimp only [psh]
    refine g_aload_n (pc1 := 15) d_Mod_eat_14 rfl 0 rfl ?_
    refine g_getr (pc1 := 18) d_Mod_eat_15 rfl ⟨_, fo_Mod_125⟩ sh_401 (by decide) (rf_401_53 ld) ?_
    refine g_bipush (pc1 := 20) (v := 11) d_Mod_eat_18 rfl (by decide) ?_
    refine g_iald (pc1 := 21) d_Mod_eat_20 rfl sh_437 (by decide) (vin_lit (x := 11) (by decide)) ?_
    refine g_if_ge (pc1 := 24) (tgt := 27) d_Mod_eat_21 (by decide) rfl (fun c6 => ?_) (fun c6 => ?_)
    · replace h := itp h c6
      refine g_aload_n (pc1 := 28) d_Mod_eat_27 rfl 0 rfl ?_
      refine g_getr (pc1 := 31) d_Mod_eat_28 rfl ⟨_, fo_Mod_125⟩ sh_401 (by decide) (rf_401_53 ld) ?_
      refine g_bipush (pc1 := 33) (v := 15) d_Mod_eat_31 rfl (by decide) ?_
      refine g_iload_n (pc1 := 34) d_Mod_eat_33 rfl 1 rfl ?_
      refine g_iadd (pc1 := 35) d_Mod_eat_34 rfl ?_
      refine g_aload_n (pc1 := 36) d_Mod_eat_35 rfl 0 rfl ?_
      refine g_getr (pc1 := 39) d_Mod_eat_36 rfl ⟨_, fo_Mod_125⟩ sh_401 (by decide) (rf_401_53 ld) ?_
      refine g_bipush (pc1 := 41) (v := 35) d_Mod_eat_39 rfl (by decide) ?_
      refine g_iald (pc1 := 42) d_Mod_eat_41 rfl sh_437 (by decide) (vin_lit (x := 35) (by decide)) ?_
      obtain ⟨g7, h⟩ := gdn h
      refine g_iast (pc1 := 43) d_Mod_eat_42 rfl sh_437 (by decide) g7 ?_
      refine Wp.lM h (fun M8 h => ?_)
      refine g_iconst (pc1 := 44) (v := 0) d_Mod_eat_43 rfl (by decide) ?_
      refine g_istore_n (pc1 := 45) (lv' := [(0, .ref 401), (1, .int p1), (2, .int 0)]) d_Mod_eat_44 rfl rfl (by decide) [1, 2, 0] rfl ?_
      exact h_Mod_eat_45 hld  hQ  _ 0 M8 h
    · replace h := itn h c6
      refine g_bipush (pc1 := 26) (v := (-2)) d_Mod_eat_24 rfl (by decide) ?_
      refine g_ireturn (Or.inl rfl) d_Mod_eat_26 rfl ?_
      cases h; exact hQ
  · replace h := itp h c3
    refine g_iconst (pc1 := 9) (v := (-1)) d_Mod_eat_8 rfl (by decide) ?_
    refine g_ireturn (Or.inl rfl) d_Mod_eat_9 rfl ?_
    cases h; exact hQ

def J_Mod_freestOf_63 (K10 : Int32 → Int32 → gM → Option (Int32 × gM)) (v1 : Int32) (v2 : Int32) (v3 : Int32) (M : gM) : Option (Int32 × gM) :=
  nmI (v3 + 1) (fun x14 => K10 v2 x14 M)
set_option maxHeartbeats 4000000 in
set_option maxRecDepth 20000 in
theorem j_Mod_freestOf_63 {l : Launch} {ld : Nat} {Q : Option Value → gM → gL → gR → Prop} (hld : isLa ld)   {q : Int32 × gM} {M : gM} {L : gL} (hQ : Q (some (.int q.1)) q.2 L (rf ld)) {K10 : Int32 → Int32 → gM → Option (Int32 × gM)} {v1 : Int32} {v2 : Int32} {v3 : Int32} (hK10 : ∀ (w2 : Int32) (w3 : Int32) (M : gM), K10 w2 w3 M = some q → Wp l y_Mod_freestOf (0, 0, 447) 447 0 0 10 [(0, .ref 401), (1, .int v1), (2, .int w2), (3, .int w3)] [] M L (rf ld) Q) (h : J_Mod_freestOf_63 K10 v1 v2 v3 M = some q) : Wp l y_Mod_freestOf (0, 0, 447) 447 0 0 63 [(0, .ref 401), (1, .int v1), (2, .int v2), (3, .int v3)] [] M L (rf ld) Q := by
  unfold J_Mod_freestOf_63 at h
  obtain ⟨x14, ex14, h⟩ := ltI h
  refine g_iinc (pc1 := 66) (v := x14) (lv' := [(0, .ref 401), (1, .int v1), (2, .int v2), (3, .int x14)]) d_Mod_freestOf_63 rfl 3 rfl (by rw [ex14]; rfl) (by decide) [1, 2, 3, 0] rfl ?_
  refine g_goto (tgt := 10) d_Mod_freestOf_66 (by decide) ?_
  exact hK10 v2 x14 M h
def B_Mod_freestOf_10 (v1 : Int32) (K10 : Int32 → Int32 → gM → Option (Int32 × gM)) : Int32 → Int32 → gM → Option (Int32 × gM) := fun v2 v3 M =>
  (if ((M 401 18) : Int32) < 0 ∨ 2 ≤ ((M 401 18) : Int32).toNatClampNeg then none else (if (M 415 ((M 401 18) : Int32).toNatClampNeg) ≤ v3 then some (v2, M) else bI (F_Mod_copies M) (fun q4 => bI (F_Mod_eatsDish v1 v3 q4) (fun q6 => bI (F_Mod_freeBits v1 q6) (fun q8 => bI (F_Mod_bits q8.1) (fun q10 => (if (q8.2 401 63) < q10 then nmM (uM q8.2 401 63 q10) (fun M13 => J_Mod_freestOf_63 K10 v1 v3 v3 M13) else J_Mod_freestOf_63 K10 v1 v2 v3 q8.2)))))))
def H_Mod_freestOf_10 (v1 : Int32) : Nat → Int32 → Int32 → gM → Option (Int32 × gM) := lpK (B_Mod_freestOf_10 v1) (fun _ _ _ => none)
set_option maxHeartbeats 4000000 in
set_option maxRecDepth 20000 in
theorem h_Mod_freestOf_10 {l : Launch} {ld : Nat} {Q : Option Value → gM → gL → gR → Prop} (hld : isLa ld)   {q : Int32 × gM} {L : gL} (hQ : Q (some (.int q.1)) q.2 L (rf ld))  {v1 : Int32}  : ∀ (f : Nat) (v2 : Int32) (v3 : Int32) (M : gM), H_Mod_freestOf_10 v1 f v2 v3 M = some q → Wp l y_Mod_freestOf (0, 0, 447) 447 0 0 10 [(0, .ref 401), (1, .int v1), (2, .int v2), (3, .int v3)] [] M L (rf ld) Q := by
  intro f
  induction f with
  | zero => intro v2 v3 M h; cases h
  | succ f hK10 =>
    intro v2 v3 M h
    replace h : B_Mod_freestOf_10 v1 (H_Mod_freestOf_10 v1 f) v2 v3 M = some q := h
    unfold B_Mod_freestOf_10 at h
    refine g_iload_n (pc1 := 11) d_Mod_freestOf_10 rfl 3 rfl ?_
    refine g_aload_n (pc1 := 12) d_Mod_freestOf_11 rfl 0 rfl ?_
    refine g_getr (pc1 := 15) d_Mod_freestOf_12 rfl ⟨_, fo_Mod_58⟩ sh_401 (by decide) (rf_401_27 ld) ?_
    refine g_aload_n (pc1 := 16) d_Mod_freestOf_15 rfl 0 rfl ?_
    refine g_geti (pc1 := 19) d_Mod_freestOf_16 rfl ⟨_, fo_Mod_236⟩ sh_401 (by decide) ?_
    obtain ⟨g2, h⟩ := gdn h
    refine g_iald (pc1 := 20) d_Mod_freestOf_19 rfl sh_415 (by decide) g2 ?_
    refine g_icmp_ge (pc1 := 23) (tgt := 69) d_Mod_freestOf_20 (by decide) rfl (fun c3 => ?_) (fun c3 => ?_)
    · replace h := itp h c3
      refine g_iload_n (pc1 := 70) d_Mod_freestOf_69 rfl 2 rfl ?_
      refine g_ireturn (Or.inl rfl) d_Mod_freestOf_70 rfl ?_
      cases h; exact hQ
    · replace h := itn h c3
      refine g_aload_n (pc1 := 24) d_Mod_freestOf_23 rfl 0 rfl ?_
      refine g_callV0 (pc1 := 27) (As := []) (rest := []) d_Mod_freestOf_24 rfl mo_Mod_377 mi_Mod_copies mv_Mod_copies rfl sh_401 (by decide) (by decide) rfl rfl (Nat.le_of_ble_eq_true rfl) ?_
      obtain ⟨q4, hq5, h⟩ := bnd h
      refine f_Mod_copies hld  hq5 ?_
      dsimp only [psh]
      refine g_aload_n (pc1 := 28) d_Mod_freestOf_27 rfl 0 rfl ?_
      refine g_iload_n (pc1 := 29) d_Mod_freestOf_28 rfl 1 rfl ?_
      refine g_iload_n (pc1 := 30) d_Mod_freestOf_29 rfl 3 rfl ?_
      refine g_callV0 (pc1 := 33) (As := [.int v1, .int v3]) (rest := []) d_Mod_freestOf_30 rfl mo_Mod_431 mi_Mod_eatsDish mv_Mod_eatsDish rfl sh_401 (by decide) (by decide) rfl rfl (Nat.le_of_ble_eq_true rfl) ?_
      obtain ⟨q6, hq7, h⟩ := bnd h
      refine f_Mod_eatsDish hld  hq7 ?_
      dsimp only [psh]
      refine g_aload_n (pc1 := 34) d_Mod_freestOf_33 rfl 0 rfl ?_
      refine g_iload_n (pc1 := 35) d_Mod_freestOf_34 rfl 1 rfl ?_
      refine g_callV0 (pc1 := 38) (As := [.int v1]) (rest := []) d_Mod_freestOf_35 rfl mo_Mod_395 mi_Mod_freeBits mv_Mod_freeBits rfl sh_401 (by decide) (by decide) rfl rfl (Nat.le_of_ble_eq_true rfl) ?_
      obtain ⟨q8, hq9, h⟩ := bnd h
      refine f_Mod_freeBits hld  hq9 ?_
      dsimp only [psh]
      refine g_callS0 (pc1 := 41) (As := [.int q8.1]) (rest := []) d_Mod_freestOf_38 rfl mo_Mod_434 ms_Mod_bits (by decide) rfl rfl (Nat.le_of_ble_eq_true rfl) ?_
      obtain ⟨q10, hq11, h⟩ := bnd h
      refine f_Mod_bits hld  hq11 ?_
      dsimp only [psh]
      refine g_istore (pc1 := 43) (lv' := [(0, .ref 401), (1, .int v1), (2, .int v2), (3, .int v3), (4, .int q10)]) d_Mod_freestOf_41 rfl (by decide) [1, 2, 3, 4, 0] rfl ?_
      refine g_iload (pc1 := 45) d_Mod_freestOf_43 rfl 4 rfl ?_
      refine g_aload_n (pc1 := 46) d_Mod_freestOf_45 rfl 0 rfl ?_
      refine g_geti (pc1 := 49) d_Mod_freestOf_46 rfl ⟨_, fo_Mod_428⟩ sh_401 (by decide) ?_
      refine g_icmp_gt (pc1 := 52) (tgt := 55) d_Mod_freestOf_49 (by decide) rfl (fun c12 => ?_) (fun c12 => ?_)
      · replace h := itp h c12
        refine g_iload_n (pc1 := 56) d_Mod_freestOf_55 rfl 3 rfl ?_
        refine g_istore_n (pc1 := 57) (lv' := [(0, .ref 401), (1, .int v1), (2, .int v3), (3, .int v3), (4, .int q10)]) d_Mod_freestOf_56 rfl rfl (by decide) [1, 2, 0, 3, 4] rfl ?_
        refine g_aload_n (pc1 := 58) d_Mod_freestOf_57 rfl 0 rfl ?_
        refine g_iload (pc1 := 60) d_Mod_freestOf_58 rfl 4 rfl ?_
        refine g_puti (pc1 := 63) d_Mod_freestOf_60 rfl fo_Mod_428 (po_12_63 _) sh_401 (by decide) ?_
        refine Wp.lM h (fun M13 h => ?_)
        refine Wp.loc (lv' := [(0, .ref 401), (1, .int v1), (2, .int v3), (3, .int v3)]) [0, 1, 2, 3] rfl ?_
        exact j_Mod_freestOf_63 hld  hQ hK10 h
      · replace h := itn h c12
        refine g_goto (tgt := 63) d_Mod_freestOf_52 (by decide) ?_
        refine Wp.loc (lv' := [(0, .ref 401), (1, .int v1), (2, .int v2), (3, .int v3)]) [0, 1, 2, 3] rfl ?_
        exact j_Mod_freestOf_63 hld  hQ hK10 h
def F_Mod_freestOf (p1 : Int32) (M : gM) : Option (Int32 × gM) :=
  nmM (uM M 401 63 (-1)) (fun M1 => H_Mod_freestOf_10 p1 FU (-2) 0 M1)
set_option maxHeartbeats 4000000 in
set_option maxRecDepth 20000 in
theorem f_Mod_freestOf {l : Launch} {ld : Nat} {M : gM} {L : gL} {Q : Option Value → gM → gL → gR → Prop} (hld : isLa ld) {p1 : Int32}  {q : Int32 × gM} (h : F_Mod_freestOf p1 M = some q) (hQ : Q (some (.int q.1)) q.2 L (rf ld)) : Tm l y_Mod_freestOf (0, 0, 447) 447 [.ref 401, .int p1] M L (rf ld) Q := by
  refine Tm.of (by decide) (Nat.le_of_ble_eq_true rfl) ?_
  show Wp l y_Mod_freestOf (0, 0, 447) 447 0 0 0 [(0, .ref 401), (1, .int p1)] [] M L (rf ld) Q
  unfold F_Mod_freestOf at h
  refine g_bipush (pc1 := 2) (v := (-2)) d_Mod_freestOf_0 rfl (by decide) ?_
  refine g_istore_n (pc1 := 3) (lv' := [(0, .ref 401), (1, .int p1), (2, .int (-2))]) d_Mod_freestOf_2 rfl rfl (by decide) [1, 2, 0] rfl ?_
  refine g_aload_n (pc1 := 4) d_Mod_freestOf_3 rfl 0 rfl ?_
  refine g_iconst (pc1 := 5) (v := (-1)) d_Mod_freestOf_4 rfl (by decide) ?_
  refine g_puti (pc1 := 8) d_Mod_freestOf_5 rfl fo_Mod_428 (po_12_63 _) sh_401 (by decide) ?_
  refine Wp.lM h (fun M1 h => ?_)
  refine g_iconst (pc1 := 9) (v := 0) d_Mod_freestOf_8 rfl (by decide) ?_
  refine g_istore_n (pc1 := 10) (lv' := [(0, .ref 401), (1, .int p1), (2, .int (-2)), (3, .int 0)]) d_Mod_freestOf_9 rfl rfl (by decide) [1, 2, 3, 0] rfl ?_
  exact h_Mod_freestOf_10 hld  hQ  _ (-2) 0 M1 h

def J_Mod_mealsBy_65 (K10 : Int32 → Int32 → gM → Option (Int32 × gM)) (v1 : Int32) (v2 : Int32) (v3 : Int32) (v4 : Int32) (v5 : Int32) (v6 : Int32) (M : gM) : Option (Int32 × gM) :=
  bI (F_Mod_freeBits v2 M) (fun q11 => (if (v4 &&& (q11.1 ^^^ (-1))) = 0 then nmM (uM q11.2 437 (35 : Int32).toNatClampNeg ((q11.2 437 (35 : Int32).toNatClampNeg) + 1)) (fun M14 => nmI (v6 + 1) (fun x15 => K10 v5 x15 M14)) else some ((-1), q11.2)))
set_option maxHeartbeats 4000000 in
set_option maxRecDepth 20000 in
theorem j_Mod_mealsBy_65 {l : Launch} {ld : Nat} {Q : Option Value → gM → gL → gR → Prop} (hld : isLa ld)   {q : Int32 × gM} {M : gM} {L : gL} (hQ : Q (some (.int q.1)) q.2 L (rf ld)) {K10 : Int32 → Int32 → gM → Option (Int32 × gM)} {v1 : Int32} {v2 : Int32} {v3 : Int32} {v4 : Int32} {v5 : Int32} {v6 : Int32} (hK10 : ∀ (w5 : Int32) (w6 : Int32) (M : gM), K10 w5 w6 M = some q → Wp l y_Mod_mealsBy (0, 0, 447) 447 0 0 10 [(0, .ref 401), (1, .int v1), (2, .int v2), (3, .int v3), (4, .int v4), (5, .int w5), (6, .int w6)] [] M L (rf ld) Q) (h : J_Mod_mealsBy_65 K10 v1 v2 v3 v4 v5 v6 M = some q) : Wp l y_Mod_mealsBy (0, 0, 447) 447 0 0 65 [(0, .ref 401), (1, .int v1), (2, .int v2), (3, .int v3), (4, .int v4), (5, .int v5), (6, .int v6)] [] M L (rf ld) Q := by
  unfold J_Mod_mealsBy_65 at h
  refine g_iload (pc1 := 67) d_Mod_mealsBy_65 rfl 4 rfl ?_
  refine g_aload_n (pc1 := 68) d_Mod_mealsBy_67 rfl 0 rfl ?_
  refine g_iload_n (pc1 := 69) d_Mod_mealsBy_68 rfl 2 rfl ?_
  refine g_callV0 (pc1 := 72) (As := [.int v2]) (rest := [.int v4]) d_Mod_mealsBy_69 rfl mo_Mod_395 mi_Mod_freeBits mv_Mod_freeBits rfl sh_401 (by decide) (by decide) rfl rfl (Nat.le_of_ble_eq_true rfl) ?_
  obtain ⟨q11, hq12, h⟩ := bnd h
  refine f_Mod_freeBits hld  hq12 ?_
  dsimp only [psh]
  refine g_iconst (pc1 := 73) (v := (-1)) d_Mod_mealsBy_72 rfl (by decide) ?_
  refine g_ixor (pc1 := 74) d_Mod_mealsBy_73 rfl ?_
  refine g_iand (pc1 := 75) d_Mod_mealsBy_74 rfl ?_
  refine g_if_eq (pc1 := 78) (tgt := 80) d_Mod_mealsBy_75 (by decide) rfl (fun c13 => ?_) (fun c13 => ?_)
  · replace h := itp h c13
    refine g_aload_n (pc1 := 81) d_Mod_mealsBy_80 rfl 0 rfl ?_
    refine g_getr (pc1 := 84) d_Mod_mealsBy_81 rfl ⟨_, fo_Mod_125⟩ sh_401 (by decide) (rf_401_53 ld) ?_
    refine g_bipush (pc1 := 86) (v := 35) d_Mod_mealsBy_84 rfl (by decide) ?_
    refine g_dup2 (pc1 := 87) d_Mod_mealsBy_86 rfl rfl rfl ?_
    refine g_iald (pc1 := 88) d_Mod_mealsBy_87 rfl sh_437 (by decide) (vin_lit (x := 35) (by decide)) ?_
    refine g_iconst (pc1 := 89) (v := 1) d_Mod_mealsBy_88 rfl (by decide) ?_
    refine g_iadd (pc1 := 90) d_Mod_mealsBy_89 rfl ?_
    refine g_iast (pc1 := 91) d_Mod_mealsBy_90 rfl sh_437 (by decide) (vin_lit (x := 35) (by decide)) ?_
    refine Wp.lM h (fun M14 h => ?_)
    obtain ⟨x15, ex15, h⟩ := ltI h
    refine g_iinc (pc1 := 94) (v := x15) (lv' := [(0, .ref 401), (1, .int v1), (2, .int v2), (3, .int v3), (4, .int v4), (5, .int v5), (6, .int x15)]) d_Mod_mealsBy_91 rfl 6 rfl (by rw [ex15]; rfl) (by decide) [1, 2, 3, 4, 5, 6, 0] rfl ?_
    refine g_goto (tgt := 10) d_Mod_mealsBy_94 (by decide) ?_
    exact hK10 v5 x15 M14 h
  · replace h := itn h c13
    refine g_iconst (pc1 := 79) (v := (-1)) d_Mod_mealsBy_78 rfl (by decide) ?_
    refine g_ireturn (Or.inl rfl) d_Mod_mealsBy_79 rfl ?_
    cases h; exact hQ
def B_Mod_mealsBy_10 (v1 : Int32) (v2 : Int32) (v3 : Int32) (v4 : Int32) (K10 : Int32 → Int32 → gM → Option (Int32 × gM)) : Int32 → Int32 → gM → Option (Int32 × gM) := fun v5 v6 M =>
  (if v3 ≤ v6 then some (v5, M) else bI (F_Mod_sixes ((v3 - 1) - v6)) (fun q4 => (if q4 = 0 then none else nmI (((v1 / q4) - (v1 / q4) / 6 * 6) - 1) (fun x7 => (if ((M 401 18) : Int32) < 0 ∨ 2 ≤ ((M 401 18) : Int32).toNatClampNeg then none else (if x7 < (M 415 ((M 401 18) : Int32).toNatClampNeg) then (if x7 < 0 then J_Mod_mealsBy_65 K10 v1 v2 v3 v4 v5 v6 M else bI (F_Mod_eatsDish v2 x7 M) (fun q16 => nmI (v5 + 1) (fun x18 => J_Mod_mealsBy_65 K10 v1 v2 v3 v4 x18 v6 q16))) else some ((-1), M)))))))
def H_Mod_mealsBy_10 (v1 : Int32) (v2 : Int32) (v3 : Int32) (v4 : Int32) : Nat → Int32 → Int32 → gM → Option (Int32 × gM) := lpK (B_Mod_mealsBy_10 v1 v2 v3 v4) (fun _ _ _ => none)
set_option maxHeartbeats 4000000 in
set_option maxRecDepth 20000 in
theorem h_Mod_mealsBy_10 {l : Launch} {ld : Nat} {Q : Option Value → gM → gL → gR → Prop} (hld : isLa ld)   {q : Int32 × gM} {L : gL} (hQ : Q (some (.int q.1)) q.2 L (rf ld))  {v1 : Int32} {v2 : Int32} {v3 : Int32} {v4 : Int32}  : ∀ (f : Nat) (v5 : Int32) (v6 : Int32) (M : gM), H_Mod_mealsBy_10 v1 v2 v3 v4 f v5 v6 M = some q → Wp l y_Mod_mealsBy (0, 0, 447) 447 0 0 10 [(0, .ref 401), (1, .int v1), (2, .int v2), (3, .int v3), (4, .int v4), (5, .int v5), (6, .int v6)] [] M L (rf ld) Q := by
  intro f
  induction f with
  | zero => intro v5 v6 M h; cases h
  | succ f hK10 =>
    intro v5 v6 M h
    replace h : B_Mod_mealsBy_10 v1 v2 v3 v4 (H_Mod_mealsBy_10 v1 v2 v3 v4 f) v5 v6 M = some q := h
    unfold B_Mod_mealsBy_10 at h
    refine g_iload (pc1 := 12) d_Mod_mealsBy_10 rfl 6 rfl ?_
    refine g_iload_n (pc1 := 13) d_Mod_mealsBy_12 rfl 3 rfl ?_
    refine g_icmp_ge (pc1 := 16) (tgt := 97) d_Mod_mealsBy_13 (by decide) rfl (fun c3 => ?_) (fun c3 => ?_)
    · replace h := itp h c3
      refine g_iload (pc1 := 99) d_Mod_mealsBy_97 rfl 5 rfl ?_
      refine g_ireturn (Or.inl rfl) d_Mod_mealsBy_99 rfl ?_
      cases h; exact hQ
    · replace h := itn h c3
      refine g_iload_n (pc1 := 17) d_Mod_mealsBy_16 rfl 1 rfl ?_
      refine g_iload_n (pc1 := 18) d_Mod_mealsBy_17 rfl 3 rfl ?_
      refine g_iconst (pc1 := 19) (v := 1) d_Mod_mealsBy_18 rfl (by decide) ?_
      refine g_isub (pc1 := 20) d_Mod_mealsBy_19 rfl ?_
      refine g_iload (pc1 := 22) d_Mod_mealsBy_20 rfl 6 rfl ?_
      refine g_isub (pc1 := 23) d_Mod_mealsBy_22 rfl ?_
      refine g_callS0 (pc1 := 26) (As := [.int ((v3 - 1) - v6)]) (rest := [.int v1]) d_Mod_mealsBy_23 rfl mo_Mod_440 ms_Mod_sixes (by decide) rfl rfl (Nat.le_of_ble_eq_true rfl) ?_
      obtain ⟨q4, hq5, h⟩ := bnd h
      refine f_Mod_sixes hld  hq5 ?_
      dsimp only [psh]
      obtain ⟨g6, h⟩ := gdn h
      refine g_idiv (pc1 := 27) d_Mod_mealsBy_26 rfl g6 ?_
      refine g_bipush (pc1 := 29) (v := 6) d_Mod_mealsBy_27 rfl (by decide) ?_
      refine g_irem (pc1 := 30) d_Mod_mealsBy_29 rfl (by decide) ?_
      refine g_iconst (pc1 := 31) (v := 1) d_Mod_mealsBy_30 rfl (by decide) ?_
      refine g_isub (pc1 := 32) d_Mod_mealsBy_31 rfl ?_
      refine Wp.lI h (fun x7 h => ?_)
      refine g_istore (pc1 := 34) (lv' := [(0, .ref 401), (1, .int v1), (2, .int v2), (3, .int v3), (4, .int v4), (5, .int v5), (6, .int v6), (7, .int x7)]) d_Mod_mealsBy_32 rfl (by decide) [1, 2, 3, 4, 5, 6, 7, 0] rfl ?_
      refine g_iload (pc1 := 36) d_Mod_mealsBy_34 rfl 7 rfl ?_
      refine g_aload_n (pc1 := 37) d_Mod_mealsBy_36 rfl 0 rfl ?_
      refine g_getr (pc1 := 40) d_Mod_mealsBy_37 rfl ⟨_, fo_Mod_58⟩ sh_401 (by decide) (rf_401_27 ld) ?_
      refine g_aload_n (pc1 := 41) d_Mod_mealsBy_40 rfl 0 rfl ?_
      refine g_geti (pc1 := 44) d_Mod_mealsBy_41 rfl ⟨_, fo_Mod_236⟩ sh_401 (by decide) ?_
      obtain ⟨g8, h⟩ := gdn h
      refine g_iald (pc1 := 45) d_Mod_mealsBy_44 rfl sh_415 (by decide) g8 ?_
      refine g_icmp_lt (pc1 := 48) (tgt := 50) d_Mod_mealsBy_45 (by decide) rfl (fun c9 => ?_) (fun c9 => ?_)
      · replace h := itp h c9
        refine g_iload (pc1 := 52) d_Mod_mealsBy_50 rfl 7 rfl ?_
        refine g_if_lt (pc1 := 55) (tgt := 65) d_Mod_mealsBy_52 (by decide) rfl (fun c10 => ?_) (fun c10 => ?_)
        · replace h := itp h c10
          refine Wp.loc (lv' := [(0, .ref 401), (1, .int v1), (2, .int v2), (3, .int v3), (4, .int v4), (5, .int v5), (6, .int v6)]) [0, 1, 2, 3, 4, 5, 6] rfl ?_
          exact j_Mod_mealsBy_65 hld  hQ hK10 h
        · replace h := itn h c10
          refine g_aload_n (pc1 := 56) d_Mod_mealsBy_55 rfl 0 rfl ?_
          refine g_iload_n (pc1 := 57) d_Mod_mealsBy_56 rfl 2 rfl ?_
          refine g_iload (pc1 := 59) d_Mod_mealsBy_57 rfl 7 rfl ?_
          refine g_callV0 (pc1 := 62) (As := [.int v2, .int x7]) (rest := []) d_Mod_mealsBy_59 rfl mo_Mod_431 mi_Mod_eatsDish mv_Mod_eatsDish rfl sh_401 (by decide) (by decide) rfl rfl (Nat.le_of_ble_eq_true rfl) ?_
          obtain ⟨q16, hq17, h⟩ := bnd h
          refine f_Mod_eatsDish hld  hq17 ?_
          dsimp only [psh]
          obtain ⟨x18, ex18, h⟩ := ltI h
          refine g_iinc (pc1 := 65) (v := x18) (lv' := [(0, .ref 401), (1, .int v1), (2, .int v2), (3, .int v3), (4, .int v4), (5, .int x18), (6, .int v6), (7, .int x7)]) d_Mod_mealsBy_62 rfl 5 rfl (by rw [ex18]; rfl) (by decide) [1, 2, 3, 4, 5, 0, 6, 7] rfl ?_
          refine Wp.loc (lv' := [(0, .ref 401), (1, .int v1), (2, .int v2), (3, .int v3), (4, .int v4), (5, .int x18), (6, .int v6)]) [0, 1, 2, 3, 4, 5, 6] rfl ?_
          exact j_Mod_mealsBy_65 hld  hQ hK10 h
      · replace h := itn h c9
        refine g_iconst (pc1 := 49) (v := (-1)) d_Mod_mealsBy_48 rfl (by decide) ?_
        refine g_ireturn (Or.inl rfl) d_Mod_mealsBy_49 rfl ?_
        cases h; exact hQ
def F_Mod_mealsBy (p1 : Int32) (p2 : Int32) (p3 : Int32) (p4 : Int32) (M : gM) : Option (Int32 × gM) :=
  bI (F_Mod_copies M) (fun q1 => H_Mod_mealsBy_10 p1 p2 p3 p4 FU 0 0 q1)
set_option maxHeartbeats 4000000 in
set_option maxRecDepth 20000 in
theorem f_Mod_mealsBy {l : Launch} {ld : Nat} {M : gM} {L : gL} {Q : Option Value → gM → gL → gR → Prop} (hld : isLa ld) {p1 : Int32} {p2 : Int32} {p3 : Int32} {p4 : Int32}  {q : Int32 × gM} (h : F_Mod_mealsBy p1 p2 p3 p4 M = some q) (hQ : Q (some (.int q.1)) q.2 L (rf ld)) : Tm l y_Mod_mealsBy (0, 0, 447) 447 [.ref 401, .int p1, .int p2, .int p3, .int p4] M L (rf ld) Q := by
  refine Tm.of (by decide) (Nat.le_of_ble_eq_true rfl) ?_
  show Wp l y_Mod_mealsBy (0, 0, 447) 447 0 0 0 [(0, .ref 401), (1, .int p1), (2, .int p2), (3, .int p3), (4, .int p4)] [] M L (rf ld) Q
  unfold F_Mod_mealsBy at h
  refine g_aload_n (pc1 := 1) d_Mod_mealsBy_0 rfl 0 rfl ?_
  refine g_callV0 (pc1 := 4) (As := []) (rest := []) d_Mod_mealsBy_1 rfl mo_Mod_377 mi_Mod_copies mv_Mod_copies rfl sh_401 (by decide) (by decide) rfl rfl (Nat.le_of_ble_eq_true rfl) ?_
  obtain ⟨q1, hq2, h⟩ := bnd h
  refine f_Mod_copies hld  hq2 ?_
  dsimp only [psh]
  refine g_iconst (pc1 := 5) (v := 0) d_Mod_mealsBy_4 rfl (by decide) ?_
  refine g_istore (pc1 := 7) (lv' := [(0, .ref 401), (1, .int p1), (2, .int p2), (3, .int p3), (4, .int p4), (5, .int 0)]) d_Mod_mealsBy_5 rfl (by decide) [1, 2, 3, 4, 5, 0] rfl ?_
  refine g_iconst (pc1 := 8) (v := 0) d_Mod_mealsBy_7 rfl (by decide) ?_
  refine g_istore (pc1 := 10) (lv' := [(0, .ref 401), (1, .int p1), (2, .int p2), (3, .int p3), (4, .int p4), (5, .int 0), (6, .int 0)]) d_Mod_mealsBy_8 rfl (by decide) [1, 2, 3, 4, 5, 6, 0] rfl ?_
  exact h_Mod_mealsBy_10 hld  hQ  _ 0 0 q1 h

def B_Mod_read_219 (L : gL) (K219 : Int32 → gM → Option (Int32 × gM × gL)) : Int32 → gM → Option (Int32 × gM × gL) := fun v1 M =>
  (if 3 ≤ v1 then some (0, M, L) else (if (v1 : Int32) < 0 ∨ 3 ≤ (v1 : Int32).toNatClampNeg then none else nmM (uM M 445 (v1 : Int32).toNatClampNeg (vp_nar .boolean 0)) (fun M31 => nmI (v1 + 1) (fun x32 => K219 x32 M31))))
def H_Mod_read_219 (L : gL) : Nat → Int32 → gM → Option (Int32 × gM × gL) := lpK (B_Mod_read_219 L) (fun _ _ => none)
set_option maxHeartbeats 4000000 in
set_option maxRecDepth 20000 in
theorem h_Mod_read_219 {l : Launch} {ld : Nat} {Q : Option Value → gM → gL → gR → Prop} (hld : isLa ld)   {q : Int32 × gM × gL} {L : gL} (hQ : Q (some (.int q.1)) q.2.1 q.2.2 (rf ld))    : ∀ (f : Nat) (v1 : Int32) (M : gM), H_Mod_read_219 L f v1 M = some q → Wp l y_Mod_read (0, 0, 447) 447 0 0 219 [(0, .ref 401), (1, .int v1)] [] M L (rf ld) Q := by
  intro f
  induction f with
  | zero => intro v1 M h; cases h
  | succ f hK219 =>
    intro v1 M h
    replace h : B_Mod_read_219 L (H_Mod_read_219 L f) v1 M = some q := h
    unfold B_Mod_read_219 at h
    refine g_iload_n (pc1 := 220) d_Mod_read_219 rfl 1 rfl ?_
    refine g_iconst (pc1 := 221) (v := 3) d_Mod_read_220 rfl (by decide) ?_
    refine g_icmp_ge (pc1 := 224) (tgt := 237) d_Mod_read_221 (by decide) rfl (fun c29 => ?_) (fun c29 => ?_)
    · replace h := itp h c29
      refine g_iconst (pc1 := 238) (v := 0) d_Mod_read_237 rfl (by decide) ?_
      refine g_ireturn (Or.inl rfl) d_Mod_read_238 rfl ?_
      cases h; exact hQ
    · replace h := itn h c29
      refine g_aload_n (pc1 := 225) d_Mod_read_224 rfl 0 rfl ?_
      refine g_getr (pc1 := 228) d_Mod_read_225 rfl ⟨_, fo_Mod_149⟩ sh_401 (by decide) (rf_401_69 ld) ?_
      refine g_iload_n (pc1 := 229) d_Mod_read_228 rfl 1 rfl ?_
      refine g_iconst (pc1 := 230) (v := 0) d_Mod_read_229 rfl (by decide) ?_
      obtain ⟨g30, h⟩ := gdn h
      refine g_zast (pc1 := 231) d_Mod_read_230 rfl sh_445 (by decide) g30 ?_
      refine Wp.lM h (fun M31 h => ?_)
      obtain ⟨x32, ex32, h⟩ := ltI h
      refine g_iinc (pc1 := 234) (v := x32) (lv' := [(0, .ref 401), (1, .int x32)]) d_Mod_read_231 rfl 1 rfl (by rw [ex32]; rfl) (by decide) [1, 0] rfl ?_
      refine g_goto (tgt := 219) d_Mod_read_234 (by decide) ?_
      exact hK219 x32 M31 h
def J_Mod_read_164 (s1 : Int32) (M : gM) (L : gL) : Option (Int32 × gM × gL) :=
  nmM (uM M 401 17 s1) (fun M19 => (if (M19 401 13) ≤ 0 then (if (M19 401 15) ≤ 0 then nmM (uM M19 401 18 (M19 401 19)) (fun M22 => bI (F_Mod_begins M22) (fun q23 => bI (F_Mod_keepsRow q23) (fun q25 => nmM (uM q25 401 57 0) (fun M27 => nmM (uM M27 401 64 0) (fun M28 => H_Mod_read_219 L FU 0 M28))))) else some ((M19 401 15), M19, L)) else some ((M19 401 13), M19, L)))
set_option maxHeartbeats 4000000 in
set_option maxRecDepth 20000 in
theorem j_Mod_read_164 {l : Launch} {ld : Nat} {Q : Option Value → gM → gL → gR → Prop} (hld : isLa ld)   {q : Int32 × gM × gL} {M : gM} {L : gL} (hQ : Q (some (.int q.1)) q.2.1 q.2.2 (rf ld))  {s1 : Int32}  (h : J_Mod_read_164 s1 M L = some q) : Wp l y_Mod_read (0, 0, 447) 447 0 0 164 [(0, .ref 401)] [.int s1, .ref 401] M L (rf ld) Q := by
  unfold J_Mod_read_164 at h
  refine g_puti (pc1 := 167) d_Mod_read_164 rfl fo_Mod_37 (po_12_17 _) sh_401 (by decide) ?_
  refine Wp.lM h (fun M19 h => ?_)
  refine g_aload_n (pc1 := 168) d_Mod_read_167 rfl 0 rfl ?_
  refine g_geti (pc1 := 171) d_Mod_read_168 rfl ⟨_, fo_Mod_206⟩ sh_401 (by decide) ?_
  refine g_if_le (pc1 := 174) (tgt := 179) d_Mod_read_171 (by decide) rfl (fun c20 => ?_) (fun c20 => ?_)
  · replace h := itp h c20
    refine g_aload_n (pc1 := 180) d_Mod_read_179 rfl 0 rfl ?_
    refine g_geti (pc1 := 183) d_Mod_read_180 rfl ⟨_, fo_Mod_215⟩ sh_401 (by decide) ?_
    refine g_if_le (pc1 := 186) (tgt := 191) d_Mod_read_183 (by decide) rfl (fun c21 => ?_) (fun c21 => ?_)
    · replace h := itp h c21
      refine g_aload_n (pc1 := 192) d_Mod_read_191 rfl 0 rfl ?_
      refine g_aload_n (pc1 := 193) d_Mod_read_192 rfl 0 rfl ?_
      refine g_geti (pc1 := 196) d_Mod_read_193 rfl ⟨_, fo_Mod_239⟩ sh_401 (by decide) ?_
      refine g_puti (pc1 := 199) d_Mod_read_196 rfl fo_Mod_236 (po_12_18 _) sh_401 (by decide) ?_
      refine Wp.lM h (fun M22 h => ?_)
      refine g_aload_n (pc1 := 200) d_Mod_read_199 rfl 0 rfl ?_
      refine g_callV0 (pc1 := 203) (As := []) (rest := []) d_Mod_read_200 rfl mo_Mod_163 mi_Mod_begins mv_Mod_begins rfl sh_401 (by decide) (by decide) rfl rfl (Nat.le_of_ble_eq_true rfl) ?_
      obtain ⟨q23, hq24, h⟩ := bnd h
      refine f_Mod_begins hld  hq24 ?_
      dsimp only [psh]
      refine g_aload_n (pc1 := 204) d_Mod_read_203 rfl 0 rfl ?_
      refine g_callV0 (pc1 := 207) (As := []) (rest := []) d_Mod_read_204 rfl mo_Mod_166 mi_Mod_keepsRow mv_Mod_keepsRow rfl sh_401 (by decide) (by decide) rfl rfl (Nat.le_of_ble_eq_true rfl) ?_
      obtain ⟨q25, hq26, h⟩ := bnd h
      refine f_Mod_keepsRow hld  hq26 ?_
      dsimp only [psh]
      refine g_aload_n (pc1 := 208) d_Mod_read_207 rfl 0 rfl ?_
      refine g_iconst (pc1 := 209) (v := 0) d_Mod_read_208 rfl (by decide) ?_
      refine g_puti (pc1 := 212) d_Mod_read_209 rfl fo_Mod_254 (po_12_57 _) sh_401 (by decide) ?_
      refine Wp.lM h (fun M27 h => ?_)
      refine g_aload_n (pc1 := 213) d_Mod_read_212 rfl 0 rfl ?_
      refine g_iconst (pc1 := 214) (v := 0) d_Mod_read_213 rfl (by decide) ?_
      refine g_puti (pc1 := 217) d_Mod_read_214 rfl fo_Mod_257 (po_12_64 _) sh_401 (by decide) ?_
      refine Wp.lM h (fun M28 h => ?_)
      refine g_iconst (pc1 := 218) (v := 0) d_Mod_read_217 rfl (by decide) ?_
      refine g_istore_n (pc1 := 219) (lv' := [(0, .ref 401), (1, .int 0)]) d_Mod_read_218 rfl rfl (by decide) [1, 0] rfl ?_
      exact h_Mod_read_219 hld  hQ  _ 0 M28 h
    · replace h := itn h c21
      refine g_aload_n (pc1 := 187) d_Mod_read_186 rfl 0 rfl ?_
      refine g_geti (pc1 := 190) d_Mod_read_187 rfl ⟨_, fo_Mod_215⟩ sh_401 (by decide) ?_
      refine g_ireturn (Or.inl rfl) d_Mod_read_190 rfl ?_
      cases h; exact hQ
  · replace h := itn h c20
    refine g_aload_n (pc1 := 175) d_Mod_read_174 rfl 0 rfl ?_
    refine g_geti (pc1 := 178) d_Mod_read_175 rfl ⟨_, fo_Mod_206⟩ sh_401 (by decide) ?_
    refine g_ireturn (Or.inl rfl) d_Mod_read_178 rfl ?_
    cases h; exact hQ
def J_Mod_read_134 (M : gM) (L : gL) : Option (Int32 × gM × gL) :=
  (if (M 401 13) ≤ 0 then (if (M 401 15) ≤ 0 then J_Mod_read_164 (-1) M L else J_Mod_read_164 (M 401 16) M L) else J_Mod_read_164 (M 401 14) M L)
set_option maxHeartbeats 4000000 in
set_option maxRecDepth 20000 in
theorem j_Mod_read_134 {l : Launch} {ld : Nat} {Q : Option Value → gM → gL → gR → Prop} (hld : isLa ld)   {q : Int32 × gM × gL} {M : gM} {L : gL} (hQ : Q (some (.int q.1)) q.2.1 q.2.2 (rf ld))    (h : J_Mod_read_134 M L = some q) : Wp l y_Mod_read (0, 0, 447) 447 0 0 134 [(0, .ref 401)] [] M L (rf ld) Q := by
  unfold J_Mod_read_134 at h
  refine g_aload_n (pc1 := 135) d_Mod_read_134 rfl 0 rfl ?_
  refine g_aload_n (pc1 := 136) d_Mod_read_135 rfl 0 rfl ?_
  refine g_geti (pc1 := 139) d_Mod_read_136 rfl ⟨_, fo_Mod_206⟩ sh_401 (by decide) ?_
  refine g_if_le (pc1 := 142) (tgt := 149) d_Mod_read_139 (by decide) rfl (fun c17 => ?_) (fun c17 => ?_)
  · replace h := itp h c17
    refine g_aload_n (pc1 := 150) d_Mod_read_149 rfl 0 rfl ?_
    refine g_geti (pc1 := 153) d_Mod_read_150 rfl ⟨_, fo_Mod_215⟩ sh_401 (by decide) ?_
    refine g_if_le (pc1 := 156) (tgt := 163) d_Mod_read_153 (by decide) rfl (fun c18 => ?_) (fun c18 => ?_)
    · replace h := itp h c18
      refine g_iconst (pc1 := 164) (v := (-1)) d_Mod_read_163 rfl (by decide) ?_
      exact j_Mod_read_164 hld  hQ  h
    · replace h := itn h c18
      refine g_aload_n (pc1 := 157) d_Mod_read_156 rfl 0 rfl ?_
      refine g_geti (pc1 := 160) d_Mod_read_157 rfl ⟨_, fo_Mod_218⟩ sh_401 (by decide) ?_
      refine g_goto (tgt := 164) d_Mod_read_160 (by decide) ?_
      exact j_Mod_read_164 hld  hQ  h
  · replace h := itn h c17
    refine g_aload_n (pc1 := 143) d_Mod_read_142 rfl 0 rfl ?_
    refine g_geti (pc1 := 146) d_Mod_read_143 rfl ⟨_, fo_Mod_212⟩ sh_401 (by decide) ?_
    refine g_goto (tgt := 164) d_Mod_read_146 (by decide) ?_
    exact j_Mod_read_164 hld  hQ  h
def B_Mod_read_112  (K112 : gM → gL → Option (Int32 × gM × gL)) : gM → gL → Option (Int32 × gM × gL) := fun M L =>
  (if (M 401 13) = 0 then bI (F_Mod_is 0 M) (fun q33 => (if q33 = 0 then bI (F_Mod_tellOne M L) (fun q36 => K112 q36.1 q36.2) else J_Mod_read_134 M L)) else J_Mod_read_134 M L)
def H_Mod_read_112  : Nat → gM → gL → Option (Int32 × gM × gL) := lpK (B_Mod_read_112 ) (fun _ _ => none)
set_option maxHeartbeats 4000000 in
set_option maxRecDepth 20000 in
theorem h_Mod_read_112 {l : Launch} {ld : Nat} {Q : Option Value → gM → gL → gR → Prop} (hld : isLa ld)   {q : Int32 × gM × gL} (hQ : Q (some (.int q.1)) q.2.1 q.2.2 (rf ld))    : ∀ (f : Nat) (M : gM) (L : gL), H_Mod_read_112  f M L = some q → Wp l y_Mod_read (0, 0, 447) 447 0 0 112 [(0, .ref 401)] [] M L (rf ld) Q := by
  intro f
  induction f with
  | zero => intro M L h; cases h
  | succ f hK112 =>
    intro M L h
    replace h : B_Mod_read_112  (H_Mod_read_112  f) M L = some q := h
    unfold B_Mod_read_112 at h
    refine g_aload_n (pc1 := 113) d_Mod_read_112 rfl 0 rfl ?_
    refine g_geti (pc1 := 116) d_Mod_read_113 rfl ⟨_, fo_Mod_206⟩ sh_401 (by decide) ?_
    refine g_if_ne (pc1 := 119) (tgt := 134) d_Mod_read_116 (by decide) rfl (fun c16 => ?_) (fun c16 => ?_)
    · replace h := itn h c16
      exact j_Mod_read_134 hld  hQ  h
    · replace h := itp h c16
      refine g_aload_n (pc1 := 120) d_Mod_read_119 rfl 0 rfl ?_
      refine g_iconst (pc1 := 121) (v := 0) d_Mod_read_120 rfl (by decide) ?_
      refine g_callV0 (pc1 := 124) (As := [.int 0]) (rest := []) d_Mod_read_121 rfl mo_Mod_224 mi_Mod_is mv_Mod_is rfl sh_401 (by decide) (by decide) rfl rfl (Nat.le_of_ble_eq_true rfl) ?_
      obtain ⟨q33, hq34, h⟩ := bnd h
      refine f_Mod_is hld  hq34 ?_
      dsimp only [psh]
      refine g_if_ne (pc1 := 127) (tgt := 134) d_Mod_read_124 (by decide) rfl (fun c35 => ?_) (fun c35 => ?_)
      · replace h := itn h c35
        exact j_Mod_read_134 hld  hQ  h
      · replace h := itp h c35
        refine g_aload_n (pc1 := 128) d_Mod_read_127 rfl 0 rfl ?_
        refine g_callV0 (pc1 := 131) (As := []) (rest := []) d_Mod_read_128 rfl mo_Mod_251 mi_Mod_tellOne mv_Mod_tellOne rfl sh_401 (by decide) (by decide) rfl rfl (Nat.le_of_ble_eq_true rfl) ?_
        obtain ⟨q36, hq37, h⟩ := bnd h
        refine f_Mod_tellOne hld  hq37 ?_
        dsimp only [psh]
        refine g_goto (tgt := 112) d_Mod_read_131 (by decide) ?_
        exact hK112 q36.1 q36.2 h
def J_Mod_read_36 (M : gM) (L : gL) : Option (Int32 × gM × gL) :=
  nmM (uM M 401 2 0) (fun M3 => bI (F_Mod_cut M3 L) (fun q4 => nmM (uM q4.1 401 11 0) (fun M6 => nmM (uM M6 401 12 0) (fun M7 => nmM (uM M7 401 13 0) (fun M8 => nmM (uM M8 401 15 0) (fun M9 => nmM (uM M9 401 19 (1 - (M9 401 18))) (fun M10 => nmM (uM M10 401 20 0) (fun M11 => bI (F_Mod_plain (M11 401 19) M11) (fun q12 => nmM (uM q12 401 38 (130 * (q12 401 19))) (fun M14 => nmM (uM M14 401 44 (420 * (M14 401 19))) (fun M15 => H_Mod_read_112 FU M15 q4.2)))))))))))
set_option maxHeartbeats 4000000 in
set_option maxRecDepth 20000 in
theorem j_Mod_read_36 {l : Launch} {ld : Nat} {Q : Option Value → gM → gL → gR → Prop} (hld : isLa ld)   {q : Int32 × gM × gL} {M : gM} {L : gL} (hQ : Q (some (.int q.1)) q.2.1 q.2.2 (rf ld))    (h : J_Mod_read_36 M L = some q) : Wp l y_Mod_read (0, 0, 447) 447 0 0 36 [(0, .ref 401)] [] M L (rf ld) Q := by
  unfold J_Mod_read_36 at h
  refine g_aload_n (pc1 := 37) d_Mod_read_36 rfl 0 rfl ?_
  refine g_iconst (pc1 := 38) (v := 0) d_Mod_read_37 rfl (by decide) ?_
  refine g_puti (pc1 := 41) d_Mod_read_38 rfl fo_Mod_169 (po_12_2 _) sh_401 (by decide) ?_
  refine Wp.lM h (fun M3 h => ?_)
  refine g_aload_n (pc1 := 42) d_Mod_read_41 rfl 0 rfl ?_
  refine g_callV0 (pc1 := 45) (As := []) (rest := []) d_Mod_read_42 rfl mo_Mod_230 mi_Mod_cut mv_Mod_cut rfl sh_401 (by decide) (by decide) rfl rfl (Nat.le_of_ble_eq_true rfl) ?_
  obtain ⟨q4, hq5, h⟩ := bnd h
  refine f_Mod_cut hld  hq5 ?_
  dsimp only [psh]
  refine g_aload_n (pc1 := 46) d_Mod_read_45 rfl 0 rfl ?_
  refine g_iconst (pc1 := 47) (v := 0) d_Mod_read_46 rfl (by decide) ?_
  refine g_puti (pc1 := 50) d_Mod_read_47 rfl fo_Mod_209 (po_12_11 _) sh_401 (by decide) ?_
  refine Wp.lM h (fun M6 h => ?_)
  refine g_aload_n (pc1 := 51) d_Mod_read_50 rfl 0 rfl ?_
  refine g_iconst (pc1 := 52) (v := 0) d_Mod_read_51 rfl (by decide) ?_
  refine g_puti (pc1 := 55) d_Mod_read_52 rfl fo_Mod_233 (po_12_12 _) sh_401 (by decide) ?_
  refine Wp.lM h (fun M7 h => ?_)
  refine g_aload_n (pc1 := 56) d_Mod_read_55 rfl 0 rfl ?_
  refine g_iconst (pc1 := 57) (v := 0) d_Mod_read_56 rfl (by decide) ?_
  refine g_puti (pc1 := 60) d_Mod_read_57 rfl fo_Mod_206 (po_12_13 _) sh_401 (by decide) ?_
  refine Wp.lM h (fun M8 h => ?_)
  refine g_aload_n (pc1 := 61) d_Mod_read_60 rfl 0 rfl ?_
  refine g_iconst (pc1 := 62) (v := 0) d_Mod_read_61 rfl (by decide) ?_
  refine g_puti (pc1 := 65) d_Mod_read_62 rfl fo_Mod_215 (po_12_15 _) sh_401 (by decide) ?_
  refine Wp.lM h (fun M9 h => ?_)
  refine g_aload_n (pc1 := 66) d_Mod_read_65 rfl 0 rfl ?_
  refine g_iconst (pc1 := 67) (v := 1) d_Mod_read_66 rfl (by decide) ?_
  refine g_aload_n (pc1 := 68) d_Mod_read_67 rfl 0 rfl ?_
  refine g_geti (pc1 := 71) d_Mod_read_68 rfl ⟨_, fo_Mod_236⟩ sh_401 (by decide) ?_
  refine g_isub (pc1 := 72) d_Mod_read_71 rfl ?_
  refine g_puti (pc1 := 75) d_Mod_read_72 rfl fo_Mod_239 (po_12_19 _) sh_401 (by decide) ?_
  refine Wp.lM h (fun M10 h => ?_)
  refine g_aload_n (pc1 := 76) d_Mod_read_75 rfl 0 rfl ?_
  refine g_iconst (pc1 := 77) (v := 0) d_Mod_read_76 rfl (by decide) ?_
  refine g_puti (pc1 := 80) d_Mod_read_77 rfl fo_Mod_242 (po_12_20 _) sh_401 (by decide) ?_
  refine Wp.lM h (fun M11 h => ?_)
  refine g_aload_n (pc1 := 81) d_Mod_read_80 rfl 0 rfl ?_
  refine g_aload_n (pc1 := 82) d_Mod_read_81 rfl 0 rfl ?_
  refine g_geti (pc1 := 85) d_Mod_read_82 rfl ⟨_, fo_Mod_239⟩ sh_401 (by decide) ?_
  refine g_callV0 (pc1 := 88) (As := [.int (M11 401 19)]) (rest := []) d_Mod_read_85 rfl mo_Mod_155 mi_Mod_plain mv_Mod_plain rfl sh_401 (by decide) (by decide) rfl rfl (Nat.le_of_ble_eq_true rfl) ?_
  obtain ⟨q12, hq13, h⟩ := bnd h
  refine f_Mod_plain hld  hq13 ?_
  dsimp only [psh]
  refine g_aload_n (pc1 := 89) d_Mod_read_88 rfl 0 rfl ?_
  refine g_sipush (pc1 := 92) (v := 130) d_Mod_read_89 rfl (by decide) ?_
  refine g_aload_n (pc1 := 93) d_Mod_read_92 rfl 0 rfl ?_
  refine g_geti (pc1 := 96) d_Mod_read_93 rfl ⟨_, fo_Mod_239⟩ sh_401 (by decide) ?_
  refine g_imul (pc1 := 97) d_Mod_read_96 rfl ?_
  refine g_puti (pc1 := 100) d_Mod_read_97 rfl fo_Mod_245 (po_12_38 _) sh_401 (by decide) ?_
  refine Wp.lM h (fun M14 h => ?_)
  refine g_aload_n (pc1 := 101) d_Mod_read_100 rfl 0 rfl ?_
  refine g_sipush (pc1 := 104) (v := 420) d_Mod_read_101 rfl (by decide) ?_
  refine g_aload_n (pc1 := 105) d_Mod_read_104 rfl 0 rfl ?_
  refine g_geti (pc1 := 108) d_Mod_read_105 rfl ⟨_, fo_Mod_239⟩ sh_401 (by decide) ?_
  refine g_imul (pc1 := 109) d_Mod_read_108 rfl ?_
  refine g_puti (pc1 := 112) d_Mod_read_109 rfl fo_Mod_248 (po_12_44 _) sh_401 (by decide) ?_
  refine Wp.lM h (fun M15 h => ?_)
  exact h_Mod_read_112 hld  hQ  _ M15 q4.2 h
def B_Mod_read_10 (L : gL) (K10 : Int32 → gM → Option (Int32 × gM × gL)) : Int32 → gM → Option (Int32 × gM × gL) := fun v1 M =>
  (if (M 401 4) ≤ v1 then J_Mod_read_36 M L else (if (v1 : Int32) < 0 ∨ 2000 ≤ (v1 : Int32).toNatClampNeg then none else (if (v1 : Int32) < 0 ∨ 2000 ≤ (v1 : Int32).toNatClampNeg then none else nmM (uM M 403 (v1 : Int32).toNatClampNeg (vp_nar .byte (M 402 (v1 : Int32).toNatClampNeg))) (fun M40 => nmI (v1 + 1) (fun x41 => K10 x41 M40)))))
def H_Mod_read_10 (L : gL) : Nat → Int32 → gM → Option (Int32 × gM × gL) := lpK (B_Mod_read_10 L) (fun _ _ => none)
set_option maxHeartbeats 4000000 in
set_option maxRecDepth 20000 in
theorem h_Mod_read_10 {l : Launch} {ld : Nat} {Q : Option Value → gM → gL → gR → Prop} (hld : isLa ld)   {q : Int32 × gM × gL} {L : gL} (hQ : Q (some (.int q.1)) q.2.1 q.2.2 (rf ld))    : ∀ (f : Nat) (v1 : Int32) (M : gM), H_Mod_read_10 L f v1 M = some q → Wp l y_Mod_read (0, 0, 447) 447 0 0 10 [(0, .ref 401), (1, .int v1)] [] M L (rf ld) Q := by
  intro f
  induction f with
  | zero => intro v1 M h; cases h
  | succ f hK10 =>
    intro v1 M h
    replace h : B_Mod_read_10 L (H_Mod_read_10 L f) v1 M = some q := h
    unfold B_Mod_read_10 at h
    refine g_iload_n (pc1 := 11) d_Mod_read_10 rfl 1 rfl ?_
    refine g_aload_n (pc1 := 12) d_Mod_read_11 rfl 0 rfl ?_
    refine g_geti (pc1 := 15) d_Mod_read_12 rfl ⟨_, fo_Mod_175⟩ sh_401 (by decide) ?_
    refine g_icmp_ge (pc1 := 18) (tgt := 36) d_Mod_read_15 (by decide) rfl (fun c2 => ?_) (fun c2 => ?_)
    · replace h := itp h c2
      refine Wp.loc (lv' := [(0, .ref 401)]) [0] rfl ?_
      exact j_Mod_read_36 hld  hQ  h
    · replace h := itn h c2
      refine g_aload_n (pc1 := 19) d_Mod_read_18 rfl 0 rfl ?_
      refine g_getr (pc1 := 22) d_Mod_read_19 rfl ⟨_, fo_Mod_17⟩ sh_401 (by decide) (rf_401_3 ld) ?_
      refine g_iload_n (pc1 := 23) d_Mod_read_22 rfl 1 rfl ?_
      refine g_aload_n (pc1 := 24) d_Mod_read_23 rfl 0 rfl ?_
      refine g_getr (pc1 := 27) d_Mod_read_24 rfl ⟨_, fo_Mod_13⟩ sh_401 (by decide) (rf_401_1 ld) ?_
      refine g_iload_n (pc1 := 28) d_Mod_read_27 rfl 1 rfl ?_
      obtain ⟨g38, h⟩ := gdn h
      refine g_bald (pc1 := 29) d_Mod_read_28 rfl sh_402 (by decide) g38 ?_
      obtain ⟨g39, h⟩ := gdn h
      refine g_bast (pc1 := 30) d_Mod_read_29 rfl sh_403 (by decide) g39 ?_
      refine Wp.lM h (fun M40 h => ?_)
      obtain ⟨x41, ex41, h⟩ := ltI h
      refine g_iinc (pc1 := 33) (v := x41) (lv' := [(0, .ref 401), (1, .int x41)]) d_Mod_read_30 rfl 1 rfl (by rw [ex41]; rfl) (by decide) [1, 0] rfl ?_
      refine g_goto (tgt := 10) d_Mod_read_33 (by decide) ?_
      exact hK10 x41 M40 h
def F_Mod_read (M : gM) (L : gL) : Option (Int32 × gM × gL) :=
  nmM (uM M 401 4 (M 401 2)) (fun M1 => H_Mod_read_10 L FU 0 M1)
set_option maxHeartbeats 4000000 in
set_option maxRecDepth 20000 in
theorem f_Mod_read {l : Launch} {ld : Nat} {M : gM} {L : gL} {Q : Option Value → gM → gL → gR → Prop} (hld : isLa ld)   {q : Int32 × gM × gL} (h : F_Mod_read M L = some q) (hQ : Q (some (.int q.1)) q.2.1 q.2.2 (rf ld)) : Tm l y_Mod_read (0, 0, 447) 447 [.ref 401] M L (rf ld) Q := by
  refine Tm.of (by decide) (Nat.le_of_ble_eq_true rfl) ?_
  show Wp l y_Mod_read (0, 0, 447) 447 0 0 0 [(0, .ref 401)] [] M L (rf ld) Q
  unfold F_Mod_read at h
  refine g_aload_n (pc1 := 1) d_Mod_read_0 rfl 0 rfl ?_
  refine g_aload_n (pc1 := 2) d_Mod_read_1 rfl 0 rfl ?_
  refine g_geti (pc1 := 5) d_Mod_read_2 rfl ⟨_, fo_Mod_169⟩ sh_401 (by decide) ?_
  refine g_puti (pc1 := 8) d_Mod_read_5 rfl fo_Mod_175 (po_12_4 _) sh_401 (by decide) ?_
  refine Wp.lM h (fun M1 h => ?_)
  refine g_iconst (pc1 := 9) (v := 0) d_Mod_read_8 rfl (by decide) ?_
  refine g_istore_n (pc1 := 10) (lv' := [(0, .ref 401), (1, .int 0)]) d_Mod_read_9 rfl rfl (by decide) [1, 0] rfl ?_
  exact h_Mod_read_10 hld  hQ  _ 0 M1 h

def J_Mod_freest_33 (v3 : Int32) (M : gM) : Option (Int32 × gM) :=
  some (v3, M)
set_option maxHeartbeats 4000000 in
set_option maxRecDepth 20000 in
theorem j_Mod_freest_33 {l : Launch} {ld : Nat} {Q : Option Value → gM → gL → gR → Prop} (hld : isLa ld)   {q : Int32 × gM} {M : gM} {L : gL} (hQ : Q (some (.int q.1)) q.2 L (rf ld))  {v3 : Int32}  (h : J_Mod_freest_33 v3 M = some q) : Wp l y_Mod_freest (0, 0, 447) 447 0 0 33 [(3, .int v3)] [] M L (rf ld) Q := by
  unfold J_Mod_freest_33 at h
  refine g_iload_n (pc1 := 34) d_Mod_freest_33 rfl 0 rfl ?_
  refine g_goto (tgt := 41) d_Mod_freest_34 (by decide) ?_
  refine g_ireturn (Or.inl rfl) d_Mod_freest_41 rfl ?_
  cases h; exact hQ
def F_Mod_freest (p1 : Int32) (p2 : Int32) (M : gM) : Option (Int32 × gM) :=
  bI (F_Mod_isGuest p1 M) (fun q1 => (if q1 = 0 then some ((-1), M) else bI (F_Mod_in p2 0 1) (fun q4 => (if q4 = 0 then some ((-1), M) else bI (F_Mod_freestOf p1 M) (fun q7 => (if q7.1 < 0 then J_Mod_freest_33 q7.1 q7.2 else (if p2 = 0 then J_Mod_freest_33 q7.1 q7.2 else some ((q7.2 401 63), q7.2))))))))
set_option maxHeartbeats 4000000 in
set_option maxRecDepth 20000 in
theorem f_Mod_freest {l : Launch} {ld : Nat} {M : gM} {L : gL} {Q : Option Value → gM → gL → gR → Prop} (hld : isLa ld) {p1 : Int32} {p2 : Int32}  {q : Int32 × gM} (h : F_Mod_freest p1 p2 M = some q) (hQ : Q (some (.int q.1)) q.2 L (rf ld)) : Tm l y_Mod_freest (0, 0, 447) 447 [.ref 401, .int p1, .int p2] M L (rf ld) Q := by
  refine Tm.of (by decide) (Nat.le_of_ble_eq_true rfl) ?_
  show Wp l y_Mod_freest (0, 0, 447) 447 0 0 0 [(0, .ref 401), (1, .int p1), (2, .int p2)] [] M L (rf ld) Q
  unfold F_Mod_freest at h
  refine g_aload_n (pc1 := 1) d_Mod_freest_0 rfl 0 rfl ?_
  refine g_iload_n (pc1 := 2) d_Mod_freest_1 rfl 1 rfl ?_
  refine g_callV0 (pc1 := 5) (As := [.int p1]) (rest := []) d_Mod_freest_2 rfl mo_Mod_380 mi_Mod_isGuest mv_Mod_isGuest rfl sh_401 (by decide) (by decide) rfl rfl (Nat.le_of_ble_eq_true rfl) ?_
  obtain ⟨q1, hq2, h⟩ := bnd h
  refine f_Mod_isGuest hld  hq2 ?_
  dsimp only [psh]
  refine g_if_eq (pc1 := 8) (tgt := 17) d_Mod_freest_5 (by decide) rfl (fun c3 => ?_) (fun c3 => ?_)
  · replace h := itp h c3
    refine g_iconst (pc1 := 18) (v := (-1)) d_Mod_freest_17 rfl (by decide) ?_
    refine g_ireturn (Or.inl rfl) d_Mod_freest_18 rfl ?_
    cases h; exact hQ
  · replace h := itn h c3
    refine g_iload_n (pc1 := 9) d_Mod_freest_8 rfl 2 rfl ?_
    refine g_iconst (pc1 := 10) (v := 0) d_Mod_freest_9 rfl (by decide) ?_
    refine g_iconst (pc1 := 11) (v := 1) d_Mod_freest_10 rfl (by decide) ?_
    refine g_callS0 (pc1 := 14) (As := [.int p2, .int 0, .int 1]) (rest := []) d_Mod_freest_11 rfl mo_Mod_316 ms_Mod_in (by decide) rfl rfl (Nat.le_of_ble_eq_true rfl) ?_
    obtain ⟨q4, hq5, h⟩ := bnd h
    refine f_Mod_in hld  hq5 ?_
    dsimp only [psh]
    refine g_if_ne (pc1 := 17) (tgt := 19) d_Mod_freest_14 (by decide) rfl (fun c6 => ?_) (fun c6 => ?_)
    · replace h := itn h c6
      refine g_aload_n (pc1 := 20) d_Mod_freest_19 rfl 0 rfl ?_
      refine g_iload_n (pc1 := 21) d_Mod_freest_20 rfl 1 rfl ?_
      refine g_callV0 (pc1 := 24) (As := [.int p1]) (rest := []) d_Mod_freest_21 rfl mo_Mod_437 mi_Mod_freestOf mv_Mod_freestOf rfl sh_401 (by decide) (by decide) rfl rfl (Nat.le_of_ble_eq_true rfl) ?_
      obtain ⟨q7, hq8, h⟩ := bnd h
      refine f_Mod_freestOf hld  hq8 ?_
      dsimp only [psh]
      refine g_istore_n (pc1 := 25) (lv' := [(0, .ref 401), (1, .int p1), (2, .int p2), (3, .int q7.1)]) d_Mod_freest_24 rfl rfl (by decide) [1, 2, 3, 0] rfl ?_
      refine g_iload_n (pc1 := 26) d_Mod_freest_25 rfl 3 rfl ?_
      refine g_if_lt (pc1 := 29) (tgt := 33) d_Mod_freest_26 (by decide) rfl (fun c9 => ?_) (fun c9 => ?_)
      · replace h := itp h c9
        refine Wp.loc (lv' := [(3, .int q7.1)]) [3] rfl ?_
        exact j_Mod_freest_33 hld  hQ  h
      · replace h := itn h c9
        refine g_iload_n (pc1 := 30) d_Mod_freest_29 rfl 2 rfl ?_
        refine g_if_ne (pc1 := 33) (tgt := 37) d_Mod_freest_30 (by decide) rfl (fun c10 => ?_) (fun c10 => ?_)
        · replace h := itn h c10
          refine g_aload_n (pc1 := 38) d_Mod_freest_37 rfl 0 rfl ?_
          refine g_geti (pc1 := 41) d_Mod_freest_38 rfl ⟨_, fo_Mod_428⟩ sh_401 (by decide) ?_
          refine g_ireturn (Or.inl rfl) d_Mod_freest_41 rfl ?_
          cases h; exact hQ
        · replace h := itp h c10
          refine Wp.loc (lv' := [(3, .int q7.1)]) [3] rfl ?_
          exact j_Mod_freest_33 hld  hQ  h
    · replace h := itp h c6
      refine g_iconst (pc1 := 18) (v := (-1)) d_Mod_freest_17 rfl (by decide) ?_
      refine g_ireturn (Or.inl rfl) d_Mod_freest_18 rfl ?_
      cases h; exact hQ

