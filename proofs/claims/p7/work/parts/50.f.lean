def B_Mod_read_219 (L : gL) (K219 : Int32 → gM → Option (Int32 × gM × gL)) : Int32 → gM → Option (Int32 × gM × gL) := fun v1 M =>
  (if 3 ≤ v1 then some (0, M, L) else (if (v1 : Int32) < 0 ∨ 3 ≤ (v1 : Int32).toNatClampNeg then none else nmM (uM M 445 (v1 : Int32).toNatClampNeg (vp_nar .boolean 0)) (fun M32 => nmI (v1 + 1) (fun x33 => K219 x33 M32))))
def H_Mod_read_219 (L : gL) : Nat → Int32 → gM → Option (Int32 × gM × gL) := lpK (B_Mod_read_219 L) (fun _ _ => none)
set_option maxHeartbeats 4000000 in
set_option maxRecDepth 20000 in
theorem h_Mod_read_219 {l : Launch} {ld : Nat} {Q : Option Value → gM → gL → gR → Prop} (hld : isLa ld)   {q : Int32 × gM × gL} {L : gL} (hQ : Q (some (.int q.1)) q.2.1 q.2.2 (rf ld))    : ∀ (f : Nat) (v1 : Int32) (M : gM), H_Mod_read_219 L f v1 M = some q → Wp l y_Mod_read (0, 0, 447) 447 0 0 219 [(0, .ref 401), (1, .int v1)] [] M L (rf ld) Q := by
  intro f
  induction f with
  | zero => intro v1 M h; cases h
  | succ f hK219 =>
    intro v1 M h
    replace h : B_Mod_read_219 L (H_Mod_read_219 L f) v1 M = some q := h
    unfold B_Mod_read_219 at h
    refine g_iload_n (pc1 := 220) d_Mod_read_219 rfl 1 rfl ?_
    refine g_iconst (pc1 := 221) (v := 3) d_Mod_read_220 rfl (by decide) ?_
    refine g_icmp_ge (pc1 := 224) (tgt := 237) d_Mod_read_221 (by decide) rfl (fun c30 => ?_) (fun c30 => ?_)
    · replace h := itp h c30
      refine g_iconst (pc1 := 238) (v := 0) d_Mod_read_237 rfl (by decide) ?_
      refine g_ireturn (Or.inl rfl) d_Mod_read_238 rfl ?_
      cases h; exact hQ
    · replace h := itn h c30
      refine g_aload_n (pc1 := 225) d_Mod_read_224 rfl 0 rfl ?_
      refine g_getr (pc1 := 228) d_Mod_read_225 rfl ⟨_, fo_Mod_149⟩ sh_401 (by decide) (rf_401_69 ld) ?_
      refine g_iload_n (pc1 := 229) d_Mod_read_228 rfl 1 rfl ?_
      refine g_iconst (pc1 := 230) (v := 0) d_Mod_read_229 rfl (by decide) ?_
      obtain ⟨g31, h⟩ := gdn h
      refine g_zast (pc1 := 231) d_Mod_read_230 rfl sh_445 (by decide) g31 ?_
      refine Wp.lM h (fun M32 h => ?_)
      obtain ⟨x33, ex33, h⟩ := ltI h
      refine g_iinc (pc1 := 234) (v := x33) (lv' := [(0, .ref 401), (1, .int x33)]) d_Mod_read_231 rfl 1 rfl (by rw [ex33]; rfl) (by decide) [1, 0] rfl ?_
      refine g_goto (tgt := 219) d_Mod_read_234 (by decide) ?_
      exact hK219 x33 M32 h
def J_Mod_read_164 (s1 : Int32) (M : gM) (L : gL) : Option (Int32 × gM × gL) :=
  nmM (uM M 401 17 s1) (fun M20 => (if (M20 401 13) ≤ 0 then (if (M20 401 15) ≤ 0 then nmM (uM M20 401 18 (M20 401 19)) (fun M23 => bI (F_Mod_begins M23) (fun M25 => bI (F_Mod_keepsRow M25) (fun M27 => nmM (uM M27 401 57 0) (fun M28 => nmM (uM M28 401 64 0) (fun M29 => H_Mod_read_219 L FU 0 M29))))) else some ((M20 401 15), M20, L)) else some ((M20 401 13), M20, L)))
set_option maxHeartbeats 4000000 in
set_option maxRecDepth 20000 in
theorem j_Mod_read_164 {l : Launch} {ld : Nat} {Q : Option Value → gM → gL → gR → Prop} (hld : isLa ld)   {q : Int32 × gM × gL} {M : gM} {L : gL} (hQ : Q (some (.int q.1)) q.2.1 q.2.2 (rf ld))  {s1 : Int32}  (h : J_Mod_read_164 s1 M L = some q) : Wp l y_Mod_read (0, 0, 447) 447 0 0 164 [(0, .ref 401)] [.int s1, .ref 401] M L (rf ld) Q := by
  unfold J_Mod_read_164 at h
  refine g_puti (pc1 := 167) d_Mod_read_164 rfl fo_Mod_37 (po_12_17 _) sh_401 (by decide) ?_
  refine Wp.lM h (fun M20 h => ?_)
  refine g_aload_n (pc1 := 168) d_Mod_read_167 rfl 0 rfl ?_
  refine g_geti (pc1 := 171) d_Mod_read_168 rfl ⟨_, fo_Mod_206⟩ sh_401 (by decide) ?_
  refine g_if_le (pc1 := 174) (tgt := 179) d_Mod_read_171 (by decide) rfl (fun c21 => ?_) (fun c21 => ?_)
  · replace h := itp h c21
    refine g_aload_n (pc1 := 180) d_Mod_read_179 rfl 0 rfl ?_
    refine g_geti (pc1 := 183) d_Mod_read_180 rfl ⟨_, fo_Mod_215⟩ sh_401 (by decide) ?_
    refine g_if_le (pc1 := 186) (tgt := 191) d_Mod_read_183 (by decide) rfl (fun c22 => ?_) (fun c22 => ?_)
    · replace h := itp h c22
      refine g_aload_n (pc1 := 192) d_Mod_read_191 rfl 0 rfl ?_
      refine g_aload_n (pc1 := 193) d_Mod_read_192 rfl 0 rfl ?_
      refine g_geti (pc1 := 196) d_Mod_read_193 rfl ⟨_, fo_Mod_239⟩ sh_401 (by decide) ?_
      refine g_puti (pc1 := 199) d_Mod_read_196 rfl fo_Mod_236 (po_12_18 _) sh_401 (by decide) ?_
      refine Wp.lM h (fun M23 h => ?_)
      refine g_aload_n (pc1 := 200) d_Mod_read_199 rfl 0 rfl ?_
      refine g_callV0 (pc1 := 203) (As := []) (rest := []) d_Mod_read_200 rfl mo_Mod_163 mi_Mod_begins mv_Mod_begins rfl sh_401 (by decide) (by decide) rfl rfl (Nat.le_of_ble_eq_true rfl) ?_
      obtain ⟨M25, hq24, h⟩ := bnd h
      refine f_Mod_begins hld  hq24 ?_
      dsimp only [psh]
      refine g_aload_n (pc1 := 204) d_Mod_read_203 rfl 0 rfl ?_
      refine g_callV0 (pc1 := 207) (As := []) (rest := []) d_Mod_read_204 rfl mo_Mod_166 mi_Mod_keepsRow mv_Mod_keepsRow rfl sh_401 (by decide) (by decide) rfl rfl (Nat.le_of_ble_eq_true rfl) ?_
      obtain ⟨M27, hq26, h⟩ := bnd h
      refine f_Mod_keepsRow hld  hq26 ?_
      dsimp only [psh]
      refine g_aload_n (pc1 := 208) d_Mod_read_207 rfl 0 rfl ?_
      refine g_iconst (pc1 := 209) (v := 0) d_Mod_read_208 rfl (by decide) ?_
      refine g_puti (pc1 := 212) d_Mod_read_209 rfl fo_Mod_254 (po_12_57 _) sh_401 (by decide) ?_
      refine Wp.lM h (fun M28 h => ?_)
      refine g_aload_n (pc1 := 213) d_Mod_read_212 rfl 0 rfl ?_
      refine g_iconst (pc1 := 214) (v := 0) d_Mod_read_213 rfl (by decide) ?_
      refine g_puti (pc1 := 217) d_Mod_read_214 rfl fo_Mod_257 (po_12_64 _) sh_401 (by decide) ?_
      refine Wp.lM h (fun M29 h => ?_)
      refine g_iconst (pc1 := 218) (v := 0) d_Mod_read_217 rfl (by decide) ?_
      refine g_istore_n (pc1 := 219) (lv' := [(0, .ref 401), (1, .int 0)]) d_Mod_read_218 rfl rfl (by decide) [1, 0] rfl ?_
      exact h_Mod_read_219 hld  hQ  _ 0 M29 h
    · replace h := itn h c22
      refine g_aload_n (pc1 := 187) d_Mod_read_186 rfl 0 rfl ?_
      refine g_geti (pc1 := 190) d_Mod_read_187 rfl ⟨_, fo_Mod_215⟩ sh_401 (by decide) ?_
      refine g_ireturn (Or.inl rfl) d_Mod_read_190 rfl ?_
      cases h; exact hQ
  · replace h := itn h c21
    refine g_aload_n (pc1 := 175) d_Mod_read_174 rfl 0 rfl ?_
    refine g_geti (pc1 := 178) d_Mod_read_175 rfl ⟨_, fo_Mod_206⟩ sh_401 (by decide) ?_
    refine g_ireturn (Or.inl rfl) d_Mod_read_178 rfl ?_
    cases h; exact hQ
def J_Mod_read_134 (M : gM) (L : gL) : Option (Int32 × gM × gL) :=
  (if (M 401 13) ≤ 0 then (if (M 401 15) ≤ 0 then J_Mod_read_164 (-1) M L else J_Mod_read_164 (M 401 16) M L) else J_Mod_read_164 (M 401 14) M L)
set_option maxHeartbeats 4000000 in
set_option maxRecDepth 20000 in
theorem j_Mod_read_134 {l : Launch} {ld : Nat} {Q : Option Value → gM → gL → gR → Prop} (hld : isLa ld)   {q : Int32 × gM × gL} {M : gM} {L : gL} (hQ : Q (some (.int q.1)) q.2.1 q.2.2 (rf ld))    (h : J_Mod_read_134 M L = some q) : Wp l y_Mod_read (0, 0, 447) 447 0 0 134 [(0, .ref 401)] [] M L (rf ld) Q := by
  unfold J_Mod_read_134 at h
  refine g_aload_n (pc1 := 135) d_Mod_read_134 rfl 0 rfl ?_
  refine g_aload_n (pc1 := 136) d_Mod_read_135 rfl 0 rfl ?_
  refine g_geti (pc1 := 139) d_Mod_read_136 rfl ⟨_, fo_Mod_206⟩ sh_401 (by decide) ?_
  refine g_if_le (pc1 := 142) (tgt := 149) d_Mod_read_139 (by decide) rfl (fun c18 => ?_) (fun c18 => ?_)
  · replace h := itp h c18
    refine g_aload_n (pc1 := 150) d_Mod_read_149 rfl 0 rfl ?_
    refine g_geti (pc1 := 153) d_Mod_read_150 rfl ⟨_, fo_Mod_215⟩ sh_401 (by decide) ?_
    refine g_if_le (pc1 := 156) (tgt := 163) d_Mod_read_153 (by decide) rfl (fun c19 => ?_) (fun c19 => ?_)
    · replace h := itp h c19
      refine g_iconst (pc1 := 164) (v := (-1)) d_Mod_read_163 rfl (by decide) ?_
      exact j_Mod_read_164 hld  hQ  h
    · replace h := itn h c19
      refine g_aload_n (pc1 := 157) d_Mod_read_156 rfl 0 rfl ?_
      refine g_geti (pc1 := 160) d_Mod_read_157 rfl ⟨_, fo_Mod_218⟩ sh_401 (by decide) ?_
      refine g_goto (tgt := 164) d_Mod_read_160 (by decide) ?_
      exact j_Mod_read_164 hld  hQ  h
  · replace h := itn h c18
    refine g_aload_n (pc1 := 143) d_Mod_read_142 rfl 0 rfl ?_
    refine g_geti (pc1 := 146) d_Mod_read_143 rfl ⟨_, fo_Mod_212⟩ sh_401 (by decide) ?_
    refine g_goto (tgt := 164) d_Mod_read_146 (by decide) ?_
    exact j_Mod_read_164 hld  hQ  h
def B_Mod_read_112  (K112 : gM → gL → Option (Int32 × gM × gL)) : gM → gL → Option (Int32 × gM × gL) := fun M L =>
  (if (M 401 13) = 0 then bI (F_Mod_is 0 M) (fun r35 => (if r35 = 0 then bI2 (F_Mod_tellOne M L) (fun M38 L39 => K112 M38 L39) else J_Mod_read_134 M L)) else J_Mod_read_134 M L)
def H_Mod_read_112  : Nat → gM → gL → Option (Int32 × gM × gL) := lpK (B_Mod_read_112 ) (fun _ _ => none)
set_option maxHeartbeats 4000000 in
set_option maxRecDepth 20000 in
theorem h_Mod_read_112 {l : Launch} {ld : Nat} {Q : Option Value → gM → gL → gR → Prop} (hld : isLa ld)   {q : Int32 × gM × gL} (hQ : Q (some (.int q.1)) q.2.1 q.2.2 (rf ld))    : ∀ (f : Nat) (M : gM) (L : gL), H_Mod_read_112  f M L = some q → Wp l y_Mod_read (0, 0, 447) 447 0 0 112 [(0, .ref 401)] [] M L (rf ld) Q := by
  intro f
  induction f with
  | zero => intro M L h; cases h
  | succ f hK112 =>
    intro M L h
    replace h : B_Mod_read_112  (H_Mod_read_112  f) M L = some q := h
    unfold B_Mod_read_112 at h
    refine g_aload_n (pc1 := 113) d_Mod_read_112 rfl 0 rfl ?_
    refine g_geti (pc1 := 116) d_Mod_read_113 rfl ⟨_, fo_Mod_206⟩ sh_401 (by decide) ?_
    refine g_if_ne (pc1 := 119) (tgt := 134) d_Mod_read_116 (by decide) rfl (fun c17 => ?_) (fun c17 => ?_)
    · replace h := itn h c17
      exact j_Mod_read_134 hld  hQ  h
    · replace h := itp h c17
      refine g_aload_n (pc1 := 120) d_Mod_read_119 rfl 0 rfl ?_
      refine g_iconst (pc1 := 121) (v := 0) d_Mod_read_120 rfl (by decide) ?_
      refine g_callV0 (pc1 := 124) (As := [.int 0]) (rest := []) d_Mod_read_121 rfl mo_Mod_224 mi_Mod_is mv_Mod_is rfl sh_401 (by decide) (by decide) rfl rfl (Nat.le_of_ble_eq_true rfl) ?_
      obtain ⟨r35, hq34, h⟩ := bnd h
      refine f_Mod_is hld  hq34 ?_
      dsimp only [psh]
      refine g_if_ne (pc1 := 127) (tgt := 134) d_Mod_read_124 (by decide) rfl (fun c36 => ?_) (fun c36 => ?_)
      · replace h := itn h c36
        exact j_Mod_read_134 hld  hQ  h
      · replace h := itp h c36
        refine g_aload_n (pc1 := 128) d_Mod_read_127 rfl 0 rfl ?_
        refine g_callV0 (pc1 := 131) (As := []) (rest := []) d_Mod_read_128 rfl mo_Mod_251 mi_Mod_tellOne mv_Mod_tellOne rfl sh_401 (by decide) (by decide) rfl rfl (Nat.le_of_ble_eq_true rfl) ?_
        obtain ⟨M38, L39, hq37, h⟩ := bnd2 h
        refine f_Mod_tellOne hld  hq37 ?_
        dsimp only [psh]
        refine g_goto (tgt := 112) d_Mod_read_131 (by decide) ?_
        exact hK112 M38 L39 h
def J_Mod_read_36 (M : gM) (L : gL) : Option (Int32 × gM × gL) :=
  nmM (uM M 401 2 0) (fun M3 => bI2 (F_Mod_cut M3 L) (fun M5 L6 => nmM (uM M5 401 11 0) (fun M7 => nmM (uM M7 401 12 0) (fun M8 => nmM (uM M8 401 13 0) (fun M9 => nmM (uM M9 401 15 0) (fun M10 => nmM (uM M10 401 19 (1 - (M10 401 18))) (fun M11 => nmM (uM M11 401 20 0) (fun M12 => bI (F_Mod_plain (M12 401 19) M12) (fun M14 => nmM (uM M14 401 38 (130 * (M14 401 19))) (fun M15 => nmM (uM M15 401 44 (420 * (M15 401 19))) (fun M16 => H_Mod_read_112 FU M16 L6)))))))))))
set_option maxHeartbeats 4000000 in
set_option maxRecDepth 20000 in
theorem j_Mod_read_36 {l : Launch} {ld : Nat} {Q : Option Value → gM → gL → gR → Prop} (hld : isLa ld)   {q : Int32 × gM × gL} {M : gM} {L : gL} (hQ : Q (some (.int q.1)) q.2.1 q.2.2 (rf ld))    (h : J_Mod_read_36 M L = some q) : Wp l y_Mod_read (0, 0, 447) 447 0 0 36 [(0, .ref 401)] [] M L (rf ld) Q := by
  unfold J_Mod_read_36 at h
  refine g_aload_n (pc1 := 37) d_Mod_read_36 rfl 0 rfl ?_
  refine g_iconst (pc1 := 38) (v := 0) d_Mod_read_37 rfl (by decide) ?_
  refine g_puti (pc1 := 41) d_Mod_read_38 rfl fo_Mod_169 (po_12_2 _) sh_401 (by decide) ?_
  refine Wp.lM h (fun M3 h => ?_)
  refine g_aload_n (pc1 := 42) d_Mod_read_41 rfl 0 rfl ?_
  refine g_callV0 (pc1 := 45) (As := []) (rest := []) d_Mod_read_42 rfl mo_Mod_230 mi_Mod_cut mv_Mod_cut rfl sh_401 (by decide) (by decide) rfl rfl (Nat.le_of_ble_eq_true rfl) ?_
  obtain ⟨M5, L6, hq4, h⟩ := bnd2 h
  refine f_Mod_cut hld  hq4 ?_
  dsimp only [psh]
  refine g_aload_n (pc1 := 46) d_Mod_read_45 rfl 0 rfl ?_
  refine g_iconst (pc1 := 47) (v := 0) d_Mod_read_46 rfl (by decide) ?_
  refine g_puti (pc1 := 50) d_Mod_read_47 rfl fo_Mod_209 (po_12_11 _) sh_401 (by decide) ?_
  refine Wp.lM h (fun M7 h => ?_)
  refine g_aload_n (pc1 := 51) d_Mod_read_50 rfl 0 rfl ?_
  refine g_iconst (pc1 := 52) (v := 0) d_Mod_read_51 rfl (by decide) ?_
  refine g_puti (pc1 := 55) d_Mod_read_52 rfl fo_Mod_233 (po_12_12 _) sh_401 (by decide) ?_
  refine Wp.lM h (fun M8 h => ?_)
  refine g_aload_n (pc1 := 56) d_Mod_read_55 rfl 0 rfl ?_
  refine g_iconst (pc1 := 57) (v := 0) d_Mod_read_56 rfl (by decide) ?_
  refine g_puti (pc1 := 60) d_Mod_read_57 rfl fo_Mod_206 (po_12_13 _) sh_401 (by decide) ?_
  refine Wp.lM h (fun M9 h => ?_)
  refine g_aload_n (pc1 := 61) d_Mod_read_60 rfl 0 rfl ?_
  refine g_iconst (pc1 := 62) (v := 0) d_Mod_read_61 rfl (by decide) ?_
  refine g_puti (pc1 := 65) d_Mod_read_62 rfl fo_Mod_215 (po_12_15 _) sh_401 (by decide) ?_
  refine Wp.lM h (fun M10 h => ?_)
  refine g_aload_n (pc1 := 66) d_Mod_read_65 rfl 0 rfl ?_
  refine g_iconst (pc1 := 67) (v := 1) d_Mod_read_66 rfl (by decide) ?_
  refine g_aload_n (pc1 := 68) d_Mod_read_67 rfl 0 rfl ?_
  refine g_geti (pc1 := 71) d_Mod_read_68 rfl ⟨_, fo_Mod_236⟩ sh_401 (by decide) ?_
  refine g_isub (pc1 := 72) d_Mod_read_71 rfl ?_
  refine g_puti (pc1 := 75) d_Mod_read_72 rfl fo_Mod_239 (po_12_19 _) sh_401 (by decide) ?_
  refine Wp.lM h (fun M11 h => ?_)
  refine g_aload_n (pc1 := 76) d_Mod_read_75 rfl 0 rfl ?_
  refine g_iconst (pc1 := 77) (v := 0) d_Mod_read_76 rfl (by decide) ?_
  refine g_puti (pc1 := 80) d_Mod_read_77 rfl fo_Mod_242 (po_12_20 _) sh_401 (by decide) ?_
  refine Wp.lM h (fun M12 h => ?_)
  refine g_aload_n (pc1 := 81) d_Mod_read_80 rfl 0 rfl ?_
  refine g_aload_n (pc1 := 82) d_Mod_read_81 rfl 0 rfl ?_
  refine g_geti (pc1 := 85) d_Mod_read_82 rfl ⟨_, fo_Mod_239⟩ sh_401 (by decide) ?_
  refine g_callV0 (pc1 := 88) (As := [.int (M12 401 19)]) (rest := []) d_Mod_read_85 rfl mo_Mod_155 mi_Mod_plain mv_Mod_plain rfl sh_401 (by decide) (by decide) rfl rfl (Nat.le_of_ble_eq_true rfl) ?_
  obtain ⟨M14, hq13, h⟩ := bnd h
  refine f_Mod_plain hld  hq13 ?_
  dsimp only [psh]
  refine g_aload_n (pc1 := 89) d_Mod_read_88 rfl 0 rfl ?_
  refine g_sipush (pc1 := 92) (v := 130) d_Mod_read_89 rfl (by decide) ?_
  refine g_aload_n (pc1 := 93) d_Mod_read_92 rfl 0 rfl ?_
  refine g_geti (pc1 := 96) d_Mod_read_93 rfl ⟨_, fo_Mod_239⟩ sh_401 (by decide) ?_
  refine g_imul (pc1 := 97) d_Mod_read_96 rfl ?_
  refine g_puti (pc1 := 100) d_Mod_read_97 rfl fo_Mod_245 (po_12_38 _) sh_401 (by decide) ?_
  refine Wp.lM h (fun M15 h => ?_)
  refine g_aload_n (pc1 := 101) d_Mod_read_100 rfl 0 rfl ?_
  refine g_sipush (pc1 := 104) (v := 420) d_Mod_read_101 rfl (by decide) ?_
  refine g_aload_n (pc1 := 105) d_Mod_read_104 rfl 0 rfl ?_
  refine g_geti (pc1 := 108) d_Mod_read_105 rfl ⟨_, fo_Mod_239⟩ sh_401 (by decide) ?_
  refine g_imul (pc1 := 109) d_Mod_read_108 rfl ?_
  refine g_puti (pc1 := 112) d_Mod_read_109 rfl fo_Mod_248 (po_12_44 _) sh_401 (by decide) ?_
  refine Wp.lM h (fun M16 h => ?_)
  exact h_Mod_read_112 hld  hQ  _ M16 L6 h
def B_Mod_read_10 (L : gL) (K10 : Int32 → gM → Option (Int32 × gM × gL)) : Int32 → gM → Option (Int32 × gM × gL) := fun v1 M =>
  (if (M 401 4) ≤ v1 then J_Mod_read_36 M L else (if (v1 : Int32) < 0 ∨ 2000 ≤ (v1 : Int32).toNatClampNeg then none else (if (v1 : Int32) < 0 ∨ 2000 ≤ (v1 : Int32).toNatClampNeg then none else nmM (uM M 403 (v1 : Int32).toNatClampNeg (vp_nar .byte (M 402 (v1 : Int32).toNatClampNeg))) (fun M42 => nmI (v1 + 1) (fun x43 => K10 x43 M42)))))
def H_Mod_read_10 (L : gL) : Nat → Int32 → gM → Option (Int32 × gM × gL) := lpK (B_Mod_read_10 L) (fun _ _ => none)
set_option maxHeartbeats 4000000 in
set_option maxRecDepth 20000 in
theorem h_Mod_read_10 {l : Launch} {ld : Nat} {Q : Option Value → gM → gL → gR → Prop} (hld : isLa ld)   {q : Int32 × gM × gL} {L : gL} (hQ : Q (some (.int q.1)) q.2.1 q.2.2 (rf ld))    : ∀ (f : Nat) (v1 : Int32) (M : gM), H_Mod_read_10 L f v1 M = some q → Wp l y_Mod_read (0, 0, 447) 447 0 0 10 [(0, .ref 401), (1, .int v1)] [] M L (rf ld) Q := by
  intro f
  induction f with
  | zero => intro v1 M h; cases h
  | succ f hK10 =>
    intro v1 M h
    replace h : B_Mod_read_10 L (H_Mod_read_10 L f) v1 M = some q := h
    unfold B_Mod_read_10 at h
    refine g_iload_n (pc1 := 11) d_Mod_read_10 rfl 1 rfl ?_
    refine g_aload_n (pc1 := 12) d_Mod_read_11 rfl 0 rfl ?_
    refine g_geti (pc1 := 15) d_Mod_read_12 rfl ⟨_, fo_Mod_175⟩ sh_401 (by decide) ?_
    refine g_icmp_ge (pc1 := 18) (tgt := 36) d_Mod_read_15 (by decide) rfl (fun c2 => ?_) (fun c2 => ?_)
    · replace h := itp h c2
      refine Wp.loc (lv' := [(0, .ref 401)]) [0] rfl ?_
      exact j_Mod_read_36 hld  hQ  h
    · replace h := itn h c2
      refine g_aload_n (pc1 := 19) d_Mod_read_18 rfl 0 rfl ?_
      refine g_getr (pc1 := 22) d_Mod_read_19 rfl ⟨_, fo_Mod_17⟩ sh_401 (by decide) (rf_401_3 ld) ?_
      refine g_iload_n (pc1 := 23) d_Mod_read_22 rfl 1 rfl ?_
      refine g_aload_n (pc1 := 24) d_Mod_read_23 rfl 0 rfl ?_
      refine g_getr (pc1 := 27) d_Mod_read_24 rfl ⟨_, fo_Mod_13⟩ sh_401 (by decide) (rf_401_1 ld) ?_
      refine g_iload_n (pc1 := 28) d_Mod_read_27 rfl 1 rfl ?_
      obtain ⟨g40, h⟩ := gdn h
      refine g_bald (pc1 := 29) d_Mod_read_28 rfl sh_402 (by decide) g40 ?_
      obtain ⟨g41, h⟩ := gdn h
      refine g_bast (pc1 := 30) d_Mod_read_29 rfl sh_403 (by decide) g41 ?_
      refine Wp.lM h (fun M42 h => ?_)
      obtain ⟨x43, ex43, h⟩ := ltI h
      refine g_iinc (pc1 := 33) (v := x43) (lv' := [(0, .ref 401), (1, .int x43)]) d_Mod_read_30 rfl 1 rfl (by rw [ex43]; rfl) (by decide) [1, 0] rfl ?_
      refine g_goto (tgt := 10) d_Mod_read_33 (by decide) ?_
      exact hK10 x43 M42 h
def F_Mod_read (M : gM) (L : gL) : Option (Int32 × gM × gL) :=
  nmM (uM M 401 4 (M 401 2)) (fun M1 => H_Mod_read_10 L FU 0 M1)
set_option maxHeartbeats 4000000 in
set_option maxRecDepth 20000 in
theorem f_Mod_read {l : Launch} {ld : Nat} {M : gM} {L : gL} {Q : Option Value → gM → gL → gR → Prop} (hld : isLa ld)   {q : Int32 × gM × gL} (h : F_Mod_read M L = some q) (hQ : Q (some (.int q.1)) q.2.1 q.2.2 (rf ld)) : Tm l y_Mod_read (0, 0, 447) 447 [.ref 401] M L (rf ld) Q := by
  refine Tm.of (by decide) (Nat.le_of_ble_eq_true rfl) ?_
  show Wp l y_Mod_read (0, 0, 447) 447 0 0 0 [(0, .ref 401)] [] M L (rf ld) Q
  unfold F_Mod_read at h
  refine g_aload_n (pc1 := 1) d_Mod_read_0 rfl 0 rfl ?_
  refine g_aload_n (pc1 := 2) d_Mod_read_1 rfl 0 rfl ?_
  refine g_geti (pc1 := 5) d_Mod_read_2 rfl ⟨_, fo_Mod_169⟩ sh_401 (by decide) ?_
  refine g_puti (pc1 := 8) d_Mod_read_5 rfl fo_Mod_175 (po_12_4 _) sh_401 (by decide) ?_
  refine Wp.lM h (fun M1 h => ?_)
  refine g_iconst (pc1 := 9) (v := 0) d_Mod_read_8 rfl (by decide) ?_
  refine g_istore_n (pc1 := 10) (lv' := [(0, .ref 401), (1, .int 0)]) d_Mod_read_9 rfl rfl (by decide) [1, 0] rfl ?_
  exact h_Mod_read_10 hld  hQ  _ 0 M1 h

def J_Mod_freest_33 (v3 : Int32) (M : gM) : Option (Int32 × gM) :=
  some (v3, M)
set_option maxHeartbeats 4000000 in
set_option maxRecDepth 20000 in
theorem j_Mod_freest_33 {l : Launch} {ld : Nat} {Q : Option Value → gM → gL → gR → Prop} (hld : isLa ld)   {q : Int32 × gM} {M : gM} {L : gL} (hQ : Q (some (.int q.1)) q.2 L (rf ld))  {v3 : Int32}  (h : J_Mod_freest_33 v3 M = some q) : Wp l y_Mod_freest (0, 0, 447) 447 0 0 33 [(3, .int v3)] [] M L (rf ld) Q := by
  unfold J_Mod_freest_33 at h
  refine g_iload_n (pc1 := 34) d_Mod_freest_33 rfl 0 rfl ?_
  refine g_goto (tgt := 41) d_Mod_freest_34 (by decide) ?_
  refine g_ireturn (Or.inl rfl) d_Mod_freest_41 rfl ?_
  cases h; exact hQ
def F_Mod_freest (p1 : Int32) (p2 : Int32) (M : gM) : Option (Int32 × gM) :=
  bI (F_Mod_isGuest p1 M) (fun r2 => (if r2 = 0 then some ((-1), M) else bI (F_Mod_in p2 0 1) (fun r5 => (if r5 = 0 then some ((-1), M) else bI2 (F_Mod_freestOf p1 M) (fun r8 M9 => (if r8 < 0 then J_Mod_freest_33 r8 M9 else (if p2 = 0 then J_Mod_freest_33 r8 M9 else some ((M9 401 63), M9))))))))
set_option maxHeartbeats 4000000 in
set_option maxRecDepth 20000 in
theorem f_Mod_freest {l : Launch} {ld : Nat} {M : gM} {L : gL} {Q : Option Value → gM → gL → gR → Prop} (hld : isLa ld) {p1 : Int32} {p2 : Int32}  {q : Int32 × gM} (h : F_Mod_freest p1 p2 M = some q) (hQ : Q (some (.int q.1)) q.2 L (rf ld)) : Tm l y_Mod_freest (0, 0, 447) 447 [.ref 401, .int p1, .int p2] M L (rf ld) Q := by
  refine Tm.of (by decide) (Nat.le_of_ble_eq_true rfl) ?_
  show Wp l y_Mod_freest (0, 0, 447) 447 0 0 0 [(0, .ref 401), (1, .int p1), (2, .int p2)] [] M L (rf ld) Q
  unfold F_Mod_freest at h
  refine g_aload_n (pc1 := 1) d_Mod_freest_0 rfl 0 rfl ?_
  refine g_iload_n (pc1 := 2) d_Mod_freest_1 rfl 1 rfl ?_
  refine g_callV0 (pc1 := 5) (As := [.int p1]) (rest := []) d_Mod_freest_2 rfl mo_Mod_380 mi_Mod_isGuest mv_Mod_isGuest rfl sh_401 (by decide) (by decide) rfl rfl (Nat.le_of_ble_eq_true rfl) ?_
  obtain ⟨r2, hq1, h⟩ := bnd h
  refine f_Mod_isGuest hld  hq1 ?_
  dsimp only [psh]
  refine g_if_eq (pc1 := 8) (tgt := 17) d_Mod_freest_5 (by decide) rfl (fun c3 => ?_) (fun c3 => ?_)
  · replace h := itp h c3
    refine g_iconst (pc1 := 18) (v := (-1)) d_Mod_freest_17 rfl (by decide) ?_
    refine g_ireturn (Or.inl rfl) d_Mod_freest_18 rfl ?_
    cases h; exact hQ
  · replace h := itn h c3
    refine g_iload_n (pc1 := 9) d_Mod_freest_8 rfl 2 rfl ?_
    refine g_iconst (pc1 := 10) (v := 0) d_Mod_freest_9 rfl (by decide) ?_
    refine g_iconst (pc1 := 11) (v := 1) d_Mod_freest_10 rfl (by decide) ?_
    refine g_callS0 (pc1 := 14) (As := [.int p2, .int 0, .int 1]) (rest := []) d_Mod_freest_11 rfl mo_Mod_316 ms_Mod_in (by decide) rfl rfl (Nat.le_of_ble_eq_true rfl) ?_
    obtain ⟨r5, hq4, h⟩ := bnd h
    refine f_Mod_in hld  hq4 ?_
    dsimp only [psh]
    refine g_if_ne (pc1 := 17) (tgt := 19) d_Mod_freest_14 (by decide) rfl (fun c6 => ?_) (fun c6 => ?_)
    · replace h := itn h c6
      refine g_aload_n (pc1 := 20) d_Mod_freest_19 rfl 0 rfl ?_
      refine g_iload_n (pc1 := 21) d_Mod_freest_20 rfl 1 rfl ?_
      refine g_callV0 (pc1 := 24) (As := [.int p1]) (rest := []) d_Mod_freest_21 rfl mo_Mod_437 mi_Mod_freestOf mv_Mod_freestOf rfl sh_401 (by decide) (by decide) rfl rfl (Nat.le_of_ble_eq_true rfl) ?_
      obtain ⟨r8, M9, hq7, h⟩ := bnd2 h
      refine f_Mod_freestOf hld  hq7 ?_
      dsimp only [psh]
      refine g_istore_n (pc1 := 25) (lv' := [(0, .ref 401), (1, .int p1), (2, .int p2), (3, .int r8)]) d_Mod_freest_24 rfl rfl (by decide) [1, 2, 3, 0] rfl ?_
      refine g_iload_n (pc1 := 26) d_Mod_freest_25 rfl 3 rfl ?_
      refine g_if_lt (pc1 := 29) (tgt := 33) d_Mod_freest_26 (by decide) rfl (fun c10 => ?_) (fun c10 => ?_)
      · replace h := itp h c10
        refine Wp.loc (lv' := [(3, .int r8)]) [3] rfl ?_
        exact j_Mod_freest_33 hld  hQ  h
      · replace h := itn h c10
        refine g_iload_n (pc1 := 30) d_Mod_freest_29 rfl 2 rfl ?_
        refine g_if_ne (pc1 := 33) (tgt := 37) d_Mod_freest_30 (by decide) rfl (fun c11 => ?_) (fun c11 => ?_)
        · replace h := itn h c11
          refine g_aload_n (pc1 := 38) d_Mod_freest_37 rfl 0 rfl ?_
          refine g_geti (pc1 := 41) d_Mod_freest_38 rfl ⟨_, fo_Mod_428⟩ sh_401 (by decide) ?_
          refine g_ireturn (Or.inl rfl) d_Mod_freest_41 rfl ?_
          cases h; exact hQ
        · replace h := itp h c11
          refine Wp.loc (lv' := [(3, .int r8)]) [3] rfl ?_
          exact j_Mod_freest_33 hld  hQ  h
    · replace h := itp h c6
      refine g_iconst (pc1 := 18) (v := (-1)) d_Mod_freest_17 rfl (by decide) ?_
      refine g_ireturn (Or.inl rfl) d_Mod_freest_18 rfl ?_
      cases h; exact hQ

def J_Mod_menu_115 (v2 : Int32) (v4 : Int32) (v5 : Int32) (v6 : Int32) (M : gM) : Option (Int32 × gM) :=
  (if 0 ≤ v5 then (if v4 = (-1) then some (v6, M) else bI (F_Mod_sixes ((v2 - 1) - v4)) (fun r20 => (if r20 = 0 then none else nmI (((v5 / r20) - (v5 / r20) / 6 * 6) - 1) (fun x22 => (if 0 ≤ x22 then some (x22, M) else some ((-2), M)))))) else (if v4 = (-1) then some ((-2), M) else some ((-3), M)))
set_option maxHeartbeats 4000000 in
set_option maxRecDepth 20000 in
theorem j_Mod_menu_115 {l : Launch} {ld : Nat} {Q : Option Value → gM → gL → gR → Prop} (hld : isLa ld)   {q : Int32 × gM} {M : gM} {L : gL} (hQ : Q (some (.int q.1)) q.2 L (rf ld))  {v2 : Int32} {v4 : Int32} {v5 : Int32} {v6 : Int32}  (h : J_Mod_menu_115 v2 v4 v5 v6 M = some q) : Wp l y_Mod_menu (0, 0, 447) 447 0 0 115 [(2, .int v2), (4, .int v4), (5, .int v5), (6, .int v6)] [] M L (rf ld) Q := by
  unfold J_Mod_menu_115 at h
  refine g_iload (pc1 := 117) d_Mod_menu_115 rfl 2 rfl ?_
  refine g_if_ge (pc1 := 120) (tgt := 134) d_Mod_menu_117 (by decide) rfl (fun c17 => ?_) (fun c17 => ?_)
  · replace h := itp h c17
    refine g_iload (pc1 := 136) d_Mod_menu_134 rfl 1 rfl ?_
    refine g_iconst (pc1 := 137) (v := (-1)) d_Mod_menu_136 rfl (by decide) ?_
    refine g_icmp_ne (pc1 := 140) (tgt := 143) d_Mod_menu_137 (by decide) rfl (fun c18 => ?_) (fun c18 => ?_)
    · replace h := itn h c18
      refine g_iload (pc1 := 145) d_Mod_menu_143 rfl 2 rfl ?_
      refine g_iload_n (pc1 := 146) d_Mod_menu_145 rfl 0 rfl ?_
      refine g_iconst (pc1 := 147) (v := 1) d_Mod_menu_146 rfl (by decide) ?_
      refine g_isub (pc1 := 148) d_Mod_menu_147 rfl ?_
      refine g_iload (pc1 := 150) d_Mod_menu_148 rfl 1 rfl ?_
      refine g_isub (pc1 := 151) d_Mod_menu_150 rfl ?_
      refine g_callS0 (pc1 := 154) (As := [.int ((v2 - 1) - v4)]) (rest := [.int v5]) d_Mod_menu_151 rfl mo_Mod_440 ms_Mod_sixes (by decide) rfl rfl (Nat.le_of_ble_eq_true rfl) ?_
      obtain ⟨r20, hq19, h⟩ := bnd h
      refine f_Mod_sixes hld  hq19 ?_
      dsimp only [psh]
      obtain ⟨g21, h⟩ := gdn h
      refine g_idiv (pc1 := 155) d_Mod_menu_154 rfl g21 ?_
      refine g_bipush (pc1 := 157) (v := 6) d_Mod_menu_155 rfl (by decide) ?_
      refine g_irem (pc1 := 158) d_Mod_menu_157 rfl (by decide) ?_
      refine g_iconst (pc1 := 159) (v := 1) d_Mod_menu_158 rfl (by decide) ?_
      refine g_isub (pc1 := 160) d_Mod_menu_159 rfl ?_
      refine Wp.lI h (fun x22 h => ?_)
      refine g_istore (pc1 := 162) (lv' := [(2, .int v2), (4, .int v4), (5, .int v5), (6, .int v6), (7, .int x22)]) d_Mod_menu_160 rfl (by decide) [1, 2, 3, 4, 0] rfl ?_
      refine g_iload (pc1 := 164) d_Mod_menu_162 rfl 4 rfl ?_
      refine g_if_ge (pc1 := 167) (tgt := 172) d_Mod_menu_164 (by decide) rfl (fun c23 => ?_) (fun c23 => ?_)
      · replace h := itp h c23
        refine g_iload (pc1 := 174) d_Mod_menu_172 rfl 4 rfl ?_
        refine g_ireturn (Or.inl rfl) d_Mod_menu_174 rfl ?_
        cases h; exact hQ
      · replace h := itn h c23
        refine g_bipush (pc1 := 169) (v := (-2)) d_Mod_menu_167 rfl (by decide) ?_
        refine g_goto (tgt := 174) d_Mod_menu_169 (by decide) ?_
        refine g_ireturn (Or.inl rfl) d_Mod_menu_174 rfl ?_
        cases h; exact hQ
    · replace h := itp h c18
      refine g_iload (pc1 := 142) d_Mod_menu_140 rfl 3 rfl ?_
      refine g_ireturn (Or.inl rfl) d_Mod_menu_142 rfl ?_
      cases h; exact hQ
  · replace h := itn h c17
    refine g_iload (pc1 := 122) d_Mod_menu_120 rfl 1 rfl ?_
    refine g_iconst (pc1 := 123) (v := (-1)) d_Mod_menu_122 rfl (by decide) ?_
    refine g_icmp_ne (pc1 := 126) (tgt := 131) d_Mod_menu_123 (by decide) rfl (fun c24 => ?_) (fun c24 => ?_)
    · replace h := itn h c24
      refine g_bipush (pc1 := 133) (v := (-3)) d_Mod_menu_131 rfl (by decide) ?_
      refine g_ireturn (Or.inl rfl) d_Mod_menu_133 rfl ?_
      cases h; exact hQ
    · replace h := itp h c24
      refine g_bipush (pc1 := 128) (v := (-2)) d_Mod_menu_126 rfl (by decide) ?_
      refine g_goto (tgt := 133) d_Mod_menu_128 (by decide) ?_
      refine g_ireturn (Or.inl rfl) d_Mod_menu_133 rfl ?_
      cases h; exact hQ
def J_Mod_menu_109 (K61 : Int32 → Int32 → Int32 → gM → Option (Int32 × gM)) (v1 : Int32) (v2 : Int32) (v3 : Int32) (v4 : Int32) (v5 : Int32) (v6 : Int32) (v7 : Int32) (M : gM) : Option (Int32 × gM) :=
  nmI (v7 + 1) (fun x29 => K61 v5 v6 x29 M)
set_option maxHeartbeats 4000000 in
set_option maxRecDepth 20000 in
theorem j_Mod_menu_109 {l : Launch} {ld : Nat} {Q : Option Value → gM → gL → gR → Prop} (hld : isLa ld)   {q : Int32 × gM} {M : gM} {L : gL} (hQ : Q (some (.int q.1)) q.2 L (rf ld)) {K61 : Int32 → Int32 → Int32 → gM → Option (Int32 × gM)} {v1 : Int32} {v2 : Int32} {v3 : Int32} {v4 : Int32} {v5 : Int32} {v6 : Int32} {v7 : Int32} (hK61 : ∀ (w5 : Int32) (w6 : Int32) (w7 : Int32) (M : gM), K61 w5 w6 w7 M = some q → Wp l y_Mod_menu (0, 0, 447) 447 0 0 61 [(0, .ref 401), (1, .int v1), (2, .int v2), (3, .int v3), (4, .int v4), (5, .int w5), (6, .int w6), (7, .int w7)] [] M L (rf ld) Q) (h : J_Mod_menu_109 K61 v1 v2 v3 v4 v5 v6 v7 M = some q) : Wp l y_Mod_menu (0, 0, 447) 447 0 0 109 [(0, .ref 401), (1, .int v1), (2, .int v2), (3, .int v3), (4, .int v4), (5, .int v5), (6, .int v6), (7, .int v7)] [] M L (rf ld) Q := by
  unfold J_Mod_menu_109 at h
  obtain ⟨x29, ex29, h⟩ := ltI h
  refine g_iinc (pc1 := 112) (v := x29) (lv' := [(0, .ref 401), (1, .int v1), (2, .int v2), (3, .int v3), (4, .int v4), (5, .int v5), (6, .int v6), (7, .int x29)]) d_Mod_menu_109 rfl 7 rfl (by rw [ex29]; rfl) (by decide) [1, 2, 3, 4, 5, 6, 7, 0] rfl ?_
  refine g_goto (tgt := 61) d_Mod_menu_112 (by decide) ?_
  exact hK61 v5 v6 x29 M h
def J_Mod_menu_101 (K61 : Int32 → Int32 → Int32 → gM → Option (Int32 × gM)) (v1 : Int32) (v2 : Int32) (v3 : Int32) (v4 : Int32) (v7 : Int32) (v8 : Int32) (M : gM) : Option (Int32 × gM) :=
  J_Mod_menu_109 K61 v1 v2 v3 v4 v7 v8 v7 M
set_option maxHeartbeats 4000000 in
set_option maxRecDepth 20000 in
theorem j_Mod_menu_101 {l : Launch} {ld : Nat} {Q : Option Value → gM → gL → gR → Prop} (hld : isLa ld)   {q : Int32 × gM} {M : gM} {L : gL} (hQ : Q (some (.int q.1)) q.2 L (rf ld)) {K61 : Int32 → Int32 → Int32 → gM → Option (Int32 × gM)} {v1 : Int32} {v2 : Int32} {v3 : Int32} {v4 : Int32} {v7 : Int32} {v8 : Int32} (hK61 : ∀ (w5 : Int32) (w6 : Int32) (w7 : Int32) (M : gM), K61 w5 w6 w7 M = some q → Wp l y_Mod_menu (0, 0, 447) 447 0 0 61 [(0, .ref 401), (1, .int v1), (2, .int v2), (3, .int v3), (4, .int v4), (5, .int w5), (6, .int w6), (7, .int w7)] [] M L (rf ld) Q) (h : J_Mod_menu_101 K61 v1 v2 v3 v4 v7 v8 M = some q) : Wp l y_Mod_menu (0, 0, 447) 447 0 0 101 [(0, .ref 401), (1, .int v1), (2, .int v2), (3, .int v3), (4, .int v4), (7, .int v7), (8, .int v8)] [] M L (rf ld) Q := by
  unfold J_Mod_menu_101 at h
  refine g_iload (pc1 := 103) d_Mod_menu_101 rfl 5 rfl ?_
  refine g_istore (pc1 := 105) (lv' := [(0, .ref 401), (1, .int v1), (2, .int v2), (3, .int v3), (4, .int v4), (5, .int v7), (7, .int v7), (8, .int v8)]) d_Mod_menu_103 rfl (by decide) [1, 2, 3, 4, 5, 0, 6, 7] rfl ?_
  refine g_iload (pc1 := 107) d_Mod_menu_105 rfl 7 rfl ?_
  refine g_istore (pc1 := 109) (lv' := [(0, .ref 401), (1, .int v1), (2, .int v2), (3, .int v3), (4, .int v4), (5, .int v7), (6, .int v8), (7, .int v7), (8, .int v8)]) d_Mod_menu_107 rfl (by decide) [1, 2, 3, 4, 5, 6, 0, 7, 8] rfl ?_
  refine Wp.loc (lv' := [(0, .ref 401), (1, .int v1), (2, .int v2), (3, .int v3), (4, .int v4), (5, .int v7), (6, .int v8), (7, .int v7)]) [0, 1, 2, 3, 4, 5, 6, 7] rfl ?_
  exact j_Mod_menu_109 hld  hQ hK61 h
def B_Mod_menu_61 (v1 : Int32) (v2 : Int32) (v3 : Int32) (v4 : Int32) (K61 : Int32 → Int32 → Int32 → gM → Option (Int32 × gM)) : Int32 → Int32 → Int32 → gM → Option (Int32 × gM) := fun v5 v6 v7 M =>
  bI (F_Mod_sixes v2) (fun r15 => (if r15 ≤ v7 then J_Mod_menu_115 v2 v4 v5 v6 M else bI2 (F_Mod_mealsBy v7 v1 v2 v3 M) (fun r26 M27 => (if r26 < 0 then J_Mod_menu_109 K61 v1 v2 v3 v4 v5 v6 v7 M27 else (if v5 < 0 then J_Mod_menu_101 K61 v1 v2 v3 v4 v7 r26 M27 else (if r26 < v6 then J_Mod_menu_101 K61 v1 v2 v3 v4 v7 r26 M27 else J_Mod_menu_109 K61 v1 v2 v3 v4 v5 v6 v7 M27))))))
def H_Mod_menu_61 (v1 : Int32) (v2 : Int32) (v3 : Int32) (v4 : Int32) : Nat → Int32 → Int32 → Int32 → gM → Option (Int32 × gM) := lpK (B_Mod_menu_61 v1 v2 v3 v4) (fun _ _ _ _ => none)
set_option maxHeartbeats 4000000 in
set_option maxRecDepth 20000 in
theorem h_Mod_menu_61 {l : Launch} {ld : Nat} {Q : Option Value → gM → gL → gR → Prop} (hld : isLa ld)   {q : Int32 × gM} {L : gL} (hQ : Q (some (.int q.1)) q.2 L (rf ld))  {v1 : Int32} {v2 : Int32} {v3 : Int32} {v4 : Int32}  : ∀ (f : Nat) (v5 : Int32) (v6 : Int32) (v7 : Int32) (M : gM), H_Mod_menu_61 v1 v2 v3 v4 f v5 v6 v7 M = some q → Wp l y_Mod_menu (0, 0, 447) 447 0 0 61 [(0, .ref 401), (1, .int v1), (2, .int v2), (3, .int v3), (4, .int v4), (5, .int v5), (6, .int v6), (7, .int v7)] [] M L (rf ld) Q := by
  intro f
  induction f with
  | zero => intro v5 v6 v7 M h; cases h
  | succ f hK61 =>
    intro v5 v6 v7 M h
    replace h : B_Mod_menu_61 v1 v2 v3 v4 (H_Mod_menu_61 v1 v2 v3 v4 f) v5 v6 v7 M = some q := h
    unfold B_Mod_menu_61 at h
    refine g_iload (pc1 := 63) d_Mod_menu_61 rfl 7 rfl ?_
    refine g_iload_n (pc1 := 64) d_Mod_menu_63 rfl 2 rfl ?_
    refine g_callS0 (pc1 := 67) (As := [.int v2]) (rest := [.int v7]) d_Mod_menu_64 rfl mo_Mod_440 ms_Mod_sixes (by decide) rfl rfl (Nat.le_of_ble_eq_true rfl) ?_
    obtain ⟨r15, hq14, h⟩ := bnd h
    refine f_Mod_sixes hld  hq14 ?_
    dsimp only [psh]
    refine g_icmp_ge (pc1 := 70) (tgt := 115) d_Mod_menu_67 (by decide) rfl (fun c16 => ?_) (fun c16 => ?_)
    · replace h := itp h c16
      refine Wp.loc (lv' := [(2, .int v2), (4, .int v4), (5, .int v5), (6, .int v6)]) [2, 4, 5, 6] rfl ?_
      exact j_Mod_menu_115 hld  hQ  h
    · replace h := itn h c16
      refine g_aload_n (pc1 := 71) d_Mod_menu_70 rfl 0 rfl ?_
      refine g_iload (pc1 := 73) d_Mod_menu_71 rfl 7 rfl ?_
      refine g_iload_n (pc1 := 74) d_Mod_menu_73 rfl 1 rfl ?_
      refine g_iload_n (pc1 := 75) d_Mod_menu_74 rfl 2 rfl ?_
      refine g_iload_n (pc1 := 76) d_Mod_menu_75 rfl 3 rfl ?_
      refine g_callV0 (pc1 := 79) (As := [.int v7, .int v1, .int v2, .int v3]) (rest := []) d_Mod_menu_76 rfl mo_Mod_443 mi_Mod_mealsBy mv_Mod_mealsBy rfl sh_401 (by decide) (by decide) rfl rfl (Nat.le_of_ble_eq_true rfl) ?_
      obtain ⟨r26, M27, hq25, h⟩ := bnd2 h
      refine f_Mod_mealsBy hld  hq25 ?_
      dsimp only [psh]
      refine g_istore (pc1 := 81) (lv' := [(0, .ref 401), (1, .int v1), (2, .int v2), (3, .int v3), (4, .int v4), (5, .int v5), (6, .int v6), (7, .int v7), (8, .int r26)]) d_Mod_menu_79 rfl (by decide) [1, 2, 3, 4, 5, 6, 7, 8, 0] rfl ?_
      refine g_iload (pc1 := 83) d_Mod_menu_81 rfl 8 rfl ?_
      refine g_if_lt (pc1 := 86) (tgt := 109) d_Mod_menu_83 (by decide) rfl (fun c28 => ?_) (fun c28 => ?_)
      · replace h := itp h c28
        refine Wp.loc (lv' := [(0, .ref 401), (1, .int v1), (2, .int v2), (3, .int v3), (4, .int v4), (5, .int v5), (6, .int v6), (7, .int v7)]) [0, 1, 2, 3, 4, 5, 6, 7] rfl ?_
        exact j_Mod_menu_109 hld  hQ hK61 h
      · replace h := itn h c28
        refine g_iload (pc1 := 88) d_Mod_menu_86 rfl 5 rfl ?_
        refine g_if_lt (pc1 := 91) (tgt := 101) d_Mod_menu_88 (by decide) rfl (fun c30 => ?_) (fun c30 => ?_)
        · replace h := itp h c30
          refine Wp.loc (lv' := [(0, .ref 401), (1, .int v1), (2, .int v2), (3, .int v3), (4, .int v4), (7, .int v7), (8, .int r26)]) [0, 1, 2, 3, 4, 7, 8] rfl ?_
          exact j_Mod_menu_101 hld  hQ hK61 h
        · replace h := itn h c30
          refine g_iload (pc1 := 93) d_Mod_menu_91 rfl 8 rfl ?_
          refine g_iload (pc1 := 95) d_Mod_menu_93 rfl 6 rfl ?_
          refine g_icmp_lt (pc1 := 98) (tgt := 101) d_Mod_menu_95 (by decide) rfl (fun c31 => ?_) (fun c31 => ?_)
          · replace h := itp h c31
            refine Wp.loc (lv' := [(0, .ref 401), (1, .int v1), (2, .int v2), (3, .int v3), (4, .int v4), (7, .int v7), (8, .int r26)]) [0, 1, 2, 3, 4, 7, 8] rfl ?_
            exact j_Mod_menu_101 hld  hQ hK61 h
          · replace h := itn h c31
            refine g_goto (tgt := 109) d_Mod_menu_98 (by decide) ?_
            refine Wp.loc (lv' := [(0, .ref 401), (1, .int v1), (2, .int v2), (3, .int v3), (4, .int v4), (5, .int v5), (6, .int v6), (7, .int v7)]) [0, 1, 2, 3, 4, 5, 6, 7] rfl ?_
            exact j_Mod_menu_109 hld  hQ hK61 h
def F_Mod_menu (p1 : Int32) (p2 : Int32) (p3 : Int32) (p4 : Int32) (M : gM) : Option (Int32 × gM) :=
  bI (F_Mod_isGuest p1 M) (fun r2 => (if r2 = 0 then some ((-1), M) else bI (F_Mod_in p2 1 4) (fun r5 => (if r5 = 0 then some ((-1), M) else (if ((M 401 18) : Int32) < 0 ∨ 2 ≤ ((M 401 18) : Int32).toNatClampNeg then none else bI (F_Mod_in p3 0 ((1 <<< ((M 420 ((M 401 18) : Int32).toNatClampNeg) &&& 31)) - 1)) (fun r9 => (if r9 = 0 then some ((-1), M) else bI (F_Mod_in p4 (-1) (p2 - 1)) (fun r12 => (if r12 = 0 then some ((-1), M) else H_Mod_menu_61 p1 p2 p3 p4 FU (-1) 0 0 M)))))))))
set_option maxHeartbeats 4000000 in
set_option maxRecDepth 20000 in
theorem f_Mod_menu {l : Launch} {ld : Nat} {M : gM} {L : gL} {Q : Option Value → gM → gL → gR → Prop} (hld : isLa ld) {p1 : Int32} {p2 : Int32} {p3 : Int32} {p4 : Int32}  {q : Int32 × gM} (h : F_Mod_menu p1 p2 p3 p4 M = some q) (hQ : Q (some (.int q.1)) q.2 L (rf ld)) : Tm l y_Mod_menu (0, 0, 447) 447 [.ref 401, .int p1, .int p2, .int p3, .int p4] M L (rf ld) Q := by
  refine Tm.of (by decide) (Nat.le_of_ble_eq_true rfl) ?_
  show Wp l y_Mod_menu (0, 0, 447) 447 0 0 0 [(0, .ref 401), (1, .int p1), (2, .int p2), (3, .int p3), (4, .int p4)] [] M L (rf ld) Q
  unfold F_Mod_menu at h
  refine g_aload_n (pc1 := 1) d_Mod_menu_0 rfl 0 rfl ?_
  refine g_iload_n (pc1 := 2) d_Mod_menu_1 rfl 1 rfl ?_
  refine g_callV0 (pc1 := 5) (As := [.int p1]) (rest := []) d_Mod_menu_2 rfl mo_Mod_380 mi_Mod_isGuest mv_Mod_isGuest rfl sh_401 (by decide) (by decide) rfl rfl (Nat.le_of_ble_eq_true rfl) ?_
  obtain ⟨r2, hq1, h⟩ := bnd h
  refine f_Mod_isGuest hld  hq1 ?_
  dsimp only [psh]
  refine g_if_eq (pc1 := 8) (tgt := 50) d_Mod_menu_5 (by decide) rfl (fun c3 => ?_) (fun c3 => ?_)
  · replace h := itp h c3
    refine g_iconst (pc1 := 51) (v := (-1)) d_Mod_menu_50 rfl (by decide) ?_
    refine g_ireturn (Or.inl rfl) d_Mod_menu_51 rfl ?_
    cases h; exact hQ
  · replace h := itn h c3
    refine g_iload_n (pc1 := 9) d_Mod_menu_8 rfl 2 rfl ?_
    refine g_iconst (pc1 := 10) (v := 1) d_Mod_menu_9 rfl (by decide) ?_
    refine g_iconst (pc1 := 11) (v := 4) d_Mod_menu_10 rfl (by decide) ?_
    refine g_callS0 (pc1 := 14) (As := [.int p2, .int 1, .int 4]) (rest := []) d_Mod_menu_11 rfl mo_Mod_316 ms_Mod_in (by decide) rfl rfl (Nat.le_of_ble_eq_true rfl) ?_
    obtain ⟨r5, hq4, h⟩ := bnd h
    refine f_Mod_in hld  hq4 ?_
    dsimp only [psh]
    refine g_if_eq (pc1 := 17) (tgt := 50) d_Mod_menu_14 (by decide) rfl (fun c6 => ?_) (fun c6 => ?_)
    · replace h := itp h c6
      refine g_iconst (pc1 := 51) (v := (-1)) d_Mod_menu_50 rfl (by decide) ?_
      refine g_ireturn (Or.inl rfl) d_Mod_menu_51 rfl ?_
      cases h; exact hQ
    · replace h := itn h c6
      refine g_iload_n (pc1 := 18) d_Mod_menu_17 rfl 3 rfl ?_
      refine g_iconst (pc1 := 19) (v := 0) d_Mod_menu_18 rfl (by decide) ?_
      refine g_iconst (pc1 := 20) (v := 1) d_Mod_menu_19 rfl (by decide) ?_
      refine g_aload_n (pc1 := 21) d_Mod_menu_20 rfl 0 rfl ?_
      refine g_getr (pc1 := 24) d_Mod_menu_21 rfl ⟨_, fo_Mod_73⟩ sh_401 (by decide) (rf_401_32 ld) ?_
      refine g_aload_n (pc1 := 25) d_Mod_menu_24 rfl 0 rfl ?_
      refine g_geti (pc1 := 28) d_Mod_menu_25 rfl ⟨_, fo_Mod_236⟩ sh_401 (by decide) ?_
      obtain ⟨g7, h⟩ := gdn h
      refine g_iald (pc1 := 29) d_Mod_menu_28 rfl sh_420 (by decide) g7 ?_
      refine g_ishl (pc1 := 30) d_Mod_menu_29 rfl ?_
      refine g_iconst (pc1 := 31) (v := 1) d_Mod_menu_30 rfl (by decide) ?_
      refine g_isub (pc1 := 32) d_Mod_menu_31 rfl ?_
      refine g_callS0 (pc1 := 35) (As := [.int p3, .int 0, .int ((1 <<< ((M 420 ((M 401 18) : Int32).toNatClampNeg) &&& 31)) - 1)]) (rest := []) d_Mod_menu_32 rfl mo_Mod_316 ms_Mod_in (by decide) rfl rfl (Nat.le_of_ble_eq_true rfl) ?_
      obtain ⟨r9, hq8, h⟩ := bnd h
      refine f_Mod_in hld  hq8 ?_
      dsimp only [psh]
      refine g_if_eq (pc1 := 38) (tgt := 50) d_Mod_menu_35 (by decide) rfl (fun c10 => ?_) (fun c10 => ?_)
      · replace h := itp h c10
        refine g_iconst (pc1 := 51) (v := (-1)) d_Mod_menu_50 rfl (by decide) ?_
        refine g_ireturn (Or.inl rfl) d_Mod_menu_51 rfl ?_
        cases h; exact hQ
      · replace h := itn h c10
        refine g_iload (pc1 := 40) d_Mod_menu_38 rfl 4 rfl ?_
        refine g_iconst (pc1 := 41) (v := (-1)) d_Mod_menu_40 rfl (by decide) ?_
        refine g_iload_n (pc1 := 42) d_Mod_menu_41 rfl 2 rfl ?_
        refine g_iconst (pc1 := 43) (v := 1) d_Mod_menu_42 rfl (by decide) ?_
        refine g_isub (pc1 := 44) d_Mod_menu_43 rfl ?_
        refine g_callS0 (pc1 := 47) (As := [.int p4, .int (-1), .int (p2 - 1)]) (rest := []) d_Mod_menu_44 rfl mo_Mod_316 ms_Mod_in (by decide) rfl rfl (Nat.le_of_ble_eq_true rfl) ?_
        obtain ⟨r12, hq11, h⟩ := bnd h
        refine f_Mod_in hld  hq11 ?_
        dsimp only [psh]
        refine g_if_ne (pc1 := 50) (tgt := 52) d_Mod_menu_47 (by decide) rfl (fun c13 => ?_) (fun c13 => ?_)
        · replace h := itn h c13
          refine g_iconst (pc1 := 53) (v := (-1)) d_Mod_menu_52 rfl (by decide) ?_
          refine g_istore (pc1 := 55) (lv' := [(0, .ref 401), (1, .int p1), (2, .int p2), (3, .int p3), (4, .int p4), (5, .int (-1))]) d_Mod_menu_53 rfl (by decide) [1, 2, 3, 4, 5, 0] rfl ?_
          refine g_iconst (pc1 := 56) (v := 0) d_Mod_menu_55 rfl (by decide) ?_
          refine g_istore (pc1 := 58) (lv' := [(0, .ref 401), (1, .int p1), (2, .int p2), (3, .int p3), (4, .int p4), (5, .int (-1)), (6, .int 0)]) d_Mod_menu_56 rfl (by decide) [1, 2, 3, 4, 5, 6, 0] rfl ?_
          refine g_iconst (pc1 := 59) (v := 0) d_Mod_menu_58 rfl (by decide) ?_
          refine g_istore (pc1 := 61) (lv' := [(0, .ref 401), (1, .int p1), (2, .int p2), (3, .int p3), (4, .int p4), (5, .int (-1)), (6, .int 0), (7, .int 0)]) d_Mod_menu_59 rfl (by decide) [1, 2, 3, 4, 5, 6, 7, 0] rfl ?_
          exact h_Mod_menu_61 hld  hQ  _ (-1) 0 0 M h
        · replace h := itp h c13
          refine g_iconst (pc1 := 51) (v := (-1)) d_Mod_menu_50 rfl (by decide) ?_
          refine g_ireturn (Or.inl rfl) d_Mod_menu_51 rfl ?_
          cases h; exact hQ

def B_Mod_supper_4  (K4 : Int32 → Int32 → gM → Option (Int32 × gM)) : Int32 → Int32 → gM → Option (Int32 × gM) := fun v1 v2 M =>
  (if ((M 401 18) : Int32) < 0 ∨ 2 ≤ ((M 401 18) : Int32).toNatClampNeg then none else (if (M 418 ((M 401 18) : Int32).toNatClampNeg) ≤ v2 then some (v1, M) else (if ((M 401 18) : Int32) < 0 ∨ 2 ≤ ((M 401 18) : Int32).toNatClampNeg then none else (if (M 415 ((M 401 18) : Int32).toNatClampNeg) ≤ 0 then some (v1, M) else bI2 (F_Mod_freestOf v2 M) (fun r6 M7 => nmI (v1 + (M7 401 63)) (fun x8 => nmI (v2 + 1) (fun x9 => K4 x8 x9 M7)))))))
def H_Mod_supper_4  : Nat → Int32 → Int32 → gM → Option (Int32 × gM) := lpK (B_Mod_supper_4 ) (fun _ _ _ => none)
set_option maxHeartbeats 4000000 in
set_option maxRecDepth 20000 in
theorem h_Mod_supper_4 {l : Launch} {ld : Nat} {Q : Option Value → gM → gL → gR → Prop} (hld : isLa ld)   {q : Int32 × gM} {L : gL} (hQ : Q (some (.int q.1)) q.2 L (rf ld))    : ∀ (f : Nat) (v1 : Int32) (v2 : Int32) (M : gM), H_Mod_supper_4  f v1 v2 M = some q → Wp l y_Mod_supper (0, 0, 447) 447 0 0 4 [(0, .ref 401), (1, .int v1), (2, .int v2)] [] M L (rf ld) Q := by
  intro f
  induction f with
  | zero => intro v1 v2 M h; cases h
  | succ f hK4 =>
    intro v1 v2 M h
    replace h : B_Mod_supper_4  (H_Mod_supper_4  f) v1 v2 M = some q := h
    unfold B_Mod_supper_4 at h
    refine g_iload_n (pc1 := 5) d_Mod_supper_4 rfl 2 rfl ?_
    refine g_aload_n (pc1 := 6) d_Mod_supper_5 rfl 0 rfl ?_
    refine g_getr (pc1 := 9) d_Mod_supper_6 rfl ⟨_, fo_Mod_67⟩ sh_401 (by decide) (rf_401_30 ld) ?_
    refine g_aload_n (pc1 := 10) d_Mod_supper_9 rfl 0 rfl ?_
    refine g_geti (pc1 := 13) d_Mod_supper_10 rfl ⟨_, fo_Mod_236⟩ sh_401 (by decide) ?_
    obtain ⟨g1, h⟩ := gdn h
    refine g_iald (pc1 := 14) d_Mod_supper_13 rfl sh_418 (by decide) g1 ?_
    refine g_icmp_ge (pc1 := 17) (tgt := 48) d_Mod_supper_14 (by decide) rfl (fun c2 => ?_) (fun c2 => ?_)
    · replace h := itp h c2
      refine g_iload_n (pc1 := 49) d_Mod_supper_48 rfl 1 rfl ?_
      refine g_ireturn (Or.inl rfl) d_Mod_supper_49 rfl ?_
      cases h; exact hQ
    · replace h := itn h c2
      refine g_aload_n (pc1 := 18) d_Mod_supper_17 rfl 0 rfl ?_
      refine g_getr (pc1 := 21) d_Mod_supper_18 rfl ⟨_, fo_Mod_58⟩ sh_401 (by decide) (rf_401_27 ld) ?_
      refine g_aload_n (pc1 := 22) d_Mod_supper_21 rfl 0 rfl ?_
      refine g_geti (pc1 := 25) d_Mod_supper_22 rfl ⟨_, fo_Mod_236⟩ sh_401 (by decide) ?_
      obtain ⟨g3, h⟩ := gdn h
      refine g_iald (pc1 := 26) d_Mod_supper_25 rfl sh_415 (by decide) g3 ?_
      refine g_if_le (pc1 := 29) (tgt := 48) d_Mod_supper_26 (by decide) rfl (fun c4 => ?_) (fun c4 => ?_)
      · replace h := itp h c4
        refine g_iload_n (pc1 := 49) d_Mod_supper_48 rfl 1 rfl ?_
        refine g_ireturn (Or.inl rfl) d_Mod_supper_49 rfl ?_
        cases h; exact hQ
      · replace h := itn h c4
        refine g_aload_n (pc1 := 30) d_Mod_supper_29 rfl 0 rfl ?_
        refine g_iload_n (pc1 := 31) d_Mod_supper_30 rfl 2 rfl ?_
        refine g_callV0 (pc1 := 34) (As := [.int v2]) (rest := []) d_Mod_supper_31 rfl mo_Mod_437 mi_Mod_freestOf mv_Mod_freestOf rfl sh_401 (by decide) (by decide) rfl rfl (Nat.le_of_ble_eq_true rfl) ?_
        obtain ⟨r6, M7, hq5, h⟩ := bnd2 h
        refine f_Mod_freestOf hld  hq5 ?_
        dsimp only [psh]
        refine g_pop (pc1 := 35) d_Mod_supper_34 rfl rfl ?_
        refine g_iload_n (pc1 := 36) d_Mod_supper_35 rfl 1 rfl ?_
        refine g_aload_n (pc1 := 37) d_Mod_supper_36 rfl 0 rfl ?_
        refine g_geti (pc1 := 40) d_Mod_supper_37 rfl ⟨_, fo_Mod_428⟩ sh_401 (by decide) ?_
        refine g_iadd (pc1 := 41) d_Mod_supper_40 rfl ?_
        refine Wp.lI h (fun x8 h => ?_)
        refine g_istore_n (pc1 := 42) (lv' := [(0, .ref 401), (1, .int x8), (2, .int v2)]) d_Mod_supper_41 rfl rfl (by decide) [1, 0, 2] rfl ?_
        obtain ⟨x9, ex9, h⟩ := ltI h
        refine g_iinc (pc1 := 45) (v := x9) (lv' := [(0, .ref 401), (1, .int x8), (2, .int x9)]) d_Mod_supper_42 rfl 2 rfl (by rw [ex9]; rfl) (by decide) [1, 2, 0] rfl ?_
        refine g_goto (tgt := 4) d_Mod_supper_45 (by decide) ?_
        exact hK4 x8 x9 M7 h
def F_Mod_supper (M : gM) : Option (Int32 × gM) :=
  H_Mod_supper_4 FU 0 0 M
set_option maxHeartbeats 4000000 in
set_option maxRecDepth 20000 in
theorem f_Mod_supper {l : Launch} {ld : Nat} {M : gM} {L : gL} {Q : Option Value → gM → gL → gR → Prop} (hld : isLa ld)   {q : Int32 × gM} (h : F_Mod_supper M = some q) (hQ : Q (some (.int q.1)) q.2 L (rf ld)) : Tm l y_Mod_supper (0, 0, 447) 447 [.ref 401] M L (rf ld) Q := by
  refine Tm.of (by decide) (Nat.le_of_ble_eq_true rfl) ?_
  show Wp l y_Mod_supper (0, 0, 447) 447 0 0 0 [(0, .ref 401)] [] M L (rf ld) Q
  unfold F_Mod_supper at h
  refine g_iconst (pc1 := 1) (v := 0) d_Mod_supper_0 rfl (by decide) ?_
  refine g_istore_n (pc1 := 2) (lv' := [(0, .ref 401), (1, .int 0)]) d_Mod_supper_1 rfl rfl (by decide) [1, 0] rfl ?_
  refine g_iconst (pc1 := 3) (v := 0) d_Mod_supper_2 rfl (by decide) ?_
  refine g_istore_n (pc1 := 4) (lv' := [(0, .ref 401), (1, .int 0), (2, .int 0)]) d_Mod_supper_3 rfl rfl (by decide) [1, 2, 0] rfl ?_
  exact h_Mod_supper_4 hld  hQ  _ 0 0 M h

