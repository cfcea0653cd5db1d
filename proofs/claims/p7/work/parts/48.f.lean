def J_Mod_expression_234 (K12 : Int32 → gM → Option (gM)) (v1 : Int32) (v2 : Int32) (s1 : Int32) (M : gM) : Option (gM) :=
  bI (F_Mod_comesOut s1 M) (fun M22 => (if ((M22 401 11) : Int32) < 0 ∨ 403 ≤ ((M22 401 11) : Int32).toNatClampNeg then none else (if ((M22 401 48) : Int32) < 0 ∨ 64 ≤ ((M22 401 48) : Int32).toNatClampNeg then none else nmM (uM M22 433 ((M22 401 48) : Int32).toNatClampNeg (M22 404 ((M22 401 11) : Int32).toNatClampNeg)) (fun M25 => nmM (uM M25 401 48 ((M25 401 48) + 1)) (fun M26 => bI (F_Mod_goesOn M26) (fun M28 => K12 v2 M28))))))
set_option maxHeartbeats 4000000 in
set_option maxRecDepth 20000 in
theorem j_Mod_expression_234 {l : Launch} {ld : Nat} {Q : Option Value → gM → gL → gR → Prop} (hld : isLa ld)   {q : gM} {M : gM} {L : gL} (hQ : Q none q L (rf ld)) {K12 : Int32 → gM → Option (gM)} {v1 : Int32} {v2 : Int32} {s1 : Int32} (hK12 : ∀ (w2 : Int32) (M : gM), K12 w2 M = some q → Wp l y_Mod_expression (0, 0, 447) 447 0 0 12 [(0, .ref 401), (1, .int v1), (2, .int w2)] [] M L (rf ld) Q) (h : J_Mod_expression_234 K12 v1 v2 s1 M = some q) : Wp l y_Mod_expression (0, 0, 447) 447 0 0 234 [(0, .ref 401), (1, .int v1), (2, .int v2)] [.int s1, .ref 401] M L (rf ld) Q := by
  unfold J_Mod_expression_234 at h
  refine g_callV0 (pc1 := 237) (As := [.int s1]) (rest := []) d_Mod_expression_234 rfl mo_Mod_308 mi_Mod_comesOut mv_Mod_comesOut rfl sh_401 (by decide) (by decide) rfl rfl (Nat.le_of_ble_eq_true rfl) ?_
  obtain ⟨M22, hq21, h⟩ := bnd h
  refine f_Mod_comesOut hld  hq21 ?_
  dsimp only [psh]
  refine g_aload_n (pc1 := 238) d_Mod_expression_237 rfl 0 rfl ?_
  refine g_getr (pc1 := 241) d_Mod_expression_238 rfl ⟨_, fo_Mod_113⟩ sh_401 (by decide) (rf_401_47 ld) ?_
  refine g_aload_n (pc1 := 242) d_Mod_expression_241 rfl 0 rfl ?_
  refine g_geti (pc1 := 245) d_Mod_expression_242 rfl ⟨_, fo_Mod_299⟩ sh_401 (by decide) ?_
  refine g_aload_n (pc1 := 246) d_Mod_expression_245 rfl 0 rfl ?_
  refine g_getr (pc1 := 249) d_Mod_expression_246 rfl ⟨_, fo_Mod_20⟩ sh_401 (by decide) (rf_401_5 ld) ?_
  refine g_aload_n (pc1 := 250) d_Mod_expression_249 rfl 0 rfl ?_
  refine g_geti (pc1 := 253) d_Mod_expression_250 rfl ⟨_, fo_Mod_209⟩ sh_401 (by decide) ?_
  obtain ⟨g23, h⟩ := gdn h
  refine g_iald (pc1 := 254) d_Mod_expression_253 rfl sh_404 (by decide) g23 ?_
  obtain ⟨g24, h⟩ := gdn h
  refine g_iast (pc1 := 255) d_Mod_expression_254 rfl sh_433 (by decide) g24 ?_
  refine Wp.lM h (fun M25 h => ?_)
  refine g_aload_n (pc1 := 256) d_Mod_expression_255 rfl 0 rfl ?_
  refine g_dup (pc1 := 257) d_Mod_expression_256 rfl rfl ?_
  refine g_geti (pc1 := 260) d_Mod_expression_257 rfl ⟨_, fo_Mod_299⟩ sh_401 (by decide) ?_
  refine g_iconst (pc1 := 261) (v := 1) d_Mod_expression_260 rfl (by decide) ?_
  refine g_iadd (pc1 := 262) d_Mod_expression_261 rfl ?_
  refine g_puti (pc1 := 265) d_Mod_expression_262 rfl fo_Mod_299 (po_12_48 _) sh_401 (by decide) ?_
  refine Wp.lM h (fun M26 h => ?_)
  refine g_aload_n (pc1 := 266) d_Mod_expression_265 rfl 0 rfl ?_
  refine g_callV0 (pc1 := 269) (As := []) (rest := []) d_Mod_expression_266 rfl mo_Mod_227 mi_Mod_goesOn mv_Mod_goesOn rfl sh_401 (by decide) (by decide) rfl rfl (Nat.le_of_ble_eq_true rfl) ?_
  obtain ⟨M28, hq27, h⟩ := bnd h
  refine f_Mod_goesOn hld  hq27 ?_
  dsimp only [psh]
  refine g_goto (tgt := 12) d_Mod_expression_269 (by decide) ?_
  exact hK12 v2 M28 h
def J_Mod_expression_229 (K12 : Int32 → gM → Option (gM)) (v1 : Int32) (v2 : Int32) (M : gM) : Option (gM) :=
  J_Mod_expression_234 K12 v1 v2 1 M
set_option maxHeartbeats 4000000 in
set_option maxRecDepth 20000 in
theorem j_Mod_expression_229 {l : Launch} {ld : Nat} {Q : Option Value → gM → gL → gR → Prop} (hld : isLa ld)   {q : gM} {M : gM} {L : gL} (hQ : Q none q L (rf ld)) {K12 : Int32 → gM → Option (gM)} {v1 : Int32} {v2 : Int32} (hK12 : ∀ (w2 : Int32) (M : gM), K12 w2 M = some q → Wp l y_Mod_expression (0, 0, 447) 447 0 0 12 [(0, .ref 401), (1, .int v1), (2, .int w2)] [] M L (rf ld) Q) (h : J_Mod_expression_229 K12 v1 v2 M = some q) : Wp l y_Mod_expression (0, 0, 447) 447 0 0 229 [(0, .ref 401), (1, .int v1), (2, .int v2)] [.ref 401] M L (rf ld) Q := by
  unfold J_Mod_expression_229 at h
  refine g_iconst (pc1 := 230) (v := 1) d_Mod_expression_229 rfl (by decide) ?_
  refine g_goto (tgt := 234) d_Mod_expression_230 (by decide) ?_
  exact j_Mod_expression_234 hld  hQ hK12 h
def J_Mod_expression_204 (M : gM) : Option (gM) :=
  bI (F_Mod_comesOut 0 M) (fun M34 => some M34)
set_option maxHeartbeats 4000000 in
set_option maxRecDepth 20000 in
theorem j_Mod_expression_204 {l : Launch} {ld : Nat} {Q : Option Value → gM → gL → gR → Prop} (hld : isLa ld)   {q : gM} {M : gM} {L : gL} (hQ : Q none q L (rf ld))    (h : J_Mod_expression_204 M = some q) : Wp l y_Mod_expression (0, 0, 447) 447 0 0 204 [(0, .ref 401)] [] M L (rf ld) Q := by
  unfold J_Mod_expression_204 at h
  refine g_aload_n (pc1 := 205) d_Mod_expression_204 rfl 0 rfl ?_
  refine g_iconst (pc1 := 206) (v := 0) d_Mod_expression_205 rfl (by decide) ?_
  refine g_callV0 (pc1 := 209) (As := [.int 0]) (rest := []) d_Mod_expression_206 rfl mo_Mod_308 mi_Mod_comesOut mv_Mod_comesOut rfl sh_401 (by decide) (by decide) rfl rfl (Nat.le_of_ble_eq_true rfl) ?_
  obtain ⟨M34, hq33, h⟩ := bnd h
  refine f_Mod_comesOut hld  hq33 ?_
  dsimp only [psh]
  refine g_return rfl d_Mod_expression_209 rfl ?_
  cases h; exact hQ
def J_Mod_expression_191 (v1 : Int32) (M : gM) : Option (gM) :=
  (if (M 401 12) ≤ v1 then J_Mod_expression_204 M else bI (F_Mod_fail 1 M) (fun M36 => J_Mod_expression_204 M36))
set_option maxHeartbeats 4000000 in
set_option maxRecDepth 20000 in
theorem j_Mod_expression_191 {l : Launch} {ld : Nat} {Q : Option Value → gM → gL → gR → Prop} (hld : isLa ld)   {q : gM} {M : gM} {L : gL} (hQ : Q none q L (rf ld))  {v1 : Int32}  (h : J_Mod_expression_191 v1 M = some q) : Wp l y_Mod_expression (0, 0, 447) 447 0 0 191 [(0, .ref 401), (1, .int v1)] [] M L (rf ld) Q := by
  unfold J_Mod_expression_191 at h
  refine g_aload_n (pc1 := 192) d_Mod_expression_191 rfl 0 rfl ?_
  refine g_geti (pc1 := 195) d_Mod_expression_192 rfl ⟨_, fo_Mod_233⟩ sh_401 (by decide) ?_
  refine g_iload_n (pc1 := 196) d_Mod_expression_195 rfl 1 rfl ?_
  refine g_icmp_le (pc1 := 199) (tgt := 204) d_Mod_expression_196 (by decide) rfl (fun c32 => ?_) (fun c32 => ?_)
  · replace h := itp h c32
    refine Wp.loc (lv' := [(0, .ref 401)]) [0] rfl ?_
    exact j_Mod_expression_204 hld  hQ  h
  · replace h := itn h c32
    refine g_aload_n (pc1 := 200) d_Mod_expression_199 rfl 0 rfl ?_
    refine g_iconst (pc1 := 201) (v := 1) d_Mod_expression_200 rfl (by decide) ?_
    refine g_callV0 (pc1 := 204) (As := [.int 1]) (rest := []) d_Mod_expression_201 rfl mo_Mod_221 mi_Mod_fail mv_Mod_fail rfl sh_401 (by decide) (by decide) rfl rfl (Nat.le_of_ble_eq_true rfl) ?_
    obtain ⟨M36, hq35, h⟩ := bnd h
    refine f_Mod_fail hld  hq35 ?_
    dsimp only [psh]
    refine Wp.loc (lv' := [(0, .ref 401)]) [0] rfl ?_
    exact j_Mod_expression_204 hld  hQ  h
def J_Mod_expression_186 (K12 : Int32 → gM → Option (gM)) (v1 : Int32) (s0 : Int32) (M : gM) : Option (gM) :=
  (if s0 = 0 then J_Mod_expression_191 v1 M else bI (F_Mod_is 10 M) (fun r19 => (if r19 = 0 then bI (F_Mod_is 15 M) (fun r30 => (if r30 = 0 then J_Mod_expression_234 K12 v1 s0 0 M else J_Mod_expression_229 K12 v1 s0 M)) else J_Mod_expression_229 K12 v1 s0 M)))
set_option maxHeartbeats 4000000 in
set_option maxRecDepth 20000 in
theorem j_Mod_expression_186 {l : Launch} {ld : Nat} {Q : Option Value → gM → gL → gR → Prop} (hld : isLa ld)   {q : gM} {M : gM} {L : gL} (hQ : Q none q L (rf ld)) {K12 : Int32 → gM → Option (gM)} {v1 : Int32} {s0 : Int32} (hK12 : ∀ (w2 : Int32) (M : gM), K12 w2 M = some q → Wp l y_Mod_expression (0, 0, 447) 447 0 0 12 [(0, .ref 401), (1, .int v1), (2, .int w2)] [] M L (rf ld) Q) (h : J_Mod_expression_186 K12 v1 s0 M = some q) : Wp l y_Mod_expression (0, 0, 447) 447 0 0 186 [(0, .ref 401), (1, .int v1)] [.int s0] M L (rf ld) Q := by
  unfold J_Mod_expression_186 at h
  refine g_istore_n (pc1 := 187) (lv' := [(0, .ref 401), (1, .int v1), (2, .int s0)]) d_Mod_expression_186 rfl rfl (by decide) [1, 2, 0] rfl ?_
  refine g_iload_n (pc1 := 188) d_Mod_expression_187 rfl 2 rfl ?_
  refine g_if_ne (pc1 := 191) (tgt := 210) d_Mod_expression_188 (by decide) rfl (fun c17 => ?_) (fun c17 => ?_)
  · replace h := itn h c17
    refine g_aload_n (pc1 := 211) d_Mod_expression_210 rfl 0 rfl ?_
    refine g_aload_n (pc1 := 212) d_Mod_expression_211 rfl 0 rfl ?_
    refine g_bipush (pc1 := 214) (v := 10) d_Mod_expression_212 rfl (by decide) ?_
    refine g_callV0 (pc1 := 217) (As := [.int 10]) (rest := [.ref 401]) d_Mod_expression_214 rfl mo_Mod_224 mi_Mod_is mv_Mod_is rfl sh_401 (by decide) (by decide) rfl rfl (Nat.le_of_ble_eq_true rfl) ?_
    obtain ⟨r19, hq18, h⟩ := bnd h
    refine f_Mod_is hld  hq18 ?_
    dsimp only [psh]
    refine g_if_ne (pc1 := 220) (tgt := 229) d_Mod_expression_217 (by decide) rfl (fun c20 => ?_) (fun c20 => ?_)
    · replace h := itn h c20
      exact j_Mod_expression_229 hld  hQ hK12 h
    · replace h := itp h c20
      refine g_aload_n (pc1 := 221) d_Mod_expression_220 rfl 0 rfl ?_
      refine g_bipush (pc1 := 223) (v := 15) d_Mod_expression_221 rfl (by decide) ?_
      refine g_callV0 (pc1 := 226) (As := [.int 15]) (rest := [.ref 401]) d_Mod_expression_223 rfl mo_Mod_224 mi_Mod_is mv_Mod_is rfl sh_401 (by decide) (by decide) rfl rfl (Nat.le_of_ble_eq_true rfl) ?_
      obtain ⟨r30, hq29, h⟩ := bnd h
      refine f_Mod_is hld  hq29 ?_
      dsimp only [psh]
      refine g_if_eq (pc1 := 229) (tgt := 233) d_Mod_expression_226 (by decide) rfl (fun c31 => ?_) (fun c31 => ?_)
      · replace h := itp h c31
        refine g_iconst (pc1 := 234) (v := 0) d_Mod_expression_233 rfl (by decide) ?_
        exact j_Mod_expression_234 hld  hQ hK12 h
      · replace h := itn h c31
        exact j_Mod_expression_229 hld  hQ hK12 h
  · replace h := itp h c17
    refine Wp.loc (lv' := [(0, .ref 401), (1, .int v1)]) [0, 1] rfl ?_
    exact j_Mod_expression_191 hld  hQ  h
def J_Mod_expression_181 (K12 : Int32 → gM → Option (gM)) (v1 : Int32) (M : gM) : Option (gM) :=
  J_Mod_expression_186 K12 v1 1 M
set_option maxHeartbeats 4000000 in
set_option maxRecDepth 20000 in
theorem j_Mod_expression_181 {l : Launch} {ld : Nat} {Q : Option Value → gM → gL → gR → Prop} (hld : isLa ld)   {q : gM} {M : gM} {L : gL} (hQ : Q none q L (rf ld)) {K12 : Int32 → gM → Option (gM)} {v1 : Int32} (hK12 : ∀ (w2 : Int32) (M : gM), K12 w2 M = some q → Wp l y_Mod_expression (0, 0, 447) 447 0 0 12 [(0, .ref 401), (1, .int v1), (2, .int w2)] [] M L (rf ld) Q) (h : J_Mod_expression_181 K12 v1 M = some q) : Wp l y_Mod_expression (0, 0, 447) 447 0 0 181 [(0, .ref 401), (1, .int v1)] [] M L (rf ld) Q := by
  unfold J_Mod_expression_181 at h
  refine g_iconst (pc1 := 182) (v := 1) d_Mod_expression_181 rfl (by decide) ?_
  refine g_goto (tgt := 186) d_Mod_expression_182 (by decide) ?_
  exact j_Mod_expression_186 hld  hQ hK12 h
def J_Mod_expression_145 (K12 : Int32 → gM → Option (gM)) (v1 : Int32) (M : gM) : Option (gM) :=
  bI (F_Mod_is 8 M) (fun r15 => (if r15 = 0 then bI (F_Mod_is 9 M) (fun r38 => (if r38 = 0 then bI (F_Mod_is 10 M) (fun r41 => (if r41 = 0 then bI (F_Mod_is 15 M) (fun r44 => (if r44 = 0 then J_Mod_expression_186 K12 v1 0 M else J_Mod_expression_181 K12 v1 M)) else J_Mod_expression_181 K12 v1 M)) else J_Mod_expression_181 K12 v1 M)) else J_Mod_expression_181 K12 v1 M))
set_option maxHeartbeats 4000000 in
set_option maxRecDepth 20000 in
theorem j_Mod_expression_145 {l : Launch} {ld : Nat} {Q : Option Value → gM → gL → gR → Prop} (hld : isLa ld)   {q : gM} {M : gM} {L : gL} (hQ : Q none q L (rf ld)) {K12 : Int32 → gM → Option (gM)} {v1 : Int32} (hK12 : ∀ (w2 : Int32) (M : gM), K12 w2 M = some q → Wp l y_Mod_expression (0, 0, 447) 447 0 0 12 [(0, .ref 401), (1, .int v1), (2, .int w2)] [] M L (rf ld) Q) (h : J_Mod_expression_145 K12 v1 M = some q) : Wp l y_Mod_expression (0, 0, 447) 447 0 0 145 [(0, .ref 401), (1, .int v1)] [] M L (rf ld) Q := by
  unfold J_Mod_expression_145 at h
  refine g_aload_n (pc1 := 146) d_Mod_expression_145 rfl 0 rfl ?_
  refine g_bipush (pc1 := 148) (v := 8) d_Mod_expression_146 rfl (by decide) ?_
  refine g_callV0 (pc1 := 151) (As := [.int 8]) (rest := []) d_Mod_expression_148 rfl mo_Mod_224 mi_Mod_is mv_Mod_is rfl sh_401 (by decide) (by decide) rfl rfl (Nat.le_of_ble_eq_true rfl) ?_
  obtain ⟨r15, hq14, h⟩ := bnd h
  refine f_Mod_is hld  hq14 ?_
  dsimp only [psh]
  refine g_if_ne (pc1 := 154) (tgt := 181) d_Mod_expression_151 (by decide) rfl (fun c16 => ?_) (fun c16 => ?_)
  · replace h := itn h c16
    exact j_Mod_expression_181 hld  hQ hK12 h
  · replace h := itp h c16
    refine g_aload_n (pc1 := 155) d_Mod_expression_154 rfl 0 rfl ?_
    refine g_bipush (pc1 := 157) (v := 9) d_Mod_expression_155 rfl (by decide) ?_
    refine g_callV0 (pc1 := 160) (As := [.int 9]) (rest := []) d_Mod_expression_157 rfl mo_Mod_224 mi_Mod_is mv_Mod_is rfl sh_401 (by decide) (by decide) rfl rfl (Nat.le_of_ble_eq_true rfl) ?_
    obtain ⟨r38, hq37, h⟩ := bnd h
    refine f_Mod_is hld  hq37 ?_
    dsimp only [psh]
    refine g_if_ne (pc1 := 163) (tgt := 181) d_Mod_expression_160 (by decide) rfl (fun c39 => ?_) (fun c39 => ?_)
    · replace h := itn h c39
      exact j_Mod_expression_181 hld  hQ hK12 h
    · replace h := itp h c39
      refine g_aload_n (pc1 := 164) d_Mod_expression_163 rfl 0 rfl ?_
      refine g_bipush (pc1 := 166) (v := 10) d_Mod_expression_164 rfl (by decide) ?_
      refine g_callV0 (pc1 := 169) (As := [.int 10]) (rest := []) d_Mod_expression_166 rfl mo_Mod_224 mi_Mod_is mv_Mod_is rfl sh_401 (by decide) (by decide) rfl rfl (Nat.le_of_ble_eq_true rfl) ?_
      obtain ⟨r41, hq40, h⟩ := bnd h
      refine f_Mod_is hld  hq40 ?_
      dsimp only [psh]
      refine g_if_ne (pc1 := 172) (tgt := 181) d_Mod_expression_169 (by decide) rfl (fun c42 => ?_) (fun c42 => ?_)
      · replace h := itn h c42
        exact j_Mod_expression_181 hld  hQ hK12 h
      · replace h := itp h c42
        refine g_aload_n (pc1 := 173) d_Mod_expression_172 rfl 0 rfl ?_
        refine g_bipush (pc1 := 175) (v := 15) d_Mod_expression_173 rfl (by decide) ?_
        refine g_callV0 (pc1 := 178) (As := [.int 15]) (rest := []) d_Mod_expression_175 rfl mo_Mod_224 mi_Mod_is mv_Mod_is rfl sh_401 (by decide) (by decide) rfl rfl (Nat.le_of_ble_eq_true rfl) ?_
        obtain ⟨r44, hq43, h⟩ := bnd h
        refine f_Mod_is hld  hq43 ?_
        dsimp only [psh]
        refine g_if_eq (pc1 := 181) (tgt := 185) d_Mod_expression_178 (by decide) rfl (fun c45 => ?_) (fun c45 => ?_)
        · replace h := itp h c45
          refine g_iconst (pc1 := 186) (v := 0) d_Mod_expression_185 rfl (by decide) ?_
          exact j_Mod_expression_186 hld  hQ hK12 h
        · replace h := itn h c45
          exact j_Mod_expression_181 hld  hQ hK12 h
def B_Mod_expression_96 (K12 : Int32 → gM → Option (gM)) (v1 : Int32) (K96 : gM → Option (gM)) : gM → Option (gM) := fun M =>
  bI (F_Mod_is 7 M) (fun r12 => (if r12 = 0 then J_Mod_expression_145 K12 v1 M else (if (M 401 12) ≤ v1 then J_Mod_expression_145 K12 v1 M else bI (F_Mod_comesOut 0 M) (fun M48 => nmM (uM M48 401 48 ((M48 401 48) - 1)) (fun M49 => nmM (uM M49 401 12 ((M49 401 12) - 1)) (fun M50 => bI (F_Mod_goesOn M50) (fun M52 => K96 M52)))))))
def H_Mod_expression_96 (K12 : Int32 → gM → Option (gM)) (v1 : Int32) : Nat → gM → Option (gM) := lpK (B_Mod_expression_96 K12 v1) (fun _ => none)
set_option maxHeartbeats 4000000 in
set_option maxRecDepth 20000 in
theorem h_Mod_expression_96 {l : Launch} {ld : Nat} {Q : Option Value → gM → gL → gR → Prop} (hld : isLa ld)   {q : gM} {L : gL} (hQ : Q none q L (rf ld)) {K12 : Int32 → gM → Option (gM)} {v1 : Int32} (hK12 : ∀ (w2 : Int32) (M : gM), K12 w2 M = some q → Wp l y_Mod_expression (0, 0, 447) 447 0 0 12 [(0, .ref 401), (1, .int v1), (2, .int w2)] [] M L (rf ld) Q) : ∀ (f : Nat) (M : gM), H_Mod_expression_96 K12 v1 f M = some q → Wp l y_Mod_expression (0, 0, 447) 447 0 0 96 [(0, .ref 401), (1, .int v1)] [] M L (rf ld) Q := by
  intro f
  induction f with
  | zero => intro M h; cases h
  | succ f hK96 =>
    intro M h
    replace h : B_Mod_expression_96 K12 v1 (H_Mod_expression_96 K12 v1 f) M = some q := h
    unfold B_Mod_expression_96 at h
    refine g_aload_n (pc1 := 97) d_Mod_expression_96 rfl 0 rfl ?_
    refine g_bipush (pc1 := 99) (v := 7) d_Mod_expression_97 rfl (by decide) ?_
    refine g_callV0 (pc1 := 102) (As := [.int 7]) (rest := []) d_Mod_expression_99 rfl mo_Mod_224 mi_Mod_is mv_Mod_is rfl sh_401 (by decide) (by decide) rfl rfl (Nat.le_of_ble_eq_true rfl) ?_
    obtain ⟨r12, hq11, h⟩ := bnd h
    refine f_Mod_is hld  hq11 ?_
    dsimp only [psh]
    refine g_if_eq (pc1 := 105) (tgt := 145) d_Mod_expression_102 (by decide) rfl (fun c13 => ?_) (fun c13 => ?_)
    · replace h := itp h c13
      exact j_Mod_expression_145 hld  hQ hK12 h
    · replace h := itn h c13
      refine g_aload_n (pc1 := 106) d_Mod_expression_105 rfl 0 rfl ?_
      refine g_geti (pc1 := 109) d_Mod_expression_106 rfl ⟨_, fo_Mod_233⟩ sh_401 (by decide) ?_
      refine g_iload_n (pc1 := 110) d_Mod_expression_109 rfl 1 rfl ?_
      refine g_icmp_le (pc1 := 113) (tgt := 145) d_Mod_expression_110 (by decide) rfl (fun c46 => ?_) (fun c46 => ?_)
      · replace h := itp h c46
        exact j_Mod_expression_145 hld  hQ hK12 h
      · replace h := itn h c46
        refine g_aload_n (pc1 := 114) d_Mod_expression_113 rfl 0 rfl ?_
        refine g_iconst (pc1 := 115) (v := 0) d_Mod_expression_114 rfl (by decide) ?_
        refine g_callV0 (pc1 := 118) (As := [.int 0]) (rest := []) d_Mod_expression_115 rfl mo_Mod_308 mi_Mod_comesOut mv_Mod_comesOut rfl sh_401 (by decide) (by decide) rfl rfl (Nat.le_of_ble_eq_true rfl) ?_
        obtain ⟨M48, hq47, h⟩ := bnd h
        refine f_Mod_comesOut hld  hq47 ?_
        dsimp only [psh]
        refine g_aload_n (pc1 := 119) d_Mod_expression_118 rfl 0 rfl ?_
        refine g_dup (pc1 := 120) d_Mod_expression_119 rfl rfl ?_
        refine g_geti (pc1 := 123) d_Mod_expression_120 rfl ⟨_, fo_Mod_299⟩ sh_401 (by decide) ?_
        refine g_iconst (pc1 := 124) (v := 1) d_Mod_expression_123 rfl (by decide) ?_
        refine g_isub (pc1 := 125) d_Mod_expression_124 rfl ?_
        refine g_puti (pc1 := 128) d_Mod_expression_125 rfl fo_Mod_299 (po_12_48 _) sh_401 (by decide) ?_
        refine Wp.lM h (fun M49 h => ?_)
        refine g_aload_n (pc1 := 129) d_Mod_expression_128 rfl 0 rfl ?_
        refine g_dup (pc1 := 130) d_Mod_expression_129 rfl rfl ?_
        refine g_geti (pc1 := 133) d_Mod_expression_130 rfl ⟨_, fo_Mod_233⟩ sh_401 (by decide) ?_
        refine g_iconst (pc1 := 134) (v := 1) d_Mod_expression_133 rfl (by decide) ?_
        refine g_isub (pc1 := 135) d_Mod_expression_134 rfl ?_
        refine g_puti (pc1 := 138) d_Mod_expression_135 rfl fo_Mod_233 (po_12_12 _) sh_401 (by decide) ?_
        refine Wp.lM h (fun M50 h => ?_)
        refine g_aload_n (pc1 := 139) d_Mod_expression_138 rfl 0 rfl ?_
        refine g_callV0 (pc1 := 142) (As := []) (rest := []) d_Mod_expression_139 rfl mo_Mod_227 mi_Mod_goesOn mv_Mod_goesOn rfl sh_401 (by decide) (by decide) rfl rfl (Nat.le_of_ble_eq_true rfl) ?_
        obtain ⟨M52, hq51, h⟩ := bnd h
        refine f_Mod_goesOn hld  hq51 ?_
        dsimp only [psh]
        refine g_goto (tgt := 96) d_Mod_expression_142 (by decide) ?_
        exact hK96 M52 h
def J_Mod_expression_84 (K12 : Int32 → gM → Option (gM)) (v1 : Int32) (M : gM) : Option (gM) :=
  bI (F_Mod_unit M) (fun M9 => (if (M9 401 13) ≤ 0 then H_Mod_expression_96 K12 v1 FU M9 else some M9))
set_option maxHeartbeats 4000000 in
set_option maxRecDepth 20000 in
theorem j_Mod_expression_84 {l : Launch} {ld : Nat} {Q : Option Value → gM → gL → gR → Prop} (hld : isLa ld)   {q : gM} {M : gM} {L : gL} (hQ : Q none q L (rf ld)) {K12 : Int32 → gM → Option (gM)} {v1 : Int32} (hK12 : ∀ (w2 : Int32) (M : gM), K12 w2 M = some q → Wp l y_Mod_expression (0, 0, 447) 447 0 0 12 [(0, .ref 401), (1, .int v1), (2, .int w2)] [] M L (rf ld) Q) (h : J_Mod_expression_84 K12 v1 M = some q) : Wp l y_Mod_expression (0, 0, 447) 447 0 0 84 [(0, .ref 401), (1, .int v1)] [] M L (rf ld) Q := by
  unfold J_Mod_expression_84 at h
  refine g_aload_n (pc1 := 85) d_Mod_expression_84 rfl 0 rfl ?_
  refine g_callV0 (pc1 := 88) (As := []) (rest := []) d_Mod_expression_85 rfl mo_Mod_305 mi_Mod_unit mv_Mod_unit rfl sh_401 (by decide) (by decide) rfl rfl (Nat.le_of_ble_eq_true rfl) ?_
  obtain ⟨M9, hq8, h⟩ := bnd h
  refine f_Mod_unit hld  hq8 ?_
  dsimp only [psh]
  refine g_aload_n (pc1 := 89) d_Mod_expression_88 rfl 0 rfl ?_
  refine g_geti (pc1 := 92) d_Mod_expression_89 rfl ⟨_, fo_Mod_206⟩ sh_401 (by decide) ?_
  refine g_if_le (pc1 := 95) (tgt := 96) d_Mod_expression_92 (by decide) rfl (fun c10 => ?_) (fun c10 => ?_)
  · replace h := itp h c10
    exact h_Mod_expression_96 hld  hQ hK12 _ M9 h
  · replace h := itn h c10
    refine g_return rfl d_Mod_expression_95 rfl ?_
    cases h; exact hQ
def J_Mod_expression_46 (K12 : Int32 → gM → Option (gM)) (K23 : gM → Option (gM)) (v1 : Int32) (M : gM) : Option (gM) :=
  nmM (uM M 401 12 ((M 401 12) + 1)) (fun M54 => bI (F_Mod_goesOn M54) (fun M56 => (if ((M56 401 48) : Int32) < 0 ∨ 64 ≤ ((M56 401 48) : Int32).toNatClampNeg then none else nmM (uM M56 433 ((M56 401 48) : Int32).toNatClampNeg 6) (fun M58 => nmM (uM M58 401 48 ((M58 401 48) + 1)) (fun M59 => K23 M59)))))
set_option maxHeartbeats 4000000 in
set_option maxRecDepth 20000 in
theorem j_Mod_expression_46 {l : Launch} {ld : Nat} {Q : Option Value → gM → gL → gR → Prop} (hld : isLa ld)   {q : gM} {M : gM} {L : gL} (hQ : Q none q L (rf ld)) {K12 : Int32 → gM → Option (gM)} {K23 : gM → Option (gM)} {v1 : Int32} (hK12 : ∀ (w2 : Int32) (M : gM), K12 w2 M = some q → Wp l y_Mod_expression (0, 0, 447) 447 0 0 12 [(0, .ref 401), (1, .int v1), (2, .int w2)] [] M L (rf ld) Q) (hK23 : ∀ (M : gM), K23 M = some q → Wp l y_Mod_expression (0, 0, 447) 447 0 0 23 [(0, .ref 401), (1, .int v1)] [] M L (rf ld) Q) (h : J_Mod_expression_46 K12 K23 v1 M = some q) : Wp l y_Mod_expression (0, 0, 447) 447 0 0 46 [(0, .ref 401), (1, .int v1)] [] M L (rf ld) Q := by
  unfold J_Mod_expression_46 at h
  refine g_aload_n (pc1 := 47) d_Mod_expression_46 rfl 0 rfl ?_
  refine g_dup (pc1 := 48) d_Mod_expression_47 rfl rfl ?_
  refine g_geti (pc1 := 51) d_Mod_expression_48 rfl ⟨_, fo_Mod_233⟩ sh_401 (by decide) ?_
  refine g_iconst (pc1 := 52) (v := 1) d_Mod_expression_51 rfl (by decide) ?_
  refine g_iadd (pc1 := 53) d_Mod_expression_52 rfl ?_
  refine g_puti (pc1 := 56) d_Mod_expression_53 rfl fo_Mod_233 (po_12_12 _) sh_401 (by decide) ?_
  refine Wp.lM h (fun M54 h => ?_)
  refine g_aload_n (pc1 := 57) d_Mod_expression_56 rfl 0 rfl ?_
  refine g_callV0 (pc1 := 60) (As := []) (rest := []) d_Mod_expression_57 rfl mo_Mod_227 mi_Mod_goesOn mv_Mod_goesOn rfl sh_401 (by decide) (by decide) rfl rfl (Nat.le_of_ble_eq_true rfl) ?_
  obtain ⟨M56, hq55, h⟩ := bnd h
  refine f_Mod_goesOn hld  hq55 ?_
  dsimp only [psh]
  refine g_aload_n (pc1 := 61) d_Mod_expression_60 rfl 0 rfl ?_
  refine g_getr (pc1 := 64) d_Mod_expression_61 rfl ⟨_, fo_Mod_113⟩ sh_401 (by decide) (rf_401_47 ld) ?_
  refine g_aload_n (pc1 := 65) d_Mod_expression_64 rfl 0 rfl ?_
  refine g_geti (pc1 := 68) d_Mod_expression_65 rfl ⟨_, fo_Mod_299⟩ sh_401 (by decide) ?_
  refine g_bipush (pc1 := 70) (v := 6) d_Mod_expression_68 rfl (by decide) ?_
  obtain ⟨g57, h⟩ := gdn h
  refine g_iast (pc1 := 71) d_Mod_expression_70 rfl sh_433 (by decide) g57 ?_
  refine Wp.lM h (fun M58 h => ?_)
  refine g_aload_n (pc1 := 72) d_Mod_expression_71 rfl 0 rfl ?_
  refine g_dup (pc1 := 73) d_Mod_expression_72 rfl rfl ?_
  refine g_geti (pc1 := 76) d_Mod_expression_73 rfl ⟨_, fo_Mod_299⟩ sh_401 (by decide) ?_
  refine g_iconst (pc1 := 77) (v := 1) d_Mod_expression_76 rfl (by decide) ?_
  refine g_iadd (pc1 := 78) d_Mod_expression_77 rfl ?_
  refine g_puti (pc1 := 81) d_Mod_expression_78 rfl fo_Mod_299 (po_12_48 _) sh_401 (by decide) ?_
  refine Wp.lM h (fun M59 h => ?_)
  refine g_goto (tgt := 23) d_Mod_expression_81 (by decide) ?_
  exact hK23 M59 h
def B_Mod_expression_23 (K12 : Int32 → gM → Option (gM)) (v1 : Int32) (K23 : gM → Option (gM)) : gM → Option (gM) := fun M =>
  bI (F_Mod_is 6 M) (fun r6 => (if r6 = 0 then J_Mod_expression_84 K12 v1 M else (if (M 401 12) = 6 then bI (F_Mod_fail 2 M) (fun M61 => J_Mod_expression_46 K12 K23 v1 M61) else J_Mod_expression_46 K12 K23 v1 M)))
def H_Mod_expression_23 (K12 : Int32 → gM → Option (gM)) (v1 : Int32) : Nat → gM → Option (gM) := lpK (B_Mod_expression_23 K12 v1) (fun _ => none)
set_option maxHeartbeats 4000000 in
set_option maxRecDepth 20000 in
theorem h_Mod_expression_23 {l : Launch} {ld : Nat} {Q : Option Value → gM → gL → gR → Prop} (hld : isLa ld)   {q : gM} {L : gL} (hQ : Q none q L (rf ld)) {K12 : Int32 → gM → Option (gM)} {v1 : Int32} (hK12 : ∀ (w2 : Int32) (M : gM), K12 w2 M = some q → Wp l y_Mod_expression (0, 0, 447) 447 0 0 12 [(0, .ref 401), (1, .int v1), (2, .int w2)] [] M L (rf ld) Q) : ∀ (f : Nat) (M : gM), H_Mod_expression_23 K12 v1 f M = some q → Wp l y_Mod_expression (0, 0, 447) 447 0 0 23 [(0, .ref 401), (1, .int v1)] [] M L (rf ld) Q := by
  intro f
  induction f with
  | zero => intro M h; cases h
  | succ f hK23 =>
    intro M h
    replace h : B_Mod_expression_23 K12 v1 (H_Mod_expression_23 K12 v1 f) M = some q := h
    unfold B_Mod_expression_23 at h
    refine g_aload_n (pc1 := 24) d_Mod_expression_23 rfl 0 rfl ?_
    refine g_bipush (pc1 := 26) (v := 6) d_Mod_expression_24 rfl (by decide) ?_
    refine g_callV0 (pc1 := 29) (As := [.int 6]) (rest := []) d_Mod_expression_26 rfl mo_Mod_224 mi_Mod_is mv_Mod_is rfl sh_401 (by decide) (by decide) rfl rfl (Nat.le_of_ble_eq_true rfl) ?_
    obtain ⟨r6, hq5, h⟩ := bnd h
    refine f_Mod_is hld  hq5 ?_
    dsimp only [psh]
    refine g_if_eq (pc1 := 32) (tgt := 84) d_Mod_expression_29 (by decide) rfl (fun c7 => ?_) (fun c7 => ?_)
    · replace h := itp h c7
      exact j_Mod_expression_84 hld  hQ hK12 h
    · replace h := itn h c7
      refine g_aload_n (pc1 := 33) d_Mod_expression_32 rfl 0 rfl ?_
      refine g_geti (pc1 := 36) d_Mod_expression_33 rfl ⟨_, fo_Mod_233⟩ sh_401 (by decide) ?_
      refine g_bipush (pc1 := 38) (v := 6) d_Mod_expression_36 rfl (by decide) ?_
      refine g_icmp_ne (pc1 := 41) (tgt := 46) d_Mod_expression_38 (by decide) rfl (fun c53 => ?_) (fun c53 => ?_)
      · replace h := itn h c53
        exact j_Mod_expression_46 hld  hQ hK12 hK23 h
      · replace h := itp h c53
        refine g_aload_n (pc1 := 42) d_Mod_expression_41 rfl 0 rfl ?_
        refine g_iconst (pc1 := 43) (v := 2) d_Mod_expression_42 rfl (by decide) ?_
        refine g_callV0 (pc1 := 46) (As := [.int 2]) (rest := []) d_Mod_expression_43 rfl mo_Mod_221 mi_Mod_fail mv_Mod_fail rfl sh_401 (by decide) (by decide) rfl rfl (Nat.le_of_ble_eq_true rfl) ?_
        obtain ⟨M61, hq60, h⟩ := bnd h
        refine f_Mod_fail hld  hq60 ?_
        dsimp only [psh]
        exact j_Mod_expression_46 hld  hQ hK12 hK23 h
def B_Mod_expression_12 (v1 : Int32) (K12 : Int32 → gM → Option (gM)) : Int32 → gM → Option (gM) := fun v2 M =>
  (if v2 = 0 then some M else (if (M 401 13) = 0 then H_Mod_expression_23 K12 v1 FU M else some M))
def H_Mod_expression_12 (v1 : Int32) : Nat → Int32 → gM → Option (gM) := lpK (B_Mod_expression_12 v1) (fun _ _ => none)
set_option maxHeartbeats 4000000 in
set_option maxRecDepth 20000 in
theorem h_Mod_expression_12 {l : Launch} {ld : Nat} {Q : Option Value → gM → gL → gR → Prop} (hld : isLa ld)   {q : gM} {L : gL} (hQ : Q none q L (rf ld))  {v1 : Int32}  : ∀ (f : Nat) (v2 : Int32) (M : gM), H_Mod_expression_12 v1 f v2 M = some q → Wp l y_Mod_expression (0, 0, 447) 447 0 0 12 [(0, .ref 401), (1, .int v1), (2, .int v2)] [] M L (rf ld) Q := by
  intro f
  induction f with
  | zero => intro v2 M h; cases h
  | succ f hK12 =>
    intro v2 M h
    replace h : B_Mod_expression_12 v1 (H_Mod_expression_12 v1 f) v2 M = some q := h
    unfold B_Mod_expression_12 at h
    refine g_iload_n (pc1 := 13) d_Mod_expression_12 rfl 2 rfl ?_
    refine g_if_eq (pc1 := 16) (tgt := 272) d_Mod_expression_13 (by decide) rfl (fun c3 => ?_) (fun c3 => ?_)
    · replace h := itp h c3
      refine g_return rfl d_Mod_expression_272 rfl ?_
      cases h; exact hQ
    · replace h := itn h c3
      refine g_aload_n (pc1 := 17) d_Mod_expression_16 rfl 0 rfl ?_
      refine g_geti (pc1 := 20) d_Mod_expression_17 rfl ⟨_, fo_Mod_206⟩ sh_401 (by decide) ?_
      refine g_if_ne (pc1 := 23) (tgt := 272) d_Mod_expression_20 (by decide) rfl (fun c4 => ?_) (fun c4 => ?_)
      · replace h := itn h c4
        refine g_return rfl d_Mod_expression_272 rfl ?_
        cases h; exact hQ
      · replace h := itp h c4
        refine Wp.loc (lv' := [(0, .ref 401), (1, .int v1)]) [0, 1] rfl ?_
        exact h_Mod_expression_23 hld  hQ hK12 _ M h
def F_Mod_expression (M : gM) : Option (gM) :=
  nmM (uM M 401 48 0) (fun M1 => nmI (M1 401 12) (fun x2 => H_Mod_expression_12 x2 FU 1 M1))
set_option maxHeartbeats 4000000 in
set_option maxRecDepth 20000 in
theorem f_Mod_expression {l : Launch} {ld : Nat} {M : gM} {L : gL} {Q : Option Value → gM → gL → gR → Prop} (hld : isLa ld)   {q : gM} (h : F_Mod_expression M = some q) (hQ : Q none q L (rf ld)) : Tm l y_Mod_expression (0, 0, 447) 447 [.ref 401] M L (rf ld) Q := by
  refine Tm.of (by decide) (Nat.le_of_ble_eq_true rfl) ?_
  show Wp l y_Mod_expression (0, 0, 447) 447 0 0 0 [(0, .ref 401)] [] M L (rf ld) Q
  unfold F_Mod_expression at h
  refine g_aload_n (pc1 := 1) d_Mod_expression_0 rfl 0 rfl ?_
  refine g_iconst (pc1 := 2) (v := 0) d_Mod_expression_1 rfl (by decide) ?_
  refine g_puti (pc1 := 5) d_Mod_expression_2 rfl fo_Mod_299 (po_12_48 _) sh_401 (by decide) ?_
  refine Wp.lM h (fun M1 h => ?_)
  refine g_aload_n (pc1 := 6) d_Mod_expression_5 rfl 0 rfl ?_
  refine g_geti (pc1 := 9) d_Mod_expression_6 rfl ⟨_, fo_Mod_233⟩ sh_401 (by decide) ?_
  refine Wp.lI h (fun x2 h => ?_)
  refine g_istore_n (pc1 := 10) (lv' := [(0, .ref 401), (1, .int x2)]) d_Mod_expression_9 rfl rfl (by decide) [1, 0] rfl ?_
  refine g_iconst (pc1 := 11) (v := 1) d_Mod_expression_10 rfl (by decide) ?_
  refine g_istore_n (pc1 := 12) (lv' := [(0, .ref 401), (1, .int x2), (2, .int 1)]) d_Mod_expression_11 rfl rfl (by decide) [1, 2, 0] rfl ?_
  exact h_Mod_expression_12 hld  hQ  _ 1 M1 h

def J_Mod_forceBy_55 (v1 : Int32) (v2 : Int32) (v3 : Int32) (M : gM) : Option (Int32 × gM) :=
  bI (F_Mod_looks M) (fun M4 => nmM (uM M4 434 0 v3) (fun M5 => nmM (uM M5 434 1 v2) (fun M6 => nmM (uM M6 434 2 v1) (fun M7 => bI (F_Mod_potMany M7) (fun r9 => nmM (uM M7 434 3 r9) (fun M10 => bI2 (F_Mod_asks 0 v3 0 99 M10) (fun r12 M13 => some (r12, M13))))))))
set_option maxHeartbeats 4000000 in
set_option maxRecDepth 20000 in
theorem j_Mod_forceBy_55 {l : Launch} {ld : Nat} {Q : Option Value → gM → gL → gR → Prop} (hld : isLa ld)   {q : Int32 × gM} {M : gM} {L : gL} (hQ : Q (some (.int q.1)) q.2 L (rf ld))  {v1 : Int32} {v2 : Int32} {v3 : Int32}  (h : J_Mod_forceBy_55 v1 v2 v3 M = some q) : Wp l y_Mod_forceBy (0, 0, 447) 447 0 0 55 [(0, .ref 401), (1, .int v1), (2, .int v2), (3, .int v3)] [] M L (rf ld) Q := by
  unfold J_Mod_forceBy_55 at h
  refine g_aload_n (pc1 := 56) d_Mod_forceBy_55 rfl 0 rfl ?_
  refine g_callV0 (pc1 := 59) (As := []) (rest := []) d_Mod_forceBy_56 rfl mo_Mod_336 mi_Mod_looks mv_Mod_looks rfl sh_401 (by decide) (by decide) rfl rfl (Nat.le_of_ble_eq_true rfl) ?_
  obtain ⟨M4, hq3, h⟩ := bnd h
  refine f_Mod_looks hld  hq3 ?_
  dsimp only [psh]
  refine g_aload_n (pc1 := 60) d_Mod_forceBy_59 rfl 0 rfl ?_
  refine g_getr (pc1 := 63) d_Mod_forceBy_60 rfl ⟨_, fo_Mod_116⟩ sh_401 (by decide) (rf_401_49 ld) ?_
  refine g_iconst (pc1 := 64) (v := 0) d_Mod_forceBy_63 rfl (by decide) ?_
  refine g_iload_n (pc1 := 65) d_Mod_forceBy_64 rfl 3 rfl ?_
  refine g_iast (pc1 := 66) d_Mod_forceBy_65 rfl sh_434 (by decide) (vin_lit (x := 0) (by decide)) ?_
  refine Wp.eqM (M' := uM M4 434 0 v3) (congrArg (fun z => uM M4 434 z v3) (by decide)) ?_
  refine Wp.lM h (fun M5 h => ?_)
  refine g_aload_n (pc1 := 67) d_Mod_forceBy_66 rfl 0 rfl ?_
  refine g_getr (pc1 := 70) d_Mod_forceBy_67 rfl ⟨_, fo_Mod_116⟩ sh_401 (by decide) (rf_401_49 ld) ?_
  refine g_iconst (pc1 := 71) (v := 1) d_Mod_forceBy_70 rfl (by decide) ?_
  refine g_iload_n (pc1 := 72) d_Mod_forceBy_71 rfl 2 rfl ?_
  refine g_iast (pc1 := 73) d_Mod_forceBy_72 rfl sh_434 (by decide) (vin_lit (x := 1) (by decide)) ?_
  refine Wp.eqM (M' := uM M5 434 1 v2) (congrArg (fun z => uM M5 434 z v2) (by decide)) ?_
  refine Wp.lM h (fun M6 h => ?_)
  refine g_aload_n (pc1 := 74) d_Mod_forceBy_73 rfl 0 rfl ?_
  refine g_getr (pc1 := 77) d_Mod_forceBy_74 rfl ⟨_, fo_Mod_116⟩ sh_401 (by decide) (rf_401_49 ld) ?_
  refine g_iconst (pc1 := 78) (v := 2) d_Mod_forceBy_77 rfl (by decide) ?_
  refine g_iload_n (pc1 := 79) d_Mod_forceBy_78 rfl 1 rfl ?_
  refine g_iast (pc1 := 80) d_Mod_forceBy_79 rfl sh_434 (by decide) (vin_lit (x := 2) (by decide)) ?_
  refine Wp.eqM (M' := uM M6 434 2 v1) (congrArg (fun z => uM M6 434 z v1) (by decide)) ?_
  refine Wp.lM h (fun M7 h => ?_)
  refine g_aload_n (pc1 := 81) d_Mod_forceBy_80 rfl 0 rfl ?_
  refine g_getr (pc1 := 84) d_Mod_forceBy_81 rfl ⟨_, fo_Mod_116⟩ sh_401 (by decide) (rf_401_49 ld) ?_
  refine g_iconst (pc1 := 85) (v := 3) d_Mod_forceBy_84 rfl (by decide) ?_
  refine g_aload_n (pc1 := 86) d_Mod_forceBy_85 rfl 0 rfl ?_
  refine g_callV0 (pc1 := 89) (As := []) (rest := [.int 3, .ref 434]) d_Mod_forceBy_86 rfl mo_Mod_339 mi_Mod_potMany mv_Mod_potMany rfl sh_401 (by decide) (by decide) rfl rfl (Nat.le_of_ble_eq_true rfl) ?_
  obtain ⟨r9, hq8, h⟩ := bnd h
  refine f_Mod_potMany hld  hq8 ?_
  dsimp only [psh]
  refine g_iast (pc1 := 90) d_Mod_forceBy_89 rfl sh_434 (by decide) (vin_lit (x := 3) (by decide)) ?_
  refine Wp.eqM (M' := uM M7 434 3 r9) (congrArg (fun z => uM M7 434 z r9) (by decide)) ?_
  refine Wp.lM h (fun M10 h => ?_)
  refine g_aload_n (pc1 := 91) d_Mod_forceBy_90 rfl 0 rfl ?_
  refine g_iconst (pc1 := 92) (v := 0) d_Mod_forceBy_91 rfl (by decide) ?_
  refine g_iload_n (pc1 := 93) d_Mod_forceBy_92 rfl 3 rfl ?_
  refine g_iconst (pc1 := 94) (v := 0) d_Mod_forceBy_93 rfl (by decide) ?_
  refine g_bipush (pc1 := 96) (v := 99) d_Mod_forceBy_94 rfl (by decide) ?_
  refine g_callV0 (pc1 := 99) (As := [.int 0, .int v3, .int 0, .int 99]) (rest := []) d_Mod_forceBy_96 rfl mo_Mod_342 mi_Mod_asks mv_Mod_asks rfl sh_401 (by decide) (by decide) rfl rfl (Nat.le_of_ble_eq_true rfl) ?_
  obtain ⟨r12, M13, hq11, h⟩ := bnd2 h
  refine f_Mod_asks hld  hq11 ?_
  dsimp only [psh]
  refine g_ireturn (Or.inl rfl) d_Mod_forceBy_99 rfl ?_
  cases h; exact hQ
def B_Mod_forceBy_5 (v1 : Int32) (v2 : Int32) (M : gM) (K5 : Int32 → Int32 → Option (Int32 × gM)) : Int32 → Int32 → Option (Int32 × gM) := fun v3 v4 =>
  (if ((M 401 18) : Int32) < 0 ∨ 2 ≤ ((M 401 18) : Int32).toNatClampNeg then none else (if (M 411 ((M 401 18) : Int32).toNatClampNeg) ≤ v4 then J_Mod_forceBy_55 v1 v2 v3 M else (if (v4 : Int32) < 0 ∨ 6 ≤ (v4 : Int32).toNatClampNeg then none else (if (((3 * ((6 * (M 401 18)) + v4)) + v1) : Int32) < 0 ∨ 36 ≤ (((3 * ((6 * (M 401 18)) + v4)) + v1) : Int32).toNatClampNeg then none else nmI (v3 + ((M 438 (v4 : Int32).toNatClampNeg) * (M 414 (((3 * ((6 * (M 401 18)) + v4)) + v1) : Int32).toNatClampNeg))) (fun x16 => nmI (v4 + 1) (fun x17 => K5 x16 x17))))))
def H_Mod_forceBy_5 (v1 : Int32) (v2 : Int32) (M : gM) : Nat → Int32 → Int32 → Option (Int32 × gM) := lpK (B_Mod_forceBy_5 v1 v2 M) (fun _ _ => none)
set_option maxHeartbeats 4000000 in
set_option maxRecDepth 20000 in
theorem h_Mod_forceBy_5 {l : Launch} {ld : Nat} {Q : Option Value → gM → gL → gR → Prop} (hld : isLa ld)   {q : Int32 × gM} {M : gM} {L : gL} (hQ : Q (some (.int q.1)) q.2 L (rf ld))  {v1 : Int32} {v2 : Int32}  : ∀ (f : Nat) (v3 : Int32) (v4 : Int32), H_Mod_forceBy_5 v1 v2 M f v3 v4 = some q → Wp l y_Mod_forceBy (0, 0, 447) 447 0 0 5 [(0, .ref 401), (1, .int v1), (2, .int v2), (3, .int v3), (4, .int v4)] [] M L (rf ld) Q := by
  intro f
  induction f with
  | zero => intro v3 v4 h; cases h
  | succ f hK5 =>
    intro v3 v4 h
    replace h : B_Mod_forceBy_5 v1 v2 M (H_Mod_forceBy_5 v1 v2 M f) v3 v4 = some q := h
    unfold B_Mod_forceBy_5 at h
    refine g_iload (pc1 := 7) d_Mod_forceBy_5 rfl 4 rfl ?_
    refine g_aload_n (pc1 := 8) d_Mod_forceBy_7 rfl 0 rfl ?_
    refine g_getr (pc1 := 11) d_Mod_forceBy_8 rfl ⟨_, fo_Mod_46⟩ sh_401 (by decide) (rf_401_23 ld) ?_
    refine g_aload_n (pc1 := 12) d_Mod_forceBy_11 rfl 0 rfl ?_
    refine g_geti (pc1 := 15) d_Mod_forceBy_12 rfl ⟨_, fo_Mod_236⟩ sh_401 (by decide) ?_
    obtain ⟨g1, h⟩ := gdn h
    refine g_iald (pc1 := 16) d_Mod_forceBy_15 rfl sh_411 (by decide) g1 ?_
    refine g_icmp_ge (pc1 := 19) (tgt := 55) d_Mod_forceBy_16 (by decide) rfl (fun c2 => ?_) (fun c2 => ?_)
    · replace h := itp h c2
      refine Wp.loc (lv' := [(0, .ref 401), (1, .int v1), (2, .int v2), (3, .int v3)]) [0, 1, 2, 3] rfl ?_
      exact j_Mod_forceBy_55 hld  hQ  h
    · replace h := itn h c2
      refine g_iload_n (pc1 := 20) d_Mod_forceBy_19 rfl 3 rfl ?_
      refine g_aload_n (pc1 := 21) d_Mod_forceBy_20 rfl 0 rfl ?_
      refine g_getr (pc1 := 24) d_Mod_forceBy_21 rfl ⟨_, fo_Mod_128⟩ sh_401 (by decide) (rf_401_55 ld) ?_
      refine g_iload (pc1 := 26) d_Mod_forceBy_24 rfl 4 rfl ?_
      obtain ⟨g14, h⟩ := gdn h
      refine g_iald (pc1 := 27) d_Mod_forceBy_26 rfl sh_438 (by decide) g14 ?_
      refine g_aload_n (pc1 := 28) d_Mod_forceBy_27 rfl 0 rfl ?_
      refine g_getr (pc1 := 31) d_Mod_forceBy_28 rfl ⟨_, fo_Mod_55⟩ sh_401 (by decide) (rf_401_26 ld) ?_
      refine g_iconst (pc1 := 32) (v := 3) d_Mod_forceBy_31 rfl (by decide) ?_
      refine g_bipush (pc1 := 34) (v := 6) d_Mod_forceBy_32 rfl (by decide) ?_
      refine g_aload_n (pc1 := 35) d_Mod_forceBy_34 rfl 0 rfl ?_
      refine g_geti (pc1 := 38) d_Mod_forceBy_35 rfl ⟨_, fo_Mod_236⟩ sh_401 (by decide) ?_
      refine g_imul (pc1 := 39) d_Mod_forceBy_38 rfl ?_
      refine g_iload (pc1 := 41) d_Mod_forceBy_39 rfl 4 rfl ?_
      refine g_iadd (pc1 := 42) d_Mod_forceBy_41 rfl ?_
      refine g_imul (pc1 := 43) d_Mod_forceBy_42 rfl ?_
      refine g_iload_n (pc1 := 44) d_Mod_forceBy_43 rfl 1 rfl ?_
      refine g_iadd (pc1 := 45) d_Mod_forceBy_44 rfl ?_
      obtain ⟨g15, h⟩ := gdn h
      refine g_iald (pc1 := 46) d_Mod_forceBy_45 rfl sh_414 (by decide) g15 ?_
      refine g_imul (pc1 := 47) d_Mod_forceBy_46 rfl ?_
      refine g_iadd (pc1 := 48) d_Mod_forceBy_47 rfl ?_
      refine Wp.lI h (fun x16 h => ?_)
      refine g_istore_n (pc1 := 49) (lv' := [(0, .ref 401), (1, .int v1), (2, .int v2), (3, .int x16), (4, .int v4)]) d_Mod_forceBy_48 rfl rfl (by decide) [1, 2, 3, 0, 4] rfl ?_
      obtain ⟨x17, ex17, h⟩ := ltI h
      refine g_iinc (pc1 := 52) (v := x17) (lv' := [(0, .ref 401), (1, .int v1), (2, .int v2), (3, .int x16), (4, .int x17)]) d_Mod_forceBy_49 rfl 4 rfl (by rw [ex17]; rfl) (by decide) [1, 2, 3, 4, 0] rfl ?_
      refine g_goto (tgt := 5) d_Mod_forceBy_52 (by decide) ?_
      exact hK5 x16 x17 h
def F_Mod_forceBy (p1 : Int32) (p2 : Int32) (M : gM) : Option (Int32 × gM) :=
  H_Mod_forceBy_5 p1 p2 M FU 0 0
set_option maxHeartbeats 4000000 in
set_option maxRecDepth 20000 in
theorem f_Mod_forceBy {l : Launch} {ld : Nat} {M : gM} {L : gL} {Q : Option Value → gM → gL → gR → Prop} (hld : isLa ld) {p1 : Int32} {p2 : Int32}  {q : Int32 × gM} (h : F_Mod_forceBy p1 p2 M = some q) (hQ : Q (some (.int q.1)) q.2 L (rf ld)) : Tm l y_Mod_forceBy (0, 0, 447) 447 [.ref 401, .int p1, .int p2] M L (rf ld) Q := by
  refine Tm.of (by decide) (Nat.le_of_ble_eq_true rfl) ?_
  show Wp l y_Mod_forceBy (0, 0, 447) 447 0 0 0 [(0, .ref 401), (1, .int p1), (2, .int p2)] [] M L (rf ld) Q
  unfold F_Mod_forceBy at h
  refine g_iconst (pc1 := 1) (v := 0) d_Mod_forceBy_0 rfl (by decide) ?_
  refine g_istore_n (pc1 := 2) (lv' := [(0, .ref 401), (1, .int p1), (2, .int p2), (3, .int 0)]) d_Mod_forceBy_1 rfl rfl (by decide) [1, 2, 3, 0] rfl ?_
  refine g_iconst (pc1 := 3) (v := 0) d_Mod_forceBy_2 rfl (by decide) ?_
  refine g_istore (pc1 := 5) (lv' := [(0, .ref 401), (1, .int p1), (2, .int p2), (3, .int 0), (4, .int 0)]) d_Mod_forceBy_3 rfl (by decide) [1, 2, 3, 4, 0] rfl ?_
  exact h_Mod_forceBy_5 hld  hQ  _ 0 0 h

def J_Mod_knownFood_67 (v1 : Int32) (M : gM) (L : gL) : Option (Int32 × gM) :=
  bI (F_Mod_wrong 4 v1 M) (fun M7 => some ((-1), M7))
set_option maxHeartbeats 4000000 in
set_option maxRecDepth 20000 in
theorem j_Mod_knownFood_67 {l : Launch} {ld : Nat} {Q : Option Value → gM → gL → gR → Prop} (hld : isLa ld)   {q : Int32 × gM} {M : gM} {L : gL} (hQ : Q (some (.int q.1)) q.2 L (rf ld))  {v1 : Int32}  (h : J_Mod_knownFood_67 v1 M L = some q) : Wp l y_Mod_knownFood (0, 0, 447) 447 0 0 67 [(0, .ref 401), (1, .int v1)] [] M L (rf ld) Q := by
  unfold J_Mod_knownFood_67 at h
  refine g_aload_n (pc1 := 68) d_Mod_knownFood_67 rfl 0 rfl ?_
  refine g_iconst (pc1 := 69) (v := 4) d_Mod_knownFood_68 rfl (by decide) ?_
  refine g_iload_n (pc1 := 70) d_Mod_knownFood_69 rfl 1 rfl ?_
  refine g_callV0 (pc1 := 73) (As := [.int 4, .int v1]) (rest := []) d_Mod_knownFood_70 rfl mo_Mod_287 mi_Mod_wrong mv_Mod_wrong rfl sh_401 (by decide) (by decide) rfl rfl (Nat.le_of_ble_eq_true rfl) ?_
  obtain ⟨M7, hq6, h⟩ := bnd h
  refine f_Mod_wrong hld  hq6 ?_
  dsimp only [psh]
  refine g_iconst (pc1 := 74) (v := (-1)) d_Mod_knownFood_73 rfl (by decide) ?_
  refine g_ireturn (Or.inl rfl) d_Mod_knownFood_74 rfl ?_
  cases h; exact hQ
def J_Mod_knownFood_61 (K21 : Int32 → Option (Int32 × gM)) (v1 : Int32) (v2 : Int32) (M : gM) (L : gL) : Option (Int32 × gM) :=
  nmI (v2 + 1) (fun x11 => K21 x11)
set_option maxHeartbeats 4000000 in
set_option maxRecDepth 20000 in
theorem j_Mod_knownFood_61 {l : Launch} {ld : Nat} {Q : Option Value → gM → gL → gR → Prop} (hld : isLa ld)   {q : Int32 × gM} {M : gM} {L : gL} (hQ : Q (some (.int q.1)) q.2 L (rf ld)) {K21 : Int32 → Option (Int32 × gM)} {v1 : Int32} {v2 : Int32} (hK21 : ∀ (w2 : Int32), K21 w2 = some q → Wp l y_Mod_knownFood (0, 0, 447) 447 0 0 21 [(0, .ref 401), (1, .int v1), (2, .int w2)] [] M L (rf ld) Q) (h : J_Mod_knownFood_61 K21 v1 v2 M L = some q) : Wp l y_Mod_knownFood (0, 0, 447) 447 0 0 61 [(0, .ref 401), (1, .int v1), (2, .int v2)] [] M L (rf ld) Q := by
  unfold J_Mod_knownFood_61 at h
  obtain ⟨x11, ex11, h⟩ := ltI h
  refine g_iinc (pc1 := 64) (v := x11) (lv' := [(0, .ref 401), (1, .int v1), (2, .int x11)]) d_Mod_knownFood_61 rfl 2 rfl (by rw [ex11]; rfl) (by decide) [1, 2, 0] rfl ?_
  refine g_goto (tgt := 21) d_Mod_knownFood_64 (by decide) ?_
  exact hK21 x11 h
def J_Mod_knownFood_54 (v2 : Int32) (M : gM) (L : gL) : Option (Int32 × gM) :=
  (if (v2 : Int32) < 0 ∨ 21 ≤ (v2 : Int32).toNatClampNeg then none else some ((M 410 (v2 : Int32).toNatClampNeg), M))
set_option maxHeartbeats 4000000 in
set_option maxRecDepth 20000 in
theorem j_Mod_knownFood_54 {l : Launch} {ld : Nat} {Q : Option Value → gM → gL → gR → Prop} (hld : isLa ld)   {q : Int32 × gM} {M : gM} {L : gL} (hQ : Q (some (.int q.1)) q.2 L (rf ld))  {v2 : Int32}  (h : J_Mod_knownFood_54 v2 M L = some q) : Wp l y_Mod_knownFood (0, 0, 447) 447 0 0 54 [(0, .ref 401), (2, .int v2)] [] M L (rf ld) Q := by
  unfold J_Mod_knownFood_54 at h
  refine g_aload_n (pc1 := 55) d_Mod_knownFood_54 rfl 0 rfl ?_
  refine g_getr (pc1 := 58) d_Mod_knownFood_55 rfl ⟨_, fo_Mod_43⟩ sh_401 (by decide) (rf_401_22 ld) ?_
  refine g_iload_n (pc1 := 59) d_Mod_knownFood_58 rfl 1 rfl ?_
  obtain ⟨g14, h⟩ := gdn h
  refine g_iald (pc1 := 60) d_Mod_knownFood_59 rfl sh_410 (by decide) g14 ?_
  refine g_ireturn (Or.inl rfl) d_Mod_knownFood_60 rfl ?_
  cases h; exact hQ
def B_Mod_knownFood_21 (v1 : Int32) (M : gM) (L : gL) (K21 : Int32 → Option (Int32 × gM)) : Int32 → Option (Int32 × gM) := fun v2 =>
  (if (M 401 20) ≤ v2 then J_Mod_knownFood_67 v1 M L else (if (v2 : Int32) < 0 ∨ 21 ≤ (v2 : Int32).toNatClampNeg then none else (if (v1 : Int32) < 0 ∨ 403 ≤ (v1 : Int32).toNatClampNeg then none else (if (lg_cmp (L 409 (v2 : Int32).toNatClampNeg) (L 407 (v1 : Int32).toNatClampNeg)) = 0 then (if (v2 : Int32) < 0 ∨ 21 ≤ (v2 : Int32).toNatClampNeg then none else (if (M 410 (v2 : Int32).toNatClampNeg) < 0 then J_Mod_knownFood_61 K21 v1 v2 M L else J_Mod_knownFood_54 v2 M L)) else J_Mod_knownFood_61 K21 v1 v2 M L))))
def H_Mod_knownFood_21 (v1 : Int32) (M : gM) (L : gL) : Nat → Int32 → Option (Int32 × gM) := lpK (B_Mod_knownFood_21 v1 M L) (fun _ => none)
set_option maxHeartbeats 4000000 in
set_option maxRecDepth 20000 in
theorem h_Mod_knownFood_21 {l : Launch} {ld : Nat} {Q : Option Value → gM → gL → gR → Prop} (hld : isLa ld)   {q : Int32 × gM} {M : gM} {L : gL} (hQ : Q (some (.int q.1)) q.2 L (rf ld))  {v1 : Int32}  : ∀ (f : Nat) (v2 : Int32), H_Mod_knownFood_21 v1 M L f v2 = some q → Wp l y_Mod_knownFood (0, 0, 447) 447 0 0 21 [(0, .ref 401), (1, .int v1), (2, .int v2)] [] M L (rf ld) Q := by
  intro f
  induction f with
  | zero => intro v2 h; cases h
  | succ f hK21 =>
    intro v2 h
    replace h : B_Mod_knownFood_21 v1 M L (H_Mod_knownFood_21 v1 M L f) v2 = some q := h
    unfold B_Mod_knownFood_21 at h
    refine g_iload_n (pc1 := 22) d_Mod_knownFood_21 rfl 2 rfl ?_
    refine g_aload_n (pc1 := 23) d_Mod_knownFood_22 rfl 0 rfl ?_
    refine g_geti (pc1 := 26) d_Mod_knownFood_23 rfl ⟨_, fo_Mod_242⟩ sh_401 (by decide) ?_
    refine g_icmp_ge (pc1 := 29) (tgt := 67) d_Mod_knownFood_26 (by decide) rfl (fun c5 => ?_) (fun c5 => ?_)
    · replace h := itp h c5
      refine Wp.loc (lv' := [(0, .ref 401), (1, .int v1)]) [0, 1] rfl ?_
      exact j_Mod_knownFood_67 hld  hQ  h
    · replace h := itn h c5
      refine g_aload_n (pc1 := 30) d_Mod_knownFood_29 rfl 0 rfl ?_
      refine g_getr (pc1 := 33) d_Mod_knownFood_30 rfl ⟨_, fo_Mod_40⟩ sh_401 (by decide) (rf_401_21 ld) ?_
      refine g_iload_n (pc1 := 34) d_Mod_knownFood_33 rfl 2 rfl ?_
      obtain ⟨g8, h⟩ := gdn h
      refine g_lald (pc1 := 35) d_Mod_knownFood_34 rfl sh_409 (by decide) g8 ?_
      refine g_aload_n (pc1 := 36) d_Mod_knownFood_35 rfl 0 rfl ?_
      refine g_getr (pc1 := 39) d_Mod_knownFood_36 rfl ⟨_, fo_Mod_30⟩ sh_401 (by decide) (rf_401_8 ld) ?_
      refine g_iload_n (pc1 := 40) d_Mod_knownFood_39 rfl 1 rfl ?_
      obtain ⟨g9, h⟩ := gdn h
      refine g_lald (pc1 := 41) d_Mod_knownFood_40 rfl sh_407 (by decide) g9 ?_
      refine g_lcmp (pc1 := 42) d_Mod_knownFood_41 rfl ?_
      refine g_if_ne (pc1 := 45) (tgt := 61) d_Mod_knownFood_42 (by decide) rfl (fun c10 => ?_) (fun c10 => ?_)
      · replace h := itn h c10
        exact j_Mod_knownFood_61 hld  hQ hK21 h
      · replace h := itp h c10
        refine g_aload_n (pc1 := 46) d_Mod_knownFood_45 rfl 0 rfl ?_
        refine g_getr (pc1 := 49) d_Mod_knownFood_46 rfl ⟨_, fo_Mod_43⟩ sh_401 (by decide) (rf_401_22 ld) ?_
        refine g_iload_n (pc1 := 50) d_Mod_knownFood_49 rfl 2 rfl ?_
        obtain ⟨g12, h⟩ := gdn h
        refine g_iald (pc1 := 51) d_Mod_knownFood_50 rfl sh_410 (by decide) g12 ?_
        refine g_if_lt (pc1 := 54) (tgt := 61) d_Mod_knownFood_51 (by decide) rfl (fun c13 => ?_) (fun c13 => ?_)
        · replace h := itp h c13
          exact j_Mod_knownFood_61 hld  hQ hK21 h
        · replace h := itn h c13
          refine Wp.loc (lv' := [(0, .ref 401), (2, .int v2)]) [0, 2] rfl ?_
          exact j_Mod_knownFood_54 hld  hQ  h
def F_Mod_knownFood (M : gM) (L : gL) : Option (Int32 × gM) :=
  nmI (M 401 11) (fun x1 => bI (F_Mod_must 1 M) (fun M3 => (if (M3 401 13) ≤ 0 then H_Mod_knownFood_21 x1 M3 L FU 0 else some ((-1), M3))))
set_option maxHeartbeats 4000000 in
set_option maxRecDepth 20000 in
theorem f_Mod_knownFood {l : Launch} {ld : Nat} {M : gM} {L : gL} {Q : Option Value → gM → gL → gR → Prop} (hld : isLa ld)   {q : Int32 × gM} (h : F_Mod_knownFood M L = some q) (hQ : Q (some (.int q.1)) q.2 L (rf ld)) : Tm l y_Mod_knownFood (0, 0, 447) 447 [.ref 401] M L (rf ld) Q := by
  refine Tm.of (by decide) (Nat.le_of_ble_eq_true rfl) ?_
  show Wp l y_Mod_knownFood (0, 0, 447) 447 0 0 0 [(0, .ref 401)] [] M L (rf ld) Q
  unfold F_Mod_knownFood at h
  refine g_aload_n (pc1 := 1) d_Mod_knownFood_0 rfl 0 rfl ?_
  refine g_geti (pc1 := 4) d_Mod_knownFood_1 rfl ⟨_, fo_Mod_209⟩ sh_401 (by decide) ?_
  refine Wp.lI h (fun x1 h => ?_)
  refine g_istore_n (pc1 := 5) (lv' := [(0, .ref 401), (1, .int x1)]) d_Mod_knownFood_4 rfl rfl (by decide) [1, 0] rfl ?_
  refine g_aload_n (pc1 := 6) d_Mod_knownFood_5 rfl 0 rfl ?_
  refine g_iconst (pc1 := 7) (v := 1) d_Mod_knownFood_6 rfl (by decide) ?_
  refine g_callV0 (pc1 := 10) (As := [.int 1]) (rest := []) d_Mod_knownFood_7 rfl mo_Mod_281 mi_Mod_must mv_Mod_must rfl sh_401 (by decide) (by decide) rfl rfl (Nat.le_of_ble_eq_true rfl) ?_
  obtain ⟨M3, hq2, h⟩ := bnd h
  refine f_Mod_must hld  hq2 ?_
  dsimp only [psh]
  refine g_aload_n (pc1 := 11) d_Mod_knownFood_10 rfl 0 rfl ?_
  refine g_geti (pc1 := 14) d_Mod_knownFood_11 rfl ⟨_, fo_Mod_206⟩ sh_401 (by decide) ?_
  refine g_if_le (pc1 := 17) (tgt := 19) d_Mod_knownFood_14 (by decide) rfl (fun c4 => ?_) (fun c4 => ?_)
  · replace h := itp h c4
    refine g_iconst (pc1 := 20) (v := 0) d_Mod_knownFood_19 rfl (by decide) ?_
    refine g_istore_n (pc1 := 21) (lv' := [(0, .ref 401), (1, .int x1), (2, .int 0)]) d_Mod_knownFood_20 rfl rfl (by decide) [1, 2, 0] rfl ?_
    exact h_Mod_knownFood_21 hld  hQ  _ 0 h
  · replace h := itn h c4
    refine g_iconst (pc1 := 18) (v := (-1)) d_Mod_knownFood_17 rfl (by decide) ?_
    refine g_ireturn (Or.inl rfl) d_Mod_knownFood_18 rfl ?_
    cases h; exact hQ

def J_Mod_named_49 (K12 : Int32 → gM → Option (Int32 × gM)) (v1 : Int32) (v2 : Int32) (M : gM) (L : gL) : Option (Int32 × gM) :=
  nmI (v2 + 1) (fun x9 => K12 x9 M)
set_option maxHeartbeats 4000000 in
set_option maxRecDepth 20000 in
theorem j_Mod_named_49 {l : Launch} {ld : Nat} {Q : Option Value → gM → gL → gR → Prop} (hld : isLa ld)   {q : Int32 × gM} {M : gM} {L : gL} (hQ : Q (some (.int q.1)) q.2 L (rf ld)) {K12 : Int32 → gM → Option (Int32 × gM)} {v1 : Int32} {v2 : Int32} (hK12 : ∀ (w2 : Int32) (M : gM), K12 w2 M = some q → Wp l y_Mod_named (0, 0, 447) 447 0 0 12 [(0, .ref 401), (1, .int v1), (2, .int w2)] [] M L (rf ld) Q) (h : J_Mod_named_49 K12 v1 v2 M L = some q) : Wp l y_Mod_named (0, 0, 447) 447 0 0 49 [(0, .ref 401), (1, .int v1), (2, .int v2)] [] M L (rf ld) Q := by
  unfold J_Mod_named_49 at h
  obtain ⟨x9, ex9, h⟩ := ltI h
  refine g_iinc (pc1 := 52) (v := x9) (lv' := [(0, .ref 401), (1, .int v1), (2, .int x9)]) d_Mod_named_49 rfl 2 rfl (by rw [ex9]; rfl) (by decide) [1, 2, 0] rfl ?_
  refine g_goto (tgt := 12) d_Mod_named_52 (by decide) ?_
  exact hK12 x9 M h
def B_Mod_named_12 (v1 : Int32) (L : gL) (K12 : Int32 → gM → Option (Int32 × gM)) : Int32 → gM → Option (Int32 × gM) := fun v2 M =>
  (if (M 401 20) ≤ v2 then some (v1, M) else (if (M 401 13) = 0 then (if (v2 : Int32) < 0 ∨ 21 ≤ (v2 : Int32).toNatClampNeg then none else (if (v1 : Int32) < 0 ∨ 403 ≤ (v1 : Int32).toNatClampNeg then none else (if (lg_cmp (L 409 (v2 : Int32).toNatClampNeg) (L 407 (v1 : Int32).toNatClampNeg)) = 0 then bI (F_Mod_wrong 3 v1 M) (fun M11 => J_Mod_named_49 K12 v1 v2 M11 L) else J_Mod_named_49 K12 v1 v2 M L))) else some (v1, M)))
def H_Mod_named_12 (v1 : Int32) (L : gL) : Nat → Int32 → gM → Option (Int32 × gM) := lpK (B_Mod_named_12 v1 L) (fun _ _ => none)
set_option maxHeartbeats 4000000 in
set_option maxRecDepth 20000 in
theorem h_Mod_named_12 {l : Launch} {ld : Nat} {Q : Option Value → gM → gL → gR → Prop} (hld : isLa ld)   {q : Int32 × gM} {L : gL} (hQ : Q (some (.int q.1)) q.2 L (rf ld))  {v1 : Int32}  : ∀ (f : Nat) (v2 : Int32) (M : gM), H_Mod_named_12 v1 L f v2 M = some q → Wp l y_Mod_named (0, 0, 447) 447 0 0 12 [(0, .ref 401), (1, .int v1), (2, .int v2)] [] M L (rf ld) Q := by
  intro f
  induction f with
  | zero => intro v2 M h; cases h
  | succ f hK12 =>
    intro v2 M h
    replace h : B_Mod_named_12 v1 L (H_Mod_named_12 v1 L f) v2 M = some q := h
    unfold B_Mod_named_12 at h
    refine g_iload_n (pc1 := 13) d_Mod_named_12 rfl 2 rfl ?_
    refine g_aload_n (pc1 := 14) d_Mod_named_13 rfl 0 rfl ?_
    refine g_geti (pc1 := 17) d_Mod_named_14 rfl ⟨_, fo_Mod_242⟩ sh_401 (by decide) ?_
    refine g_icmp_ge (pc1 := 20) (tgt := 55) d_Mod_named_17 (by decide) rfl (fun c4 => ?_) (fun c4 => ?_)
    · replace h := itp h c4
      refine g_iload_n (pc1 := 56) d_Mod_named_55 rfl 1 rfl ?_
      refine g_ireturn (Or.inl rfl) d_Mod_named_56 rfl ?_
      cases h; exact hQ
    · replace h := itn h c4
      refine g_aload_n (pc1 := 21) d_Mod_named_20 rfl 0 rfl ?_
      refine g_geti (pc1 := 24) d_Mod_named_21 rfl ⟨_, fo_Mod_206⟩ sh_401 (by decide) ?_
      refine g_if_ne (pc1 := 27) (tgt := 55) d_Mod_named_24 (by decide) rfl (fun c5 => ?_) (fun c5 => ?_)
      · replace h := itn h c5
        refine g_iload_n (pc1 := 56) d_Mod_named_55 rfl 1 rfl ?_
        refine g_ireturn (Or.inl rfl) d_Mod_named_56 rfl ?_
        cases h; exact hQ
      · replace h := itp h c5
        refine g_aload_n (pc1 := 28) d_Mod_named_27 rfl 0 rfl ?_
        refine g_getr (pc1 := 31) d_Mod_named_28 rfl ⟨_, fo_Mod_40⟩ sh_401 (by decide) (rf_401_21 ld) ?_
        refine g_iload_n (pc1 := 32) d_Mod_named_31 rfl 2 rfl ?_
        obtain ⟨g6, h⟩ := gdn h
        refine g_lald (pc1 := 33) d_Mod_named_32 rfl sh_409 (by decide) g6 ?_
        refine g_aload_n (pc1 := 34) d_Mod_named_33 rfl 0 rfl ?_
        refine g_getr (pc1 := 37) d_Mod_named_34 rfl ⟨_, fo_Mod_30⟩ sh_401 (by decide) (rf_401_8 ld) ?_
        refine g_iload_n (pc1 := 38) d_Mod_named_37 rfl 1 rfl ?_
        obtain ⟨g7, h⟩ := gdn h
        refine g_lald (pc1 := 39) d_Mod_named_38 rfl sh_407 (by decide) g7 ?_
        refine g_lcmp (pc1 := 40) d_Mod_named_39 rfl ?_
        refine g_if_ne (pc1 := 43) (tgt := 49) d_Mod_named_40 (by decide) rfl (fun c8 => ?_) (fun c8 => ?_)
        · replace h := itn h c8
          exact j_Mod_named_49 hld  hQ hK12 h
        · replace h := itp h c8
          refine g_aload_n (pc1 := 44) d_Mod_named_43 rfl 0 rfl ?_
          refine g_iconst (pc1 := 45) (v := 3) d_Mod_named_44 rfl (by decide) ?_
          refine g_iload_n (pc1 := 46) d_Mod_named_45 rfl 1 rfl ?_
          refine g_callV0 (pc1 := 49) (As := [.int 3, .int v1]) (rest := []) d_Mod_named_46 rfl mo_Mod_287 mi_Mod_wrong mv_Mod_wrong rfl sh_401 (by decide) (by decide) rfl rfl (Nat.le_of_ble_eq_true rfl) ?_
          obtain ⟨M11, hq10, h⟩ := bnd h
          refine f_Mod_wrong hld  hq10 ?_
          dsimp only [psh]
          exact j_Mod_named_49 hld  hQ hK12 h
def F_Mod_named (M : gM) (L : gL) : Option (Int32 × gM) :=
  nmI (M 401 11) (fun x1 => bI (F_Mod_must 1 M) (fun M3 => H_Mod_named_12 x1 L FU 0 M3))
set_option maxHeartbeats 4000000 in
set_option maxRecDepth 20000 in
theorem f_Mod_named {l : Launch} {ld : Nat} {M : gM} {L : gL} {Q : Option Value → gM → gL → gR → Prop} (hld : isLa ld)   {q : Int32 × gM} (h : F_Mod_named M L = some q) (hQ : Q (some (.int q.1)) q.2 L (rf ld)) : Tm l y_Mod_named (0, 0, 447) 447 [.ref 401] M L (rf ld) Q := by
  refine Tm.of (by decide) (Nat.le_of_ble_eq_true rfl) ?_
  show Wp l y_Mod_named (0, 0, 447) 447 0 0 0 [(0, .ref 401)] [] M L (rf ld) Q
  unfold F_Mod_named at h
  refine g_aload_n (pc1 := 1) d_Mod_named_0 rfl 0 rfl ?_
  refine g_geti (pc1 := 4) d_Mod_named_1 rfl ⟨_, fo_Mod_209⟩ sh_401 (by decide) ?_
  refine Wp.lI h (fun x1 h => ?_)
  refine g_istore_n (pc1 := 5) (lv' := [(0, .ref 401), (1, .int x1)]) d_Mod_named_4 rfl rfl (by decide) [1, 0] rfl ?_
  refine g_aload_n (pc1 := 6) d_Mod_named_5 rfl 0 rfl ?_
  refine g_iconst (pc1 := 7) (v := 1) d_Mod_named_6 rfl (by decide) ?_
  refine g_callV0 (pc1 := 10) (As := [.int 1]) (rest := []) d_Mod_named_7 rfl mo_Mod_281 mi_Mod_must mv_Mod_must rfl sh_401 (by decide) (by decide) rfl rfl (Nat.le_of_ble_eq_true rfl) ?_
  obtain ⟨M3, hq2, h⟩ := bnd h
  refine f_Mod_must hld  hq2 ?_
  dsimp only [psh]
  refine g_iconst (pc1 := 11) (v := 0) d_Mod_named_10 rfl (by decide) ?_
  refine g_istore_n (pc1 := 12) (lv' := [(0, .ref 401), (1, .int x1), (2, .int 0)]) d_Mod_named_11 rfl rfl (by decide) [1, 2, 0] rfl ?_
  exact h_Mod_named_12 hld  hQ  _ 0 M3 h

def F_Mod_boundNow (p1 : Int32) (p2 : Int32) (M : gM) : Option (Int32 × gM) :=
  (if ((15 + p1) : Int32) < 0 ∨ 38 ≤ ((15 + p1) : Int32).toNatClampNeg then none else (if 0 ≤ (M 437 ((15 + p1) : Int32).toNatClampNeg) then (if (((19 + (3 * p1)) + p2) : Int32) < 0 ∨ 38 ≤ (((19 + (3 * p1)) + p2) : Int32).toNatClampNeg then none else (if ((15 + p1) : Int32) < 0 ∨ 38 ≤ ((15 + p1) : Int32).toNatClampNeg then none else bI2 (F_Mod_boundBy p1 p2 (M 437 (((19 + (3 * p1)) + p2) : Int32).toNatClampNeg) ((M 437 35) - (M 437 ((15 + p1) : Int32).toNatClampNeg)) M) (fun r6 M7 => some (r6, M7)))) else some (0, M)))
set_option maxHeartbeats 4000000 in
set_option maxRecDepth 20000 in
theorem f_Mod_boundNow {l : Launch} {ld : Nat} {M : gM} {L : gL} {Q : Option Value → gM → gL → gR → Prop} (hld : isLa ld) {p1 : Int32} {p2 : Int32}  {q : Int32 × gM} (h : F_Mod_boundNow p1 p2 M = some q) (hQ : Q (some (.int q.1)) q.2 L (rf ld)) : Tm l y_Mod_boundNow (0, 0, 447) 447 [.ref 401, .int p1, .int p2] M L (rf ld) Q := by
  refine Tm.of (by decide) (Nat.le_of_ble_eq_true rfl) ?_
  show Wp l y_Mod_boundNow (0, 0, 447) 447 0 0 0 [(0, .ref 401), (1, .int p1), (2, .int p2)] [] M L (rf ld) Q
  unfold F_Mod_boundNow at h
  refine g_aload_n (pc1 := 1) d_Mod_boundNow_0 rfl 0 rfl ?_
  refine g_getr (pc1 := 4) d_Mod_boundNow_1 rfl ⟨_, fo_Mod_125⟩ sh_401 (by decide) (rf_401_53 ld) ?_
  refine g_bipush (pc1 := 6) (v := 15) d_Mod_boundNow_4 rfl (by decide) ?_
  refine g_iload_n (pc1 := 7) d_Mod_boundNow_6 rfl 1 rfl ?_
  refine g_iadd (pc1 := 8) d_Mod_boundNow_7 rfl ?_
  obtain ⟨g1, h⟩ := gdn h
  refine g_iald (pc1 := 9) d_Mod_boundNow_8 rfl sh_437 (by decide) g1 ?_
  refine g_if_ge (pc1 := 12) (tgt := 16) d_Mod_boundNow_9 (by decide) rfl (fun c2 => ?_) (fun c2 => ?_)
  · replace h := itp h c2
    refine g_aload_n (pc1 := 17) d_Mod_boundNow_16 rfl 0 rfl ?_
    refine g_iload_n (pc1 := 18) d_Mod_boundNow_17 rfl 1 rfl ?_
    refine g_iload_n (pc1 := 19) d_Mod_boundNow_18 rfl 2 rfl ?_
    refine g_aload_n (pc1 := 20) d_Mod_boundNow_19 rfl 0 rfl ?_
    refine g_getr (pc1 := 23) d_Mod_boundNow_20 rfl ⟨_, fo_Mod_125⟩ sh_401 (by decide) (rf_401_53 ld) ?_
    refine g_bipush (pc1 := 25) (v := 19) d_Mod_boundNow_23 rfl (by decide) ?_
    refine g_iconst (pc1 := 26) (v := 3) d_Mod_boundNow_25 rfl (by decide) ?_
    refine g_iload_n (pc1 := 27) d_Mod_boundNow_26 rfl 1 rfl ?_
    refine g_imul (pc1 := 28) d_Mod_boundNow_27 rfl ?_
    refine g_iadd (pc1 := 29) d_Mod_boundNow_28 rfl ?_
    refine g_iload_n (pc1 := 30) d_Mod_boundNow_29 rfl 2 rfl ?_
    refine g_iadd (pc1 := 31) d_Mod_boundNow_30 rfl ?_
    obtain ⟨g3, h⟩ := gdn h
    refine g_iald (pc1 := 32) d_Mod_boundNow_31 rfl sh_437 (by decide) g3 ?_
    refine g_aload_n (pc1 := 33) d_Mod_boundNow_32 rfl 0 rfl ?_
    refine g_getr (pc1 := 36) d_Mod_boundNow_33 rfl ⟨_, fo_Mod_125⟩ sh_401 (by decide) (rf_401_53 ld) ?_
    refine g_bipush (pc1 := 38) (v := 35) d_Mod_boundNow_36 rfl (by decide) ?_
    refine g_iald (pc1 := 39) d_Mod_boundNow_38 rfl sh_437 (by decide) (vin_lit (x := 35) (by decide)) ?_
    refine Wp.vali (y := (M 437 35)) (congrArg (M 437) (by decide)) ?_
    refine g_aload_n (pc1 := 40) d_Mod_boundNow_39 rfl 0 rfl ?_
    refine g_getr (pc1 := 43) d_Mod_boundNow_40 rfl ⟨_, fo_Mod_125⟩ sh_401 (by decide) (rf_401_53 ld) ?_
    refine g_bipush (pc1 := 45) (v := 15) d_Mod_boundNow_43 rfl (by decide) ?_
    refine g_iload_n (pc1 := 46) d_Mod_boundNow_45 rfl 1 rfl ?_
    refine g_iadd (pc1 := 47) d_Mod_boundNow_46 rfl ?_
    obtain ⟨g4, h⟩ := gdn h
    refine g_iald (pc1 := 48) d_Mod_boundNow_47 rfl sh_437 (by decide) g4 ?_
    refine g_isub (pc1 := 49) d_Mod_boundNow_48 rfl ?_
    refine g_callV0 (pc1 := 52) (As := [.int p1, .int p2, .int (M 437 (((19 + (3 * p1)) + p2) : Int32).toNatClampNeg), .int ((M 437 35) - (M 437 ((15 + p1) : Int32).toNatClampNeg))]) (rest := []) d_Mod_boundNow_49 rfl mo_Mod_346 mi_Mod_boundBy mv_Mod_boundBy rfl sh_401 (by decide) (by decide) rfl rfl (Nat.le_of_ble_eq_true rfl) ?_
    obtain ⟨r6, M7, hq5, h⟩ := bnd2 h
    refine f_Mod_boundBy hld  hq5 ?_
    dsimp only [psh]
    refine g_ireturn (Or.inl rfl) d_Mod_boundNow_52 rfl ?_
    cases h; exact hQ
  · replace h := itn h c2
    refine g_iconst (pc1 := 13) (v := 0) d_Mod_boundNow_12 rfl (by decide) ?_
    refine g_goto (tgt := 52) d_Mod_boundNow_13 (by decide) ?_
    refine g_ireturn (Or.inl rfl) d_Mod_boundNow_52 rfl ?_
    cases h; exact hQ

def J_Mod_cooks_227 (v1 : Int32) (v3 : Int32) (M : gM) : Option (Int32 × gM) :=
  (if ((6 + v1) : Int32) < 0 ∨ 38 ≤ ((6 + v1) : Int32).toNatClampNeg then none else (if ((6 + v1) : Int32) < 0 ∨ 38 ≤ ((6 + v1) : Int32).toNatClampNeg then none else nmM (uM M 437 ((6 + v1) : Int32).toNatClampNeg ((M 437 ((6 + v1) : Int32).toNatClampNeg) + 1)) (fun M28 => nmM (uM M28 437 37 ((M28 437 37) + 1)) (fun M29 => some (v3, M29)))))
set_option maxHeartbeats 4000000 in
set_option maxRecDepth 20000 in
theorem j_Mod_cooks_227 {l : Launch} {ld : Nat} {Q : Option Value → gM → gL → gR → Prop} (hld : isLa ld)   {q : Int32 × gM} {M : gM} {L : gL} (hQ : Q (some (.int q.1)) q.2 L (rf ld))  {v1 : Int32} {v3 : Int32}  (h : J_Mod_cooks_227 v1 v3 M = some q) : Wp l y_Mod_cooks (0, 0, 447) 447 0 0 227 [(0, .ref 401), (1, .int v1), (3, .int v3)] [] M L (rf ld) Q := by
  unfold J_Mod_cooks_227 at h
  refine g_aload_n (pc1 := 228) d_Mod_cooks_227 rfl 0 rfl ?_
  refine g_getr (pc1 := 231) d_Mod_cooks_228 rfl ⟨_, fo_Mod_125⟩ sh_401 (by decide) (rf_401_53 ld) ?_
  refine g_bipush (pc1 := 233) (v := 6) d_Mod_cooks_231 rfl (by decide) ?_
  refine g_iload_n (pc1 := 234) d_Mod_cooks_233 rfl 1 rfl ?_
  refine g_iadd (pc1 := 235) d_Mod_cooks_234 rfl ?_
  refine g_dup2 (pc1 := 236) d_Mod_cooks_235 rfl rfl rfl ?_
  obtain ⟨g26, h⟩ := gdn h
  refine g_iald (pc1 := 237) d_Mod_cooks_236 rfl sh_437 (by decide) g26 ?_
  refine g_iconst (pc1 := 238) (v := 1) d_Mod_cooks_237 rfl (by decide) ?_
  refine g_iadd (pc1 := 239) d_Mod_cooks_238 rfl ?_
  obtain ⟨g27, h⟩ := gdn h
  refine g_iast (pc1 := 240) d_Mod_cooks_239 rfl sh_437 (by decide) g27 ?_
  refine Wp.lM h (fun M28 h => ?_)
  refine g_aload_n (pc1 := 241) d_Mod_cooks_240 rfl 0 rfl ?_
  refine g_getr (pc1 := 244) d_Mod_cooks_241 rfl ⟨_, fo_Mod_125⟩ sh_401 (by decide) (rf_401_53 ld) ?_
  refine g_bipush (pc1 := 246) (v := 37) d_Mod_cooks_244 rfl (by decide) ?_
  refine g_dup2 (pc1 := 247) d_Mod_cooks_246 rfl rfl rfl ?_
  refine g_iald (pc1 := 248) d_Mod_cooks_247 rfl sh_437 (by decide) (vin_lit (x := 37) (by decide)) ?_
  refine Wp.vali (y := (M28 437 37)) (congrArg (M28 437) (by decide)) ?_
  refine g_iconst (pc1 := 249) (v := 1) d_Mod_cooks_248 rfl (by decide) ?_
  refine g_iadd (pc1 := 250) d_Mod_cooks_249 rfl ?_
  refine g_iast (pc1 := 251) d_Mod_cooks_250 rfl sh_437 (by decide) (vin_lit (x := 37) (by decide)) ?_
  refine Wp.eqM (M' := uM M28 437 37 ((M28 437 37) + 1)) (congrArg (fun z => uM M28 437 z ((M28 437 37) + 1)) (by decide)) ?_
  refine Wp.lM h (fun M29 h => ?_)
  refine g_iload_n (pc1 := 252) d_Mod_cooks_251 rfl 2 rfl ?_
  refine g_ireturn (Or.inl rfl) d_Mod_cooks_252 rfl ?_
  cases h; exact hQ
def B_Mod_cooks_198 (v1 : Int32) (v2 : Int32) (v3 : Int32) (K198 : Int32 → gM → Option (Int32 × gM)) : Int32 → gM → Option (Int32 × gM) := fun v4 M =>
  (if 3 ≤ v4 then J_Mod_cooks_227 v1 v3 M else bI2 (F_Mod_forceBy v4 v2 M) (fun r31 M32 => (if ((12 + v4) : Int32) < 0 ∨ 38 ≤ ((12 + v4) : Int32).toNatClampNeg then none else nmM (uM M32 437 ((12 + v4) : Int32).toNatClampNeg r31) (fun M34 => nmI (v4 + 1) (fun x35 => K198 x35 M34)))))
def H_Mod_cooks_198 (v1 : Int32) (v2 : Int32) (v3 : Int32) : Nat → Int32 → gM → Option (Int32 × gM) := lpK (B_Mod_cooks_198 v1 v2 v3) (fun _ _ => none)
set_option maxHeartbeats 4000000 in
set_option maxRecDepth 20000 in
theorem h_Mod_cooks_198 {l : Launch} {ld : Nat} {Q : Option Value → gM → gL → gR → Prop} (hld : isLa ld)   {q : Int32 × gM} {L : gL} (hQ : Q (some (.int q.1)) q.2 L (rf ld))  {v1 : Int32} {v2 : Int32} {v3 : Int32}  : ∀ (f : Nat) (v4 : Int32) (M : gM), H_Mod_cooks_198 v1 v2 v3 f v4 M = some q → Wp l y_Mod_cooks (0, 0, 447) 447 0 0 198 [(0, .ref 401), (1, .int v1), (2, .int v2), (3, .int v3), (4, .int v4)] [] M L (rf ld) Q := by
  intro f
  induction f with
  | zero => intro v4 M h; cases h
  | succ f hK198 =>
    intro v4 M h
    replace h : B_Mod_cooks_198 v1 v2 v3 (H_Mod_cooks_198 v1 v2 v3 f) v4 M = some q := h
    unfold B_Mod_cooks_198 at h
    refine g_iload (pc1 := 200) d_Mod_cooks_198 rfl 4 rfl ?_
    refine g_iconst (pc1 := 201) (v := 3) d_Mod_cooks_200 rfl (by decide) ?_
    refine g_icmp_ge (pc1 := 204) (tgt := 227) d_Mod_cooks_201 (by decide) rfl (fun c25 => ?_) (fun c25 => ?_)
    · replace h := itp h c25
      refine Wp.loc (lv' := [(0, .ref 401), (1, .int v1), (3, .int v3)]) [0, 1, 3] rfl ?_
      exact j_Mod_cooks_227 hld  hQ  h
    · replace h := itn h c25
      refine g_aload_n (pc1 := 205) d_Mod_cooks_204 rfl 0 rfl ?_
      refine g_getr (pc1 := 208) d_Mod_cooks_205 rfl ⟨_, fo_Mod_125⟩ sh_401 (by decide) (rf_401_53 ld) ?_
      refine g_bipush (pc1 := 210) (v := 12) d_Mod_cooks_208 rfl (by decide) ?_
      refine g_iload (pc1 := 212) d_Mod_cooks_210 rfl 4 rfl ?_
      refine g_iadd (pc1 := 213) d_Mod_cooks_212 rfl ?_
      refine g_aload_n (pc1 := 214) d_Mod_cooks_213 rfl 0 rfl ?_
      refine g_iload (pc1 := 216) d_Mod_cooks_214 rfl 4 rfl ?_
      refine g_iload_n (pc1 := 217) d_Mod_cooks_216 rfl 2 rfl ?_
      refine g_callV0 (pc1 := 220) (As := [.int v4, .int v2]) (rest := [.int (12 + v4), .ref 437]) d_Mod_cooks_217 rfl mo_Mod_359 mi_Mod_forceBy mv_Mod_forceBy rfl sh_401 (by decide) (by decide) rfl rfl (Nat.le_of_ble_eq_true rfl) ?_
      obtain ⟨r31, M32, hq30, h⟩ := bnd2 h
      refine f_Mod_forceBy hld  hq30 ?_
      dsimp only [psh]
      obtain ⟨g33, h⟩ := gdn h
      refine g_iast (pc1 := 221) d_Mod_cooks_220 rfl sh_437 (by decide) g33 ?_
      refine Wp.lM h (fun M34 h => ?_)
      obtain ⟨x35, ex35, h⟩ := ltI h
      refine g_iinc (pc1 := 224) (v := x35) (lv' := [(0, .ref 401), (1, .int v1), (2, .int v2), (3, .int v3), (4, .int x35)]) d_Mod_cooks_221 rfl 4 rfl (by rw [ex35]; rfl) (by decide) [1, 2, 3, 4, 0] rfl ?_
      refine g_goto (tgt := 198) d_Mod_cooks_224 (by decide) ?_
      exact hK198 x35 M34 h
def J_Mod_cooks_187 (v1 : Int32) (v2 : Int32) (v3 : Int32) (M : gM) : Option (Int32 × gM) :=
  nmM (uM M 437 11 v1) (fun M24 => H_Mod_cooks_198 v1 v2 v3 FU 0 M24)
set_option maxHeartbeats 4000000 in
set_option maxRecDepth 20000 in
theorem j_Mod_cooks_187 {l : Launch} {ld : Nat} {Q : Option Value → gM → gL → gR → Prop} (hld : isLa ld)   {q : Int32 × gM} {M : gM} {L : gL} (hQ : Q (some (.int q.1)) q.2 L (rf ld))  {v1 : Int32} {v2 : Int32} {v3 : Int32}  (h : J_Mod_cooks_187 v1 v2 v3 M = some q) : Wp l y_Mod_cooks (0, 0, 447) 447 0 0 187 [(0, .ref 401), (1, .int v1), (2, .int v2), (3, .int v3)] [] M L (rf ld) Q := by
  unfold J_Mod_cooks_187 at h
  refine g_aload_n (pc1 := 188) d_Mod_cooks_187 rfl 0 rfl ?_
  refine g_getr (pc1 := 191) d_Mod_cooks_188 rfl ⟨_, fo_Mod_125⟩ sh_401 (by decide) (rf_401_53 ld) ?_
  refine g_bipush (pc1 := 193) (v := 11) d_Mod_cooks_191 rfl (by decide) ?_
  refine g_iload_n (pc1 := 194) d_Mod_cooks_193 rfl 1 rfl ?_
  refine g_iast (pc1 := 195) d_Mod_cooks_194 rfl sh_437 (by decide) (vin_lit (x := 11) (by decide)) ?_
  refine Wp.eqM (M' := uM M 437 11 v1) (congrArg (fun z => uM M 437 z v1) (by decide)) ?_
  refine Wp.lM h (fun M24 h => ?_)
  refine g_iconst (pc1 := 196) (v := 0) d_Mod_cooks_195 rfl (by decide) ?_
  refine g_istore (pc1 := 198) (lv' := [(0, .ref 401), (1, .int v1), (2, .int v2), (3, .int v3), (4, .int 0)]) d_Mod_cooks_196 rfl (by decide) [1, 2, 3, 4, 0] rfl ?_
  exact h_Mod_cooks_198 hld  hQ  _ 0 M24 h
def J_Mod_cooks_163 (v1 : Int32) (v2 : Int32) (v3 : Int32) (M : gM) : Option (Int32 × gM) :=
  (if v3 < 0 then J_Mod_cooks_187 v1 v2 v3 M else (if (v3 : Int32) < 0 ∨ 38 ≤ (v3 : Int32).toNatClampNeg then none else (if (v3 : Int32) < 0 ∨ 38 ≤ (v3 : Int32).toNatClampNeg then none else nmM (uM M 437 (v3 : Int32).toNatClampNeg ((M 437 (v3 : Int32).toNatClampNeg) - 1)) (fun M38 => (if (v3 : Int32) < 0 ∨ 6 ≤ (v3 : Int32).toNatClampNeg then none else (if (v3 : Int32) < 0 ∨ 6 ≤ (v3 : Int32).toNatClampNeg then none else nmM (uM M38 438 (v3 : Int32).toNatClampNeg ((M38 438 (v3 : Int32).toNatClampNeg) + 1)) (fun M41 => J_Mod_cooks_187 v1 v2 v3 M41)))))))
set_option maxHeartbeats 4000000 in
set_option maxRecDepth 20000 in
theorem j_Mod_cooks_163 {l : Launch} {ld : Nat} {Q : Option Value → gM → gL → gR → Prop} (hld : isLa ld)   {q : Int32 × gM} {M : gM} {L : gL} (hQ : Q (some (.int q.1)) q.2 L (rf ld))  {v1 : Int32} {v2 : Int32} {v3 : Int32}  (h : J_Mod_cooks_163 v1 v2 v3 M = some q) : Wp l y_Mod_cooks (0, 0, 447) 447 0 0 163 [(0, .ref 401), (1, .int v1), (2, .int v2), (3, .int v3)] [] M L (rf ld) Q := by
  unfold J_Mod_cooks_163 at h
  refine g_iload_n (pc1 := 164) d_Mod_cooks_163 rfl 3 rfl ?_
  refine g_if_lt (pc1 := 167) (tgt := 187) d_Mod_cooks_164 (by decide) rfl (fun c23 => ?_) (fun c23 => ?_)
  · replace h := itp h c23
    exact j_Mod_cooks_187 hld  hQ  h
  · replace h := itn h c23
    refine g_aload_n (pc1 := 168) d_Mod_cooks_167 rfl 0 rfl ?_
    refine g_getr (pc1 := 171) d_Mod_cooks_168 rfl ⟨_, fo_Mod_125⟩ sh_401 (by decide) (rf_401_53 ld) ?_
    refine g_iload_n (pc1 := 172) d_Mod_cooks_171 rfl 3 rfl ?_
    refine g_dup2 (pc1 := 173) d_Mod_cooks_172 rfl rfl rfl ?_
    obtain ⟨g36, h⟩ := gdn h
    refine g_iald (pc1 := 174) d_Mod_cooks_173 rfl sh_437 (by decide) g36 ?_
    refine g_iconst (pc1 := 175) (v := 1) d_Mod_cooks_174 rfl (by decide) ?_
    refine g_isub (pc1 := 176) d_Mod_cooks_175 rfl ?_
    obtain ⟨g37, h⟩ := gdn h
    refine g_iast (pc1 := 177) d_Mod_cooks_176 rfl sh_437 (by decide) g37 ?_
    refine Wp.lM h (fun M38 h => ?_)
    refine g_aload_n (pc1 := 178) d_Mod_cooks_177 rfl 0 rfl ?_
    refine g_getr (pc1 := 181) d_Mod_cooks_178 rfl ⟨_, fo_Mod_128⟩ sh_401 (by decide) (rf_401_55 ld) ?_
    refine g_iload_n (pc1 := 182) d_Mod_cooks_181 rfl 3 rfl ?_
    refine g_dup2 (pc1 := 183) d_Mod_cooks_182 rfl rfl rfl ?_
    obtain ⟨g39, h⟩ := gdn h
    refine g_iald (pc1 := 184) d_Mod_cooks_183 rfl sh_438 (by decide) g39 ?_
    refine g_iconst (pc1 := 185) (v := 1) d_Mod_cooks_184 rfl (by decide) ?_
    refine g_iadd (pc1 := 186) d_Mod_cooks_185 rfl ?_
    obtain ⟨g40, h⟩ := gdn h
    refine g_iast (pc1 := 187) d_Mod_cooks_186 rfl sh_438 (by decide) g40 ?_
    refine Wp.lM h (fun M41 h => ?_)
    exact j_Mod_cooks_187 hld  hQ  h
def J_Mod_cooks_147 (v1 : Int32) (v2 : Int32) (v3 : Int32) (M : gM) : Option (Int32 × gM) :=
  (if v3 < 0 then J_Mod_cooks_163 v1 v2 v3 M else (if (v3 : Int32) < 0 ∨ 38 ≤ (v3 : Int32).toNatClampNeg then none else (if (M 437 (v3 : Int32).toNatClampNeg) = 0 then J_Mod_cooks_163 v1 v2 (-2) M else J_Mod_cooks_163 v1 v2 v3 M)))
set_option maxHeartbeats 4000000 in
set_option maxRecDepth 20000 in
theorem j_Mod_cooks_147 {l : Launch} {ld : Nat} {Q : Option Value → gM → gL → gR → Prop} (hld : isLa ld)   {q : Int32 × gM} {M : gM} {L : gL} (hQ : Q (some (.int q.1)) q.2 L (rf ld))  {v1 : Int32} {v2 : Int32} {v3 : Int32}  (h : J_Mod_cooks_147 v1 v2 v3 M = some q) : Wp l y_Mod_cooks (0, 0, 447) 447 0 0 147 [(0, .ref 401), (1, .int v1), (2, .int v2), (3, .int v3)] [] M L (rf ld) Q := by
  unfold J_Mod_cooks_147 at h
  refine g_iload_n (pc1 := 148) d_Mod_cooks_147 rfl 3 rfl ?_
  refine g_if_lt (pc1 := 151) (tgt := 163) d_Mod_cooks_148 (by decide) rfl (fun c22 => ?_) (fun c22 => ?_)
  · replace h := itp h c22
    exact j_Mod_cooks_163 hld  hQ  h
  · replace h := itn h c22
    refine g_aload_n (pc1 := 152) d_Mod_cooks_151 rfl 0 rfl ?_
    refine g_getr (pc1 := 155) d_Mod_cooks_152 rfl ⟨_, fo_Mod_125⟩ sh_401 (by decide) (rf_401_53 ld) ?_
    refine g_iload_n (pc1 := 156) d_Mod_cooks_155 rfl 3 rfl ?_
    obtain ⟨g42, h⟩ := gdn h
    refine g_iald (pc1 := 157) d_Mod_cooks_156 rfl sh_437 (by decide) g42 ?_
    refine g_if_ne (pc1 := 160) (tgt := 163) d_Mod_cooks_157 (by decide) rfl (fun c43 => ?_) (fun c43 => ?_)
    · replace h := itn h c43
      exact j_Mod_cooks_163 hld  hQ  h
    · replace h := itp h c43
      refine g_bipush (pc1 := 162) (v := (-2)) d_Mod_cooks_160 rfl (by decide) ?_
      refine g_istore_n (pc1 := 163) (lv' := [(0, .ref 401), (1, .int v1), (2, .int v2), (3, .int (-2))]) d_Mod_cooks_162 rfl rfl (by decide) [1, 2, 3, 0] rfl ?_
      exact j_Mod_cooks_163 hld  hQ  h
def J_Mod_cooks_55 (v1 : Int32) (v2 : Int32) (M : gM) : Option (Int32 × gM) :=
  bI (F_Mod_potPrice M) (fun r8 => nmM (uM M 437 36 ((M 437 36) + r8)) (fun M9 => bI (F_Mod_looks M9) (fun M11 => nmM (uM M11 434 1 v2) (fun M12 => bI (F_Mod_potMany M12) (fun r14 => nmM (uM M12 434 3 r14) (fun M15 => bI (F_Mod_lotOf (8 * (M15 437 37)) 100 M15) (fun r17 => bI2 (F_Mod_asks 3 0 0 100 M15) (fun r19 M20 => (if r19 ≤ r17 then J_Mod_cooks_147 v1 v2 (-2) M20 else (if ((M20 401 18) : Int32) < 0 ∨ 2 ≤ ((M20 401 18) : Int32).toNatClampNeg then none else bI (F_Mod_lotOf ((8 * (M20 437 37)) + 1) (M20 411 ((M20 401 18) : Int32).toNatClampNeg) M20) (fun r46 => J_Mod_cooks_147 v1 v2 r46 M20)))))))))))
set_option maxHeartbeats 4000000 in
set_option maxRecDepth 20000 in
theorem j_Mod_cooks_55 {l : Launch} {ld : Nat} {Q : Option Value → gM → gL → gR → Prop} (hld : isLa ld)   {q : Int32 × gM} {M : gM} {L : gL} (hQ : Q (some (.int q.1)) q.2 L (rf ld))  {v1 : Int32} {v2 : Int32}  (h : J_Mod_cooks_55 v1 v2 M = some q) : Wp l y_Mod_cooks (0, 0, 447) 447 0 0 55 [(0, .ref 401), (1, .int v1), (2, .int v2)] [] M L (rf ld) Q := by
  unfold J_Mod_cooks_55 at h
  refine g_aload_n (pc1 := 56) d_Mod_cooks_55 rfl 0 rfl ?_
  refine g_getr (pc1 := 59) d_Mod_cooks_56 rfl ⟨_, fo_Mod_125⟩ sh_401 (by decide) (rf_401_53 ld) ?_
  refine g_bipush (pc1 := 61) (v := 36) d_Mod_cooks_59 rfl (by decide) ?_
  refine g_dup2 (pc1 := 62) d_Mod_cooks_61 rfl rfl rfl ?_
  refine g_iald (pc1 := 63) d_Mod_cooks_62 rfl sh_437 (by decide) (vin_lit (x := 36) (by decide)) ?_
  refine Wp.vali (y := (M 437 36)) (congrArg (M 437) (by decide)) ?_
  refine g_aload_n (pc1 := 64) d_Mod_cooks_63 rfl 0 rfl ?_
  refine g_callV0 (pc1 := 67) (As := []) (rest := [.int (M 437 36), .int 36, .ref 437]) d_Mod_cooks_64 rfl mo_Mod_362 mi_Mod_potPrice mv_Mod_potPrice rfl sh_401 (by decide) (by decide) rfl rfl (Nat.le_of_ble_eq_true rfl) ?_
  obtain ⟨r8, hq7, h⟩ := bnd h
  refine f_Mod_potPrice hld  hq7 ?_
  dsimp only [psh]
  refine g_iadd (pc1 := 68) d_Mod_cooks_67 rfl ?_
  refine g_iast (pc1 := 69) d_Mod_cooks_68 rfl sh_437 (by decide) (vin_lit (x := 36) (by decide)) ?_
  refine Wp.eqM (M' := uM M 437 36 ((M 437 36) + r8)) (congrArg (fun z => uM M 437 z ((M 437 36) + r8)) (by decide)) ?_
  refine Wp.lM h (fun M9 h => ?_)
  refine g_aload_n (pc1 := 70) d_Mod_cooks_69 rfl 0 rfl ?_
  refine g_callV0 (pc1 := 73) (As := []) (rest := []) d_Mod_cooks_70 rfl mo_Mod_336 mi_Mod_looks mv_Mod_looks rfl sh_401 (by decide) (by decide) rfl rfl (Nat.le_of_ble_eq_true rfl) ?_
  obtain ⟨M11, hq10, h⟩ := bnd h
  refine f_Mod_looks hld  hq10 ?_
  dsimp only [psh]
  refine g_aload_n (pc1 := 74) d_Mod_cooks_73 rfl 0 rfl ?_
  refine g_getr (pc1 := 77) d_Mod_cooks_74 rfl ⟨_, fo_Mod_116⟩ sh_401 (by decide) (rf_401_49 ld) ?_
  refine g_iconst (pc1 := 78) (v := 1) d_Mod_cooks_77 rfl (by decide) ?_
  refine g_iload_n (pc1 := 79) d_Mod_cooks_78 rfl 2 rfl ?_
  refine g_iast (pc1 := 80) d_Mod_cooks_79 rfl sh_434 (by decide) (vin_lit (x := 1) (by decide)) ?_
  refine Wp.eqM (M' := uM M11 434 1 v2) (congrArg (fun z => uM M11 434 z v2) (by decide)) ?_
  refine Wp.lM h (fun M12 h => ?_)
  refine g_aload_n (pc1 := 81) d_Mod_cooks_80 rfl 0 rfl ?_
  refine g_getr (pc1 := 84) d_Mod_cooks_81 rfl ⟨_, fo_Mod_116⟩ sh_401 (by decide) (rf_401_49 ld) ?_
  refine g_iconst (pc1 := 85) (v := 3) d_Mod_cooks_84 rfl (by decide) ?_
  refine g_aload_n (pc1 := 86) d_Mod_cooks_85 rfl 0 rfl ?_
  refine g_callV0 (pc1 := 89) (As := []) (rest := [.int 3, .ref 434]) d_Mod_cooks_86 rfl mo_Mod_339 mi_Mod_potMany mv_Mod_potMany rfl sh_401 (by decide) (by decide) rfl rfl (Nat.le_of_ble_eq_true rfl) ?_
  obtain ⟨r14, hq13, h⟩ := bnd h
  refine f_Mod_potMany hld  hq13 ?_
  dsimp only [psh]
  refine g_iast (pc1 := 90) d_Mod_cooks_89 rfl sh_434 (by decide) (vin_lit (x := 3) (by decide)) ?_
  refine Wp.eqM (M' := uM M12 434 3 r14) (congrArg (fun z => uM M12 434 z r14) (by decide)) ?_
  refine Wp.lM h (fun M15 h => ?_)
  refine g_bipush (pc1 := 92) (v := (-2)) d_Mod_cooks_90 rfl (by decide) ?_
  refine g_istore_n (pc1 := 93) (lv' := [(0, .ref 401), (1, .int v1), (2, .int v2), (3, .int (-2))]) d_Mod_cooks_92 rfl rfl (by decide) [1, 2, 3, 0] rfl ?_
  refine g_aload_n (pc1 := 94) d_Mod_cooks_93 rfl 0 rfl ?_
  refine g_bipush (pc1 := 96) (v := 8) d_Mod_cooks_94 rfl (by decide) ?_
  refine g_aload_n (pc1 := 97) d_Mod_cooks_96 rfl 0 rfl ?_
  refine g_getr (pc1 := 100) d_Mod_cooks_97 rfl ⟨_, fo_Mod_125⟩ sh_401 (by decide) (rf_401_53 ld) ?_
  refine g_bipush (pc1 := 102) (v := 37) d_Mod_cooks_100 rfl (by decide) ?_
  refine g_iald (pc1 := 103) d_Mod_cooks_102 rfl sh_437 (by decide) (vin_lit (x := 37) (by decide)) ?_
  refine Wp.vali (y := (M15 437 37)) (congrArg (M15 437) (by decide)) ?_
  refine g_imul (pc1 := 104) d_Mod_cooks_103 rfl ?_
  refine g_bipush (pc1 := 106) (v := 100) d_Mod_cooks_104 rfl (by decide) ?_
  refine g_callV0 (pc1 := 109) (As := [.int (8 * (M15 437 37)), .int 100]) (rest := []) d_Mod_cooks_106 rfl mo_Mod_365 mi_Mod_lotOf mv_Mod_lotOf rfl sh_401 (by decide) (by decide) rfl rfl (Nat.le_of_ble_eq_true rfl) ?_
  obtain ⟨r17, hq16, h⟩ := bnd h
  refine f_Mod_lotOf hld  hq16 ?_
  dsimp only [psh]
  refine g_aload_n (pc1 := 110) d_Mod_cooks_109 rfl 0 rfl ?_
  refine g_iconst (pc1 := 111) (v := 3) d_Mod_cooks_110 rfl (by decide) ?_
  refine g_iconst (pc1 := 112) (v := 0) d_Mod_cooks_111 rfl (by decide) ?_
  refine g_iconst (pc1 := 113) (v := 0) d_Mod_cooks_112 rfl (by decide) ?_
  refine g_bipush (pc1 := 115) (v := 100) d_Mod_cooks_113 rfl (by decide) ?_
  refine g_callV0 (pc1 := 118) (As := [.int 3, .int 0, .int 0, .int 100]) (rest := [.int r17]) d_Mod_cooks_115 rfl mo_Mod_342 mi_Mod_asks mv_Mod_asks rfl sh_401 (by decide) (by decide) rfl rfl (Nat.le_of_ble_eq_true rfl) ?_
  obtain ⟨r19, M20, hq18, h⟩ := bnd2 h
  refine f_Mod_asks hld  hq18 ?_
  dsimp only [psh]
  refine g_icmp_ge (pc1 := 121) (tgt := 147) d_Mod_cooks_118 (by decide) rfl (fun c21 => ?_) (fun c21 => ?_)
  · replace h := itp h c21
    exact j_Mod_cooks_147 hld  hQ  h
  · replace h := itn h c21
    refine g_aload_n (pc1 := 122) d_Mod_cooks_121 rfl 0 rfl ?_
    refine g_bipush (pc1 := 124) (v := 8) d_Mod_cooks_122 rfl (by decide) ?_
    refine g_aload_n (pc1 := 125) d_Mod_cooks_124 rfl 0 rfl ?_
    refine g_getr (pc1 := 128) d_Mod_cooks_125 rfl ⟨_, fo_Mod_125⟩ sh_401 (by decide) (rf_401_53 ld) ?_
    refine g_bipush (pc1 := 130) (v := 37) d_Mod_cooks_128 rfl (by decide) ?_
    refine g_iald (pc1 := 131) d_Mod_cooks_130 rfl sh_437 (by decide) (vin_lit (x := 37) (by decide)) ?_
    refine Wp.vali (y := (M20 437 37)) (congrArg (M20 437) (by decide)) ?_
    refine g_imul (pc1 := 132) d_Mod_cooks_131 rfl ?_
    refine g_iconst (pc1 := 133) (v := 1) d_Mod_cooks_132 rfl (by decide) ?_
    refine g_iadd (pc1 := 134) d_Mod_cooks_133 rfl ?_
    refine g_aload_n (pc1 := 135) d_Mod_cooks_134 rfl 0 rfl ?_
    refine g_getr (pc1 := 138) d_Mod_cooks_135 rfl ⟨_, fo_Mod_46⟩ sh_401 (by decide) (rf_401_23 ld) ?_
    refine g_aload_n (pc1 := 139) d_Mod_cooks_138 rfl 0 rfl ?_
    refine g_geti (pc1 := 142) d_Mod_cooks_139 rfl ⟨_, fo_Mod_236⟩ sh_401 (by decide) ?_
    obtain ⟨g44, h⟩ := gdn h
    refine g_iald (pc1 := 143) d_Mod_cooks_142 rfl sh_411 (by decide) g44 ?_
    refine g_callV0 (pc1 := 146) (As := [.int ((8 * (M20 437 37)) + 1), .int (M20 411 ((M20 401 18) : Int32).toNatClampNeg)]) (rest := []) d_Mod_cooks_143 rfl mo_Mod_365 mi_Mod_lotOf mv_Mod_lotOf rfl sh_401 (by decide) (by decide) rfl rfl (Nat.le_of_ble_eq_true rfl) ?_
    obtain ⟨r46, hq45, h⟩ := bnd h
    refine f_Mod_lotOf hld  hq45 ?_
    dsimp only [psh]
    refine g_istore_n (pc1 := 147) (lv' := [(0, .ref 401), (1, .int v1), (2, .int v2), (3, .int r46)]) d_Mod_cooks_146 rfl rfl (by decide) [1, 2, 3, 0] rfl ?_
    exact j_Mod_cooks_147 hld  hQ  h
def B_Mod_cooks_21 (v1 : Int32) (v2 : Int32) (K21 : Int32 → gM → Option (Int32 × gM)) : Int32 → gM → Option (Int32 × gM) := fun v3 M =>
  (if ((M 401 18) : Int32) < 0 ∨ 2 ≤ ((M 401 18) : Int32).toNatClampNeg then none else (if (M 411 ((M 401 18) : Int32).toNatClampNeg) ≤ v3 then J_Mod_cooks_55 v1 v2 M else (if (v3 : Int32) < 0 ∨ 38 ≤ (v3 : Int32).toNatClampNeg then none else (if (v3 : Int32) < 0 ∨ 6 ≤ (v3 : Int32).toNatClampNeg then none else (if (v3 : Int32) < 0 ∨ 38 ≤ (v3 : Int32).toNatClampNeg then none else nmM (uM M 437 (v3 : Int32).toNatClampNeg ((M 437 (v3 : Int32).toNatClampNeg) - (M 438 (v3 : Int32).toNatClampNeg))) (fun M50 => nmI (v3 + 1) (fun x51 => K21 x51 M50)))))))
def H_Mod_cooks_21 (v1 : Int32) (v2 : Int32) : Nat → Int32 → gM → Option (Int32 × gM) := lpK (B_Mod_cooks_21 v1 v2) (fun _ _ => none)
set_option maxHeartbeats 4000000 in
set_option maxRecDepth 20000 in
theorem h_Mod_cooks_21 {l : Launch} {ld : Nat} {Q : Option Value → gM → gL → gR → Prop} (hld : isLa ld)   {q : Int32 × gM} {L : gL} (hQ : Q (some (.int q.1)) q.2 L (rf ld))  {v1 : Int32} {v2 : Int32}  : ∀ (f : Nat) (v3 : Int32) (M : gM), H_Mod_cooks_21 v1 v2 f v3 M = some q → Wp l y_Mod_cooks (0, 0, 447) 447 0 0 21 [(0, .ref 401), (1, .int v1), (2, .int v2), (3, .int v3)] [] M L (rf ld) Q := by
  intro f
  induction f with
  | zero => intro v3 M h; cases h
  | succ f hK21 =>
    intro v3 M h
    replace h : B_Mod_cooks_21 v1 v2 (H_Mod_cooks_21 v1 v2 f) v3 M = some q := h
    unfold B_Mod_cooks_21 at h
    refine g_iload_n (pc1 := 22) d_Mod_cooks_21 rfl 3 rfl ?_
    refine g_aload_n (pc1 := 23) d_Mod_cooks_22 rfl 0 rfl ?_
    refine g_getr (pc1 := 26) d_Mod_cooks_23 rfl ⟨_, fo_Mod_46⟩ sh_401 (by decide) (rf_401_23 ld) ?_
    refine g_aload_n (pc1 := 27) d_Mod_cooks_26 rfl 0 rfl ?_
    refine g_geti (pc1 := 30) d_Mod_cooks_27 rfl ⟨_, fo_Mod_236⟩ sh_401 (by decide) ?_
    obtain ⟨g5, h⟩ := gdn h
    refine g_iald (pc1 := 31) d_Mod_cooks_30 rfl sh_411 (by decide) g5 ?_
    refine g_icmp_ge (pc1 := 34) (tgt := 55) d_Mod_cooks_31 (by decide) rfl (fun c6 => ?_) (fun c6 => ?_)
    · replace h := itp h c6
      refine Wp.loc (lv' := [(0, .ref 401), (1, .int v1), (2, .int v2)]) [0, 1, 2] rfl ?_
      exact j_Mod_cooks_55 hld  hQ  h
    · replace h := itn h c6
      refine g_aload_n (pc1 := 35) d_Mod_cooks_34 rfl 0 rfl ?_
      refine g_getr (pc1 := 38) d_Mod_cooks_35 rfl ⟨_, fo_Mod_125⟩ sh_401 (by decide) (rf_401_53 ld) ?_
      refine g_iload_n (pc1 := 39) d_Mod_cooks_38 rfl 3 rfl ?_
      refine g_dup2 (pc1 := 40) d_Mod_cooks_39 rfl rfl rfl ?_
      obtain ⟨g47, h⟩ := gdn h
      refine g_iald (pc1 := 41) d_Mod_cooks_40 rfl sh_437 (by decide) g47 ?_
      refine g_aload_n (pc1 := 42) d_Mod_cooks_41 rfl 0 rfl ?_
      refine g_getr (pc1 := 45) d_Mod_cooks_42 rfl ⟨_, fo_Mod_128⟩ sh_401 (by decide) (rf_401_55 ld) ?_
      refine g_iload_n (pc1 := 46) d_Mod_cooks_45 rfl 3 rfl ?_
      obtain ⟨g48, h⟩ := gdn h
      refine g_iald (pc1 := 47) d_Mod_cooks_46 rfl sh_438 (by decide) g48 ?_
      refine g_isub (pc1 := 48) d_Mod_cooks_47 rfl ?_
      obtain ⟨g49, h⟩ := gdn h
      refine g_iast (pc1 := 49) d_Mod_cooks_48 rfl sh_437 (by decide) g49 ?_
      refine Wp.lM h (fun M50 h => ?_)
      obtain ⟨x51, ex51, h⟩ := ltI h
      refine g_iinc (pc1 := 52) (v := x51) (lv' := [(0, .ref 401), (1, .int v1), (2, .int v2), (3, .int x51)]) d_Mod_cooks_49 rfl 3 rfl (by rw [ex51]; rfl) (by decide) [1, 2, 3, 0] rfl ?_
      refine g_goto (tgt := 21) d_Mod_cooks_52 (by decide) ?_
      exact hK21 x51 M50 h
def F_Mod_cooks (p1 : Int32) (M : gM) : Option (Int32 × gM) :=
  (if (((5 * (M 401 18)) + p1) : Int32) < 0 ∨ 10 ≤ (((5 * (M 401 18)) + p1) : Int32).toNatClampNeg then none else nmI (M 416 (((5 * (M 401 18)) + p1) : Int32).toNatClampNeg) (fun x2 => bI (F_Mod_fillsPot p1 M) (fun M4 => H_Mod_cooks_21 p1 x2 FU 0 M4)))
set_option maxHeartbeats 4000000 in
set_option maxRecDepth 20000 in
theorem f_Mod_cooks {l : Launch} {ld : Nat} {M : gM} {L : gL} {Q : Option Value → gM → gL → gR → Prop} (hld : isLa ld) {p1 : Int32}  {q : Int32 × gM} (h : F_Mod_cooks p1 M = some q) (hQ : Q (some (.int q.1)) q.2 L (rf ld)) : Tm l y_Mod_cooks (0, 0, 447) 447 [.ref 401, .int p1] M L (rf ld) Q := by
  refine Tm.of (by decide) (Nat.le_of_ble_eq_true rfl) ?_
  show Wp l y_Mod_cooks (0, 0, 447) 447 0 0 0 [(0, .ref 401), (1, .int p1)] [] M L (rf ld) Q
  unfold F_Mod_cooks at h
  refine g_aload_n (pc1 := 1) d_Mod_cooks_0 rfl 0 rfl ?_
  refine g_getr (pc1 := 4) d_Mod_cooks_1 rfl ⟨_, fo_Mod_61⟩ sh_401 (by decide) (rf_401_28 ld) ?_
  refine g_iconst (pc1 := 5) (v := 5) d_Mod_cooks_4 rfl (by decide) ?_
  refine g_aload_n (pc1 := 6) d_Mod_cooks_5 rfl 0 rfl ?_
  refine g_geti (pc1 := 9) d_Mod_cooks_6 rfl ⟨_, fo_Mod_236⟩ sh_401 (by decide) ?_
  refine g_imul (pc1 := 10) d_Mod_cooks_9 rfl ?_
  refine g_iload_n (pc1 := 11) d_Mod_cooks_10 rfl 1 rfl ?_
  refine g_iadd (pc1 := 12) d_Mod_cooks_11 rfl ?_
  obtain ⟨g1, h⟩ := gdn h
  refine g_iald (pc1 := 13) d_Mod_cooks_12 rfl sh_416 (by decide) g1 ?_
  refine Wp.lI h (fun x2 h => ?_)
  refine g_istore_n (pc1 := 14) (lv' := [(0, .ref 401), (1, .int p1), (2, .int x2)]) d_Mod_cooks_13 rfl rfl (by decide) [1, 2, 0] rfl ?_
  refine g_aload_n (pc1 := 15) d_Mod_cooks_14 rfl 0 rfl ?_
  refine g_iload_n (pc1 := 16) d_Mod_cooks_15 rfl 1 rfl ?_
  refine g_callV0 (pc1 := 19) (As := [.int p1]) (rest := []) d_Mod_cooks_16 rfl mo_Mod_356 mi_Mod_fillsPot mv_Mod_fillsPot rfl sh_401 (by decide) (by decide) rfl rfl (Nat.le_of_ble_eq_true rfl) ?_
  obtain ⟨M4, hq3, h⟩ := bnd h
  refine f_Mod_fillsPot hld  hq3 ?_
  dsimp only [psh]
  refine g_iconst (pc1 := 20) (v := 0) d_Mod_cooks_19 rfl (by decide) ?_
  refine g_istore_n (pc1 := 21) (lv' := [(0, .ref 401), (1, .int p1), (2, .int x2), (3, .int 0)]) d_Mod_cooks_20 rfl rfl (by decide) [1, 2, 3, 0] rfl ?_
  exact h_Mod_cooks_21 hld  hQ  _ 0 M4 h

def F_Mod_dish (p1 : Int32) (p2 : Int32) (M : gM) : Option (Int32 × gM) :=
  bI (F_Mod_isDish p1 M) (fun r2 => (if r2 = 0 then some ((-1), M) else bI (F_Mod_copies M) (fun M5 => bI (F_Mod_fillsPot p1 M5) (fun M7 => (if p2 = 0 then (if (((5 * (M7 401 18)) + p1) : Int32) < 0 ∨ 10 ≤ (((5 * (M7 401 18)) + p1) : Int32).toNatClampNeg then none else some ((M7 416 (((5 * (M7 401 18)) + p1) : Int32).toNatClampNeg), M7)) else (if p2 = 1 then bI (F_Mod_potMany M7) (fun r12 => some (r12, M7)) else (if p2 = 2 then bI (F_Mod_potPrice M7) (fun r15 => some (r15, M7)) else (if p2 = 3 then (if (((5 * (M7 401 18)) + p1) : Int32) < 0 ∨ 10 ≤ (((5 * (M7 401 18)) + p1) : Int32).toNatClampNeg then none else bI2 (F_Mod_forceBy (p2 - 3) (M7 416 (((5 * (M7 401 18)) + p1) : Int32).toNatClampNeg) M7) (fun r19 M20 => some (r19, M20))) else (if p2 = 4 then (if (((5 * (M7 401 18)) + p1) : Int32) < 0 ∨ 10 ≤ (((5 * (M7 401 18)) + p1) : Int32).toNatClampNeg then none else bI2 (F_Mod_forceBy (p2 - 3) (M7 416 (((5 * (M7 401 18)) + p1) : Int32).toNatClampNeg) M7) (fun r24 M25 => some (r24, M25))) else (if p2 = 5 then (if (((5 * (M7 401 18)) + p1) : Int32) < 0 ∨ 10 ≤ (((5 * (M7 401 18)) + p1) : Int32).toNatClampNeg then none else bI2 (F_Mod_forceBy (p2 - 3) (M7 416 (((5 * (M7 401 18)) + p1) : Int32).toNatClampNeg) M7) (fun r29 M30 => some (r29, M30))) else (if p2 = 6 then (if ((6 + p1) : Int32) < 0 ∨ 38 ≤ ((6 + p1) : Int32).toNatClampNeg then none else some ((M7 437 ((6 + p1) : Int32).toNatClampNeg), M7)) else some ((-1), M7))))))))))))
set_option maxHeartbeats 4000000 in
set_option maxRecDepth 20000 in
theorem f_Mod_dish {l : Launch} {ld : Nat} {M : gM} {L : gL} {Q : Option Value → gM → gL → gR → Prop} (hld : isLa ld) {p1 : Int32} {p2 : Int32}  {q : Int32 × gM} (h : F_Mod_dish p1 p2 M = some q) (hQ : Q (some (.int q.1)) q.2 L (rf ld)) : Tm l y_Mod_dish (0, 0, 447) 447 [.ref 401, .int p1, .int p2] M L (rf ld) Q := by
  refine Tm.of (by decide) (Nat.le_of_ble_eq_true rfl) ?_
  show Wp l y_Mod_dish (0, 0, 447) 447 0 0 0 [(0, .ref 401), (1, .int p1), (2, .int p2)] [] M L (rf ld) Q
  unfold F_Mod_dish at h
  refine g_aload_n (pc1 := 1) d_Mod_dish_0 rfl 0 rfl ?_
  refine g_iload_n (pc1 := 2) d_Mod_dish_1 rfl 1 rfl ?_
  refine g_callV0 (pc1 := 5) (As := [.int p1]) (rest := []) d_Mod_dish_2 rfl mo_Mod_374 mi_Mod_isDish mv_Mod_isDish rfl sh_401 (by decide) (by decide) rfl rfl (Nat.le_of_ble_eq_true rfl) ?_
  obtain ⟨r2, hq1, h⟩ := bnd h
  refine f_Mod_isDish hld  hq1 ?_
  dsimp only [psh]
  refine g_if_ne (pc1 := 8) (tgt := 10) d_Mod_dish_5 (by decide) rfl (fun c3 => ?_) (fun c3 => ?_)
  · replace h := itn h c3
    refine g_aload_n (pc1 := 11) d_Mod_dish_10 rfl 0 rfl ?_
    refine g_callV0 (pc1 := 14) (As := []) (rest := []) d_Mod_dish_11 rfl mo_Mod_377 mi_Mod_copies mv_Mod_copies rfl sh_401 (by decide) (by decide) rfl rfl (Nat.le_of_ble_eq_true rfl) ?_
    obtain ⟨M5, hq4, h⟩ := bnd h
    refine f_Mod_copies hld  hq4 ?_
    dsimp only [psh]
    refine g_aload_n (pc1 := 15) d_Mod_dish_14 rfl 0 rfl ?_
    refine g_iload_n (pc1 := 16) d_Mod_dish_15 rfl 1 rfl ?_
    refine g_callV0 (pc1 := 19) (As := [.int p1]) (rest := []) d_Mod_dish_16 rfl mo_Mod_356 mi_Mod_fillsPot mv_Mod_fillsPot rfl sh_401 (by decide) (by decide) rfl rfl (Nat.le_of_ble_eq_true rfl) ?_
    obtain ⟨M7, hq6, h⟩ := bnd h
    refine f_Mod_fillsPot hld  hq6 ?_
    dsimp only [psh]
    refine g_iload_n (pc1 := 20) d_Mod_dish_19 rfl 2 rfl ?_
    by_cases c8 : p2 = 0
    · replace h := itp h c8
      refine g_tabK (tgt := 64) (off := 44) d_Mod_dish_20 c8 (by decide) (by decide) (by decide) (by decide) ?_
      refine g_aload_n (pc1 := 65) d_Mod_dish_64 rfl 0 rfl ?_
      refine g_getr (pc1 := 68) d_Mod_dish_65 rfl ⟨_, fo_Mod_61⟩ sh_401 (by decide) (rf_401_28 ld) ?_
      refine g_iconst (pc1 := 69) (v := 5) d_Mod_dish_68 rfl (by decide) ?_
      refine g_aload_n (pc1 := 70) d_Mod_dish_69 rfl 0 rfl ?_
      refine g_geti (pc1 := 73) d_Mod_dish_70 rfl ⟨_, fo_Mod_236⟩ sh_401 (by decide) ?_
      refine g_imul (pc1 := 74) d_Mod_dish_73 rfl ?_
      refine g_iload_n (pc1 := 75) d_Mod_dish_74 rfl 1 rfl ?_
      refine g_iadd (pc1 := 76) d_Mod_dish_75 rfl ?_
      obtain ⟨g9, h⟩ := gdn h
      refine g_iald (pc1 := 77) d_Mod_dish_76 rfl sh_416 (by decide) g9 ?_
      refine g_ireturn (Or.inl rfl) d_Mod_dish_77 rfl ?_
      cases h; exact hQ
    replace h := itn h c8
    by_cases c10 : p2 = 1
    · replace h := itp h c10
      refine g_tabK (tgt := 78) (off := 58) d_Mod_dish_20 c10 (by decide) (by decide) (by decide) (by decide) ?_
      refine g_aload_n (pc1 := 79) d_Mod_dish_78 rfl 0 rfl ?_
      refine g_callV0 (pc1 := 82) (As := []) (rest := []) d_Mod_dish_79 rfl mo_Mod_339 mi_Mod_potMany mv_Mod_potMany rfl sh_401 (by decide) (by decide) rfl rfl (Nat.le_of_ble_eq_true rfl) ?_
      obtain ⟨r12, hq11, h⟩ := bnd h
      refine f_Mod_potMany hld  hq11 ?_
      dsimp only [psh]
      refine g_ireturn (Or.inl rfl) d_Mod_dish_82 rfl ?_
      cases h; exact hQ
    replace h := itn h c10
    by_cases c13 : p2 = 2
    · replace h := itp h c13
      refine g_tabK (tgt := 83) (off := 63) d_Mod_dish_20 c13 (by decide) (by decide) (by decide) (by decide) ?_
      refine g_aload_n (pc1 := 84) d_Mod_dish_83 rfl 0 rfl ?_
      refine g_callV0 (pc1 := 87) (As := []) (rest := []) d_Mod_dish_84 rfl mo_Mod_362 mi_Mod_potPrice mv_Mod_potPrice rfl sh_401 (by decide) (by decide) rfl rfl (Nat.le_of_ble_eq_true rfl) ?_
      obtain ⟨r15, hq14, h⟩ := bnd h
      refine f_Mod_potPrice hld  hq14 ?_
      dsimp only [psh]
      refine g_ireturn (Or.inl rfl) d_Mod_dish_87 rfl ?_
      cases h; exact hQ
    replace h := itn h c13
    by_cases c16 : p2 = 3
    · replace h := itp h c16
      refine g_tabK (tgt := 88) (off := 68) d_Mod_dish_20 c16 (by decide) (by decide) (by decide) (by decide) ?_
      refine g_aload_n (pc1 := 89) d_Mod_dish_88 rfl 0 rfl ?_
      refine g_iload_n (pc1 := 90) d_Mod_dish_89 rfl 2 rfl ?_
      refine g_iconst (pc1 := 91) (v := 3) d_Mod_dish_90 rfl (by decide) ?_
      refine g_isub (pc1 := 92) d_Mod_dish_91 rfl ?_
      refine g_aload_n (pc1 := 93) d_Mod_dish_92 rfl 0 rfl ?_
      refine g_getr (pc1 := 96) d_Mod_dish_93 rfl ⟨_, fo_Mod_61⟩ sh_401 (by decide) (rf_401_28 ld) ?_
      refine g_iconst (pc1 := 97) (v := 5) d_Mod_dish_96 rfl (by decide) ?_
      refine g_aload_n (pc1 := 98) d_Mod_dish_97 rfl 0 rfl ?_
      refine g_geti (pc1 := 101) d_Mod_dish_98 rfl ⟨_, fo_Mod_236⟩ sh_401 (by decide) ?_
      refine g_imul (pc1 := 102) d_Mod_dish_101 rfl ?_
      refine g_iload_n (pc1 := 103) d_Mod_dish_102 rfl 1 rfl ?_
      refine g_iadd (pc1 := 104) d_Mod_dish_103 rfl ?_
      obtain ⟨g17, h⟩ := gdn h
      refine g_iald (pc1 := 105) d_Mod_dish_104 rfl sh_416 (by decide) g17 ?_
      refine g_callV0 (pc1 := 108) (As := [.int (p2 - 3), .int (M7 416 (((5 * (M7 401 18)) + p1) : Int32).toNatClampNeg)]) (rest := []) d_Mod_dish_105 rfl mo_Mod_359 mi_Mod_forceBy mv_Mod_forceBy rfl sh_401 (by decide) (by decide) rfl rfl (Nat.le_of_ble_eq_true rfl) ?_
      obtain ⟨r19, M20, hq18, h⟩ := bnd2 h
      refine f_Mod_forceBy hld  hq18 ?_
      dsimp only [psh]
      refine g_ireturn (Or.inl rfl) d_Mod_dish_108 rfl ?_
      cases h; exact hQ
    replace h := itn h c16
    by_cases c21 : p2 = 4
    · replace h := itp h c21
      refine g_tabK (tgt := 88) (off := 68) d_Mod_dish_20 c21 (by decide) (by decide) (by decide) (by decide) ?_
      refine g_aload_n (pc1 := 89) d_Mod_dish_88 rfl 0 rfl ?_
      refine g_iload_n (pc1 := 90) d_Mod_dish_89 rfl 2 rfl ?_
      refine g_iconst (pc1 := 91) (v := 3) d_Mod_dish_90 rfl (by decide) ?_
      refine g_isub (pc1 := 92) d_Mod_dish_91 rfl ?_
      refine g_aload_n (pc1 := 93) d_Mod_dish_92 rfl 0 rfl ?_
      refine g_getr (pc1 := 96) d_Mod_dish_93 rfl ⟨_, fo_Mod_61⟩ sh_401 (by decide) (rf_401_28 ld) ?_
      refine g_iconst (pc1 := 97) (v := 5) d_Mod_dish_96 rfl (by decide) ?_
      refine g_aload_n (pc1 := 98) d_Mod_dish_97 rfl 0 rfl ?_
      refine g_geti (pc1 := 101) d_Mod_dish_98 rfl ⟨_, fo_Mod_236⟩ sh_401 (by decide) ?_
      refine g_imul (pc1 := 102) d_Mod_dish_101 rfl ?_
      refine g_iload_n (pc1 := 103) d_Mod_dish_102 rfl 1 rfl ?_
      refine g_iadd (pc1 := 104) d_Mod_dish_103 rfl ?_
      obtain ⟨g22, h⟩ := gdn h
      refine g_iald (pc1 := 105) d_Mod_dish_104 rfl sh_416 (by decide) g22 ?_
      refine g_callV0 (pc1 := 108) (As := [.int (p2 - 3), .int (M7 416 (((5 * (M7 401 18)) + p1) : Int32).toNatClampNeg)]) (rest := []) d_Mod_dish_105 rfl mo_Mod_359 mi_Mod_forceBy mv_Mod_forceBy rfl sh_401 (by decide) (by decide) rfl rfl (Nat.le_of_ble_eq_true rfl) ?_
      obtain ⟨r24, M25, hq23, h⟩ := bnd2 h
      refine f_Mod_forceBy hld  hq23 ?_
      dsimp only [psh]
      refine g_ireturn (Or.inl rfl) d_Mod_dish_108 rfl ?_
      cases h; exact hQ
    replace h := itn h c21
    by_cases c26 : p2 = 5
    · replace h := itp h c26
      refine g_tabK (tgt := 88) (off := 68) d_Mod_dish_20 c26 (by decide) (by decide) (by decide) (by decide) ?_
      refine g_aload_n (pc1 := 89) d_Mod_dish_88 rfl 0 rfl ?_
      refine g_iload_n (pc1 := 90) d_Mod_dish_89 rfl 2 rfl ?_
      refine g_iconst (pc1 := 91) (v := 3) d_Mod_dish_90 rfl (by decide) ?_
      refine g_isub (pc1 := 92) d_Mod_dish_91 rfl ?_
      refine g_aload_n (pc1 := 93) d_Mod_dish_92 rfl 0 rfl ?_
      refine g_getr (pc1 := 96) d_Mod_dish_93 rfl ⟨_, fo_Mod_61⟩ sh_401 (by decide) (rf_401_28 ld) ?_
      refine g_iconst (pc1 := 97) (v := 5) d_Mod_dish_96 rfl (by decide) ?_
      refine g_aload_n (pc1 := 98) d_Mod_dish_97 rfl 0 rfl ?_
      refine g_geti (pc1 := 101) d_Mod_dish_98 rfl ⟨_, fo_Mod_236⟩ sh_401 (by decide) ?_
      refine g_imul (pc1 := 102) d_Mod_dish_101 rfl ?_
      refine g_iload_n (pc1 := 103) d_Mod_dish_102 rfl 1 rfl ?_
      refine g_iadd (pc1 := 104) d_Mod_dish_103 rfl ?_
      obtain ⟨g27, h⟩ := gdn h
      refine g_iald (pc1 := 105) d_Mod_dish_104 rfl sh_416 (by decide) g27 ?_
      refine g_callV0 (pc1 := 108) (As := [.int (p2 - 3), .int (M7 416 (((5 * (M7 401 18)) + p1) : Int32).toNatClampNeg)]) (rest := []) d_Mod_dish_105 rfl mo_Mod_359 mi_Mod_forceBy mv_Mod_forceBy rfl sh_401 (by decide) (by decide) rfl rfl (Nat.le_of_ble_eq_true rfl) ?_
      obtain ⟨r29, M30, hq28, h⟩ := bnd2 h
      refine f_Mod_forceBy hld  hq28 ?_
      dsimp only [psh]
      refine g_ireturn (Or.inl rfl) d_Mod_dish_108 rfl ?_
      cases h; exact hQ
    replace h := itn h c26
    by_cases c31 : p2 = 6
    · replace h := itp h c31
      refine g_tabK (tgt := 109) (off := 89) d_Mod_dish_20 c31 (by decide) (by decide) (by decide) (by decide) ?_
      refine g_aload_n (pc1 := 110) d_Mod_dish_109 rfl 0 rfl ?_
      refine g_getr (pc1 := 113) d_Mod_dish_110 rfl ⟨_, fo_Mod_125⟩ sh_401 (by decide) (rf_401_53 ld) ?_
      refine g_bipush (pc1 := 115) (v := 6) d_Mod_dish_113 rfl (by decide) ?_
      refine g_iload_n (pc1 := 116) d_Mod_dish_115 rfl 1 rfl ?_
      refine g_iadd (pc1 := 117) d_Mod_dish_116 rfl ?_
      obtain ⟨g32, h⟩ := gdn h
      refine g_iald (pc1 := 118) d_Mod_dish_117 rfl sh_437 (by decide) g32 ?_
      refine g_ireturn (Or.inl rfl) d_Mod_dish_118 rfl ?_
      cases h; exact hQ
    replace h := itn h c31
    refine g_tabOut (tgt := 119) d_Mod_dish_20 (by
      have nc8 := neT (a := 0) c8 (by decide)
      have nc10 := neT (a := 1) c10 (by decide)
      have nc13 := neT (a := 2) c13 (by decide)
      have nc16 := neT (a := 3) c16 (by decide)
      have nc21 := neT (a := 4) c21 (by decide)
      have nc26 := neT (a := 5) c26 (by decide)
      have nc31 := neT (a := 6) c31 (by decide)
      omega) (by decide) ?_
    refine g_iconst (pc1 := 120) (v := (-1)) d_Mod_dish_119 rfl (by decide) ?_
    refine g_ireturn (Or.inl rfl) d_Mod_dish_120 rfl ?_
    cases h; exact hQ
  · replace h := itp h c3
    refine g_iconst (pc1 := 9) (v := (-1)) d_Mod_dish_8 rfl (by decide) ?_
    refine g_ireturn (Or.inl rfl) d_Mod_dish_9 rfl ?_
    cases h; exact hQ

def B_Mod_eatsDish_23 (v1 : Int32) (v2 : Int32) (K23 : Int32 → gM → Option (gM)) : Int32 → gM → Option (gM) := fun v3 M =>
  (if 3 ≤ v3 then some M else (if (((5 * (M 401 18)) + v2) : Int32) < 0 ∨ 10 ≤ (((5 * (M 401 18)) + v2) : Int32).toNatClampNeg then none else bI2 (F_Mod_forceBy v3 (M 416 (((5 * (M 401 18)) + v2) : Int32).toNatClampNeg) M) (fun r8 M9 => (if (((19 + (3 * v1)) + v3) : Int32) < 0 ∨ 38 ≤ (((19 + (3 * v1)) + v3) : Int32).toNatClampNeg then none else nmM (uM M9 437 (((19 + (3 * v1)) + v3) : Int32).toNatClampNeg r8) (fun M11 => nmI (v3 + 1) (fun x12 => K23 x12 M11))))))
def H_Mod_eatsDish_23 (v1 : Int32) (v2 : Int32) : Nat → Int32 → gM → Option (gM) := lpK (B_Mod_eatsDish_23 v1 v2) (fun _ _ => none)
set_option maxHeartbeats 4000000 in
set_option maxRecDepth 20000 in
theorem h_Mod_eatsDish_23 {l : Launch} {ld : Nat} {Q : Option Value → gM → gL → gR → Prop} (hld : isLa ld)   {q : gM} {L : gL} (hQ : Q none q L (rf ld))  {v1 : Int32} {v2 : Int32}  : ∀ (f : Nat) (v3 : Int32) (M : gM), H_Mod_eatsDish_23 v1 v2 f v3 M = some q → Wp l y_Mod_eatsDish (0, 0, 447) 447 0 0 23 [(0, .ref 401), (1, .int v1), (2, .int v2), (3, .int v3)] [] M L (rf ld) Q := by
  intro f
  induction f with
  | zero => intro v3 M h; cases h
  | succ f hK23 =>
    intro v3 M h
    replace h : B_Mod_eatsDish_23 v1 v2 (H_Mod_eatsDish_23 v1 v2 f) v3 M = some q := h
    unfold B_Mod_eatsDish_23 at h
    refine g_iload_n (pc1 := 24) d_Mod_eatsDish_23 rfl 3 rfl ?_
    refine g_iconst (pc1 := 25) (v := 3) d_Mod_eatsDish_24 rfl (by decide) ?_
    refine g_icmp_ge (pc1 := 28) (tgt := 65) d_Mod_eatsDish_25 (by decide) rfl (fun c5 => ?_) (fun c5 => ?_)
    · replace h := itp h c5
      refine g_return rfl d_Mod_eatsDish_65 rfl ?_
      cases h; exact hQ
    · replace h := itn h c5
      refine g_aload_n (pc1 := 29) d_Mod_eatsDish_28 rfl 0 rfl ?_
      refine g_getr (pc1 := 32) d_Mod_eatsDish_29 rfl ⟨_, fo_Mod_125⟩ sh_401 (by decide) (rf_401_53 ld) ?_
      refine g_bipush (pc1 := 34) (v := 19) d_Mod_eatsDish_32 rfl (by decide) ?_
      refine g_iconst (pc1 := 35) (v := 3) d_Mod_eatsDish_34 rfl (by decide) ?_
      refine g_iload_n (pc1 := 36) d_Mod_eatsDish_35 rfl 1 rfl ?_
      refine g_imul (pc1 := 37) d_Mod_eatsDish_36 rfl ?_
      refine g_iadd (pc1 := 38) d_Mod_eatsDish_37 rfl ?_
      refine g_iload_n (pc1 := 39) d_Mod_eatsDish_38 rfl 3 rfl ?_
      refine g_iadd (pc1 := 40) d_Mod_eatsDish_39 rfl ?_
      refine g_aload_n (pc1 := 41) d_Mod_eatsDish_40 rfl 0 rfl ?_
      refine g_iload_n (pc1 := 42) d_Mod_eatsDish_41 rfl 3 rfl ?_
      refine g_aload_n (pc1 := 43) d_Mod_eatsDish_42 rfl 0 rfl ?_
      refine g_getr (pc1 := 46) d_Mod_eatsDish_43 rfl ⟨_, fo_Mod_61⟩ sh_401 (by decide) (rf_401_28 ld) ?_
      refine g_iconst (pc1 := 47) (v := 5) d_Mod_eatsDish_46 rfl (by decide) ?_
      refine g_aload_n (pc1 := 48) d_Mod_eatsDish_47 rfl 0 rfl ?_
      refine g_geti (pc1 := 51) d_Mod_eatsDish_48 rfl ⟨_, fo_Mod_236⟩ sh_401 (by decide) ?_
      refine g_imul (pc1 := 52) d_Mod_eatsDish_51 rfl ?_
      refine g_iload_n (pc1 := 53) d_Mod_eatsDish_52 rfl 2 rfl ?_
      refine g_iadd (pc1 := 54) d_Mod_eatsDish_53 rfl ?_
      obtain ⟨g6, h⟩ := gdn h
      refine g_iald (pc1 := 55) d_Mod_eatsDish_54 rfl sh_416 (by decide) g6 ?_
      refine g_callV0 (pc1 := 58) (As := [.int v3, .int (M 416 (((5 * (M 401 18)) + v2) : Int32).toNatClampNeg)]) (rest := [.int ((19 + (3 * v1)) + v3), .ref 437]) d_Mod_eatsDish_55 rfl mo_Mod_359 mi_Mod_forceBy mv_Mod_forceBy rfl sh_401 (by decide) (by decide) rfl rfl (Nat.le_of_ble_eq_true rfl) ?_
      obtain ⟨r8, M9, hq7, h⟩ := bnd2 h
      refine f_Mod_forceBy hld  hq7 ?_
      dsimp only [psh]
      obtain ⟨g10, h⟩ := gdn h
      refine g_iast (pc1 := 59) d_Mod_eatsDish_58 rfl sh_437 (by decide) g10 ?_
      refine Wp.lM h (fun M11 h => ?_)
      obtain ⟨x12, ex12, h⟩ := ltI h
      refine g_iinc (pc1 := 62) (v := x12) (lv' := [(0, .ref 401), (1, .int v1), (2, .int v2), (3, .int x12)]) d_Mod_eatsDish_59 rfl 3 rfl (by rw [ex12]; rfl) (by decide) [1, 2, 3, 0] rfl ?_
      refine g_goto (tgt := 23) d_Mod_eatsDish_62 (by decide) ?_
      exact hK23 x12 M11 h
def F_Mod_eatsDish (p1 : Int32) (p2 : Int32) (M : gM) : Option (gM) :=
  bI (F_Mod_fillsPot p2 M) (fun M2 => (if ((15 + p1) : Int32) < 0 ∨ 38 ≤ ((15 + p1) : Int32).toNatClampNeg then none else nmM (uM M2 437 ((15 + p1) : Int32).toNatClampNeg (M2 437 35)) (fun M4 => H_Mod_eatsDish_23 p1 p2 FU 0 M4)))
set_option maxHeartbeats 4000000 in
set_option maxRecDepth 20000 in
theorem f_Mod_eatsDish {l : Launch} {ld : Nat} {M : gM} {L : gL} {Q : Option Value → gM → gL → gR → Prop} (hld : isLa ld) {p1 : Int32} {p2 : Int32}  {q : gM} (h : F_Mod_eatsDish p1 p2 M = some q) (hQ : Q none q L (rf ld)) : Tm l y_Mod_eatsDish (0, 0, 447) 447 [.ref 401, .int p1, .int p2] M L (rf ld) Q := by
  refine Tm.of (by decide) (Nat.le_of_ble_eq_true rfl) ?_
  show Wp l y_Mod_eatsDish (0, 0, 447) 447 0 0 0 [(0, .ref 401), (1, .int p1), (2, .int p2)] [] M L (rf ld) Q
  unfold F_Mod_eatsDish at h
  refine g_aload_n (pc1 := 1) d_Mod_eatsDish_0 rfl 0 rfl ?_
  refine g_iload_n (pc1 := 2) d_Mod_eatsDish_1 rfl 2 rfl ?_
  refine g_callV0 (pc1 := 5) (As := [.int p2]) (rest := []) d_Mod_eatsDish_2 rfl mo_Mod_356 mi_Mod_fillsPot mv_Mod_fillsPot rfl sh_401 (by decide) (by decide) rfl rfl (Nat.le_of_ble_eq_true rfl) ?_
  obtain ⟨M2, hq1, h⟩ := bnd h
  refine f_Mod_fillsPot hld  hq1 ?_
  dsimp only [psh]
  refine g_aload_n (pc1 := 6) d_Mod_eatsDish_5 rfl 0 rfl ?_
  refine g_getr (pc1 := 9) d_Mod_eatsDish_6 rfl ⟨_, fo_Mod_125⟩ sh_401 (by decide) (rf_401_53 ld) ?_
  refine g_bipush (pc1 := 11) (v := 15) d_Mod_eatsDish_9 rfl (by decide) ?_
  refine g_iload_n (pc1 := 12) d_Mod_eatsDish_11 rfl 1 rfl ?_
  refine g_iadd (pc1 := 13) d_Mod_eatsDish_12 rfl ?_
  refine g_aload_n (pc1 := 14) d_Mod_eatsDish_13 rfl 0 rfl ?_
  refine g_getr (pc1 := 17) d_Mod_eatsDish_14 rfl ⟨_, fo_Mod_125⟩ sh_401 (by decide) (rf_401_53 ld) ?_
  refine g_bipush (pc1 := 19) (v := 35) d_Mod_eatsDish_17 rfl (by decide) ?_
  refine g_iald (pc1 := 20) d_Mod_eatsDish_19 rfl sh_437 (by decide) (vin_lit (x := 35) (by decide)) ?_
  refine Wp.vali (y := (M2 437 35)) (congrArg (M2 437) (by decide)) ?_
  obtain ⟨g3, h⟩ := gdn h
  refine g_iast (pc1 := 21) d_Mod_eatsDish_20 rfl sh_437 (by decide) g3 ?_
  refine Wp.lM h (fun M4 h => ?_)
  refine g_iconst (pc1 := 22) (v := 0) d_Mod_eatsDish_21 rfl (by decide) ?_
  refine g_istore_n (pc1 := 23) (lv' := [(0, .ref 401), (1, .int p1), (2, .int p2), (3, .int 0)]) d_Mod_eatsDish_22 rfl rfl (by decide) [1, 2, 3, 0] rfl ?_
  exact h_Mod_eatsDish_23 hld  hQ  _ 0 M4 h

def B_Mod_goes_2 (v1 : Int32) (K2 : Int32 → gM → Option (gM)) : Int32 → gM → Option (gM) := fun v2 M =>
  (if v1 ≤ v2 then some M else bI (F_Mod_dayGoes M) (fun M3 => nmI (v2 + 1) (fun x4 => K2 x4 M3)))
def H_Mod_goes_2 (v1 : Int32) : Nat → Int32 → gM → Option (gM) := lpK (B_Mod_goes_2 v1) (fun _ _ => none)
set_option maxHeartbeats 4000000 in
set_option maxRecDepth 20000 in
theorem h_Mod_goes_2 {l : Launch} {ld : Nat} {Q : Option Value → gM → gL → gR → Prop} (hld : isLa ld)   {q : gM} {L : gL} (hQ : Q none q L (rf ld))  {v1 : Int32}  : ∀ (f : Nat) (v2 : Int32) (M : gM), H_Mod_goes_2 v1 f v2 M = some q → Wp l y_Mod_goes (0, 0, 447) 447 0 0 2 [(0, .ref 401), (1, .int v1), (2, .int v2)] [] M L (rf ld) Q := by
  intro f
  induction f with
  | zero => intro v2 M h; cases h
  | succ f hK2 =>
    intro v2 M h
    replace h : B_Mod_goes_2 v1 (H_Mod_goes_2 v1 f) v2 M = some q := h
    unfold B_Mod_goes_2 at h
    refine g_iload_n (pc1 := 3) d_Mod_goes_2 rfl 2 rfl ?_
    refine g_iload_n (pc1 := 4) d_Mod_goes_3 rfl 1 rfl ?_
    refine g_icmp_ge (pc1 := 7) (tgt := 17) d_Mod_goes_4 (by decide) rfl (fun c1 => ?_) (fun c1 => ?_)
    · replace h := itp h c1
      refine g_return rfl d_Mod_goes_17 rfl ?_
      cases h; exact hQ
    · replace h := itn h c1
      refine g_aload_n (pc1 := 8) d_Mod_goes_7 rfl 0 rfl ?_
      refine g_callV0 (pc1 := 11) (As := []) (rest := []) d_Mod_goes_8 rfl mo_Mod_368 mi_Mod_dayGoes mv_Mod_dayGoes rfl sh_401 (by decide) (by decide) rfl rfl (Nat.le_of_ble_eq_true rfl) ?_
      obtain ⟨M3, hq2, h⟩ := bnd h
      refine f_Mod_dayGoes hld  hq2 ?_
      dsimp only [psh]
      obtain ⟨x4, ex4, h⟩ := ltI h
      refine g_iinc (pc1 := 14) (v := x4) (lv' := [(0, .ref 401), (1, .int v1), (2, .int x4)]) d_Mod_goes_11 rfl 2 rfl (by rw [ex4]; rfl) (by decide) [1, 2, 0] rfl ?_
      refine g_goto (tgt := 2) d_Mod_goes_14 (by decide) ?_
      exact hK2 x4 M3 h
def F_Mod_goes (p1 : Int32) (M : gM) : Option (gM) :=
  H_Mod_goes_2 p1 FU 0 M
set_option maxHeartbeats 4000000 in
set_option maxRecDepth 20000 in
theorem f_Mod_goes {l : Launch} {ld : Nat} {M : gM} {L : gL} {Q : Option Value → gM → gL → gR → Prop} (hld : isLa ld) {p1 : Int32}  {q : gM} (h : F_Mod_goes p1 M = some q) (hQ : Q none q L (rf ld)) : Tm l y_Mod_goes (0, 0, 447) 447 [.ref 401, .int p1] M L (rf ld) Q := by
  refine Tm.of (by decide) (Nat.le_of_ble_eq_true rfl) ?_
  show Wp l y_Mod_goes (0, 0, 447) 447 0 0 0 [(0, .ref 401), (1, .int p1)] [] M L (rf ld) Q
  unfold F_Mod_goes at h
  refine g_iconst (pc1 := 1) (v := 0) d_Mod_goes_0 rfl (by decide) ?_
  refine g_istore_n (pc1 := 2) (lv' := [(0, .ref 401), (1, .int p1), (2, .int 0)]) d_Mod_goes_1 rfl rfl (by decide) [1, 2, 0] rfl ?_
  exact h_Mod_goes_2 hld  hQ  _ 0 M h

def B_Mod_isAsKnown_2 (v1 : Int32) (K2 : Int32 → gM → Option (Int32 × gM)) : Int32 → gM → Option (Int32 × gM) := fun v2 M =>
  (if v1 ≤ v2 then some (1, M) else (if (v2 : Int32) < 0 ∨ 20 ≤ (v2 : Int32).toNatClampNeg then none else (if (v2 : Int32) < 0 ∨ 20 ≤ (v2 : Int32).toNatClampNeg then none else bI2 (F_Mod_forceBy (M 441 (v2 : Int32).toNatClampNeg) (M 442 (v2 : Int32).toNatClampNeg) M) (fun r5 M6 => (if (v2 : Int32) < 0 ∨ 20 ≤ (v2 : Int32).toNatClampNeg then none else (if r5 = (M6 443 (v2 : Int32).toNatClampNeg) then nmI (v2 + 1) (fun x9 => K2 x9 M6) else some (0, M6)))))))
def H_Mod_isAsKnown_2 (v1 : Int32) : Nat → Int32 → gM → Option (Int32 × gM) := lpK (B_Mod_isAsKnown_2 v1) (fun _ _ => none)
set_option maxHeartbeats 4000000 in
set_option maxRecDepth 20000 in
theorem h_Mod_isAsKnown_2 {l : Launch} {ld : Nat} {Q : Option Value → gM → gL → gR → Prop} (hld : isLa ld)   {q : Int32 × gM} {L : gL} (hQ : Q (some (.int q.1)) q.2 L (rf ld))  {v1 : Int32}  : ∀ (f : Nat) (v2 : Int32) (M : gM), H_Mod_isAsKnown_2 v1 f v2 M = some q → Wp l y_Mod_isAsKnown (0, 0, 447) 447 0 0 2 [(0, .ref 401), (1, .int v1), (2, .int v2)] [] M L (rf ld) Q := by
  intro f
  induction f with
  | zero => intro v2 M h; cases h
  | succ f hK2 =>
    intro v2 M h
    replace h : B_Mod_isAsKnown_2 v1 (H_Mod_isAsKnown_2 v1 f) v2 M = some q := h
    unfold B_Mod_isAsKnown_2 at h
    refine g_iload_n (pc1 := 3) d_Mod_isAsKnown_2 rfl 2 rfl ?_
    refine g_iload_n (pc1 := 4) d_Mod_isAsKnown_3 rfl 1 rfl ?_
    refine g_icmp_ge (pc1 := 7) (tgt := 40) d_Mod_isAsKnown_4 (by decide) rfl (fun c1 => ?_) (fun c1 => ?_)
    · replace h := itp h c1
      refine g_iconst (pc1 := 41) (v := 1) d_Mod_isAsKnown_40 rfl (by decide) ?_
      refine g_ireturn (Or.inr ⟨rfl, rfl⟩) d_Mod_isAsKnown_41 rfl ?_
      cases h; exact hQ
    · replace h := itn h c1
      refine g_aload_n (pc1 := 8) d_Mod_isAsKnown_7 rfl 0 rfl ?_
      refine g_aload_n (pc1 := 9) d_Mod_isAsKnown_8 rfl 0 rfl ?_
      refine g_getr (pc1 := 12) d_Mod_isAsKnown_9 rfl ⟨_, fo_Mod_137⟩ sh_401 (by decide) (rf_401_65 ld) ?_
      refine g_iload_n (pc1 := 13) d_Mod_isAsKnown_12 rfl 2 rfl ?_
      obtain ⟨g2, h⟩ := gdn h
      refine g_iald (pc1 := 14) d_Mod_isAsKnown_13 rfl sh_441 (by decide) g2 ?_
      refine g_aload_n (pc1 := 15) d_Mod_isAsKnown_14 rfl 0 rfl ?_
      refine g_getr (pc1 := 18) d_Mod_isAsKnown_15 rfl ⟨_, fo_Mod_140⟩ sh_401 (by decide) (rf_401_66 ld) ?_
      refine g_iload_n (pc1 := 19) d_Mod_isAsKnown_18 rfl 2 rfl ?_
      obtain ⟨g3, h⟩ := gdn h
      refine g_iald (pc1 := 20) d_Mod_isAsKnown_19 rfl sh_442 (by decide) g3 ?_
      refine g_callV0 (pc1 := 23) (As := [.int (M 441 (v2 : Int32).toNatClampNeg), .int (M 442 (v2 : Int32).toNatClampNeg)]) (rest := []) d_Mod_isAsKnown_20 rfl mo_Mod_359 mi_Mod_forceBy mv_Mod_forceBy rfl sh_401 (by decide) (by decide) rfl rfl (Nat.le_of_ble_eq_true rfl) ?_
      obtain ⟨r5, M6, hq4, h⟩ := bnd2 h
      refine f_Mod_forceBy hld  hq4 ?_
      dsimp only [psh]
      refine g_aload_n (pc1 := 24) d_Mod_isAsKnown_23 rfl 0 rfl ?_
      refine g_getr (pc1 := 27) d_Mod_isAsKnown_24 rfl ⟨_, fo_Mod_143⟩ sh_401 (by decide) (rf_401_67 ld) ?_
      refine g_iload_n (pc1 := 28) d_Mod_isAsKnown_27 rfl 2 rfl ?_
      obtain ⟨g7, h⟩ := gdn h
      refine g_iald (pc1 := 29) d_Mod_isAsKnown_28 rfl sh_443 (by decide) g7 ?_
      refine g_icmp_eq (pc1 := 32) (tgt := 34) d_Mod_isAsKnown_29 (by decide) rfl (fun c8 => ?_) (fun c8 => ?_)
      · replace h := itp h c8
        obtain ⟨x9, ex9, h⟩ := ltI h
        refine g_iinc (pc1 := 37) (v := x9) (lv' := [(0, .ref 401), (1, .int v1), (2, .int x9)]) d_Mod_isAsKnown_34 rfl 2 rfl (by rw [ex9]; rfl) (by decide) [1, 2, 0] rfl ?_
        refine g_goto (tgt := 2) d_Mod_isAsKnown_37 (by decide) ?_
        exact hK2 x9 M6 h
      · replace h := itn h c8
        refine g_iconst (pc1 := 33) (v := 0) d_Mod_isAsKnown_32 rfl (by decide) ?_
        refine g_ireturn (Or.inr ⟨rfl, rfl⟩) d_Mod_isAsKnown_33 rfl ?_
        cases h; exact hQ
def F_Mod_isAsKnown (p1 : Int32) (M : gM) : Option (Int32 × gM) :=
  H_Mod_isAsKnown_2 p1 FU 0 M
set_option maxHeartbeats 4000000 in
set_option maxRecDepth 20000 in
theorem f_Mod_isAsKnown {l : Launch} {ld : Nat} {M : gM} {L : gL} {Q : Option Value → gM → gL → gR → Prop} (hld : isLa ld) {p1 : Int32}  {q : Int32 × gM} (h : F_Mod_isAsKnown p1 M = some q) (hQ : Q (some (.int q.1)) q.2 L (rf ld)) : Tm l y_Mod_isAsKnown (0, 0, 447) 447 [.ref 401, .int p1] M L (rf ld) Q := by
  refine Tm.of (by decide) (Nat.le_of_ble_eq_true rfl) ?_
  show Wp l y_Mod_isAsKnown (0, 0, 447) 447 0 0 0 [(0, .ref 401), (1, .int p1)] [] M L (rf ld) Q
  unfold F_Mod_isAsKnown at h
  refine g_iconst (pc1 := 1) (v := 0) d_Mod_isAsKnown_0 rfl (by decide) ?_
  refine g_istore_n (pc1 := 2) (lv' := [(0, .ref 401), (1, .int p1), (2, .int 0)]) d_Mod_isAsKnown_1 rfl rfl (by decide) [1, 2, 0] rfl ?_
  exact h_Mod_isAsKnown_2 hld  hQ  _ 0 M h

def J_Mod_pinch_144 (v2 : Int32) (v4 : Int32) (v5 : Int32) (M : gM) : Option (Int32 × gM) :=
  (if v2 = 0 then some (v4, M) else some (v5, M))
set_option maxHeartbeats 4000000 in
set_option maxRecDepth 20000 in
theorem j_Mod_pinch_144 {l : Launch} {ld : Nat} {Q : Option Value → gM → gL → gR → Prop} (hld : isLa ld)   {q : Int32 × gM} {M : gM} {L : gL} (hQ : Q (some (.int q.1)) q.2 L (rf ld))  {v2 : Int32} {v4 : Int32} {v5 : Int32}  (h : J_Mod_pinch_144 v2 v4 v5 M = some q) : Wp l y_Mod_pinch (0, 0, 447) 447 0 0 144 [(2, .int v2), (4, .int v4), (5, .int v5)] [] M L (rf ld) Q := by
  unfold J_Mod_pinch_144 at h
  refine g_iload_n (pc1 := 145) d_Mod_pinch_144 rfl 0 rfl ?_
  refine g_if_ne (pc1 := 148) (tgt := 153) d_Mod_pinch_145 (by decide) rfl (fun c13 => ?_) (fun c13 => ?_)
  · replace h := itn h c13
    refine g_iload (pc1 := 155) d_Mod_pinch_153 rfl 2 rfl ?_
    refine g_ireturn (Or.inl rfl) d_Mod_pinch_155 rfl ?_
    cases h; exact hQ
  · replace h := itp h c13
    refine g_iload (pc1 := 150) d_Mod_pinch_148 rfl 1 rfl ?_
    refine g_goto (tgt := 155) d_Mod_pinch_150 (by decide) ?_
    refine g_ireturn (Or.inl rfl) d_Mod_pinch_155 rfl ?_
    cases h; exact hQ
def J_Mod_pinch_138 (K46 : Int32 → Int32 → Int32 → gM → Option (Int32 × gM)) (v1 : Int32) (v2 : Int32) (v3 : Int32) (v4 : Int32) (v5 : Int32) (v6 : Int32) (M : gM) : Option (Int32 × gM) :=
  nmI (v6 + 1) (fun x16 => K46 v4 v5 x16 M)
set_option maxHeartbeats 4000000 in
set_option maxRecDepth 20000 in
theorem j_Mod_pinch_138 {l : Launch} {ld : Nat} {Q : Option Value → gM → gL → gR → Prop} (hld : isLa ld)   {q : Int32 × gM} {M : gM} {L : gL} (hQ : Q (some (.int q.1)) q.2 L (rf ld)) {K46 : Int32 → Int32 → Int32 → gM → Option (Int32 × gM)} {v1 : Int32} {v2 : Int32} {v3 : Int32} {v4 : Int32} {v5 : Int32} {v6 : Int32} (hK46 : ∀ (w4 : Int32) (w5 : Int32) (w6 : Int32) (M : gM), K46 w4 w5 w6 M = some q → Wp l y_Mod_pinch (0, 0, 447) 447 0 0 46 [(0, .ref 401), (1, .int v1), (2, .int v2), (3, .int v3), (4, .int w4), (5, .int w5), (6, .int w6)] [] M L (rf ld) Q) (h : J_Mod_pinch_138 K46 v1 v2 v3 v4 v5 v6 M = some q) : Wp l y_Mod_pinch (0, 0, 447) 447 0 0 138 [(0, .ref 401), (1, .int v1), (2, .int v2), (3, .int v3), (4, .int v4), (5, .int v5), (6, .int v6)] [] M L (rf ld) Q := by
  unfold J_Mod_pinch_138 at h
  obtain ⟨x16, ex16, h⟩ := ltI h
  refine g_iinc (pc1 := 141) (v := x16) (lv' := [(0, .ref 401), (1, .int v1), (2, .int v2), (3, .int v3), (4, .int v4), (5, .int v5), (6, .int x16)]) d_Mod_pinch_138 rfl 6 rfl (by rw [ex16]; rfl) (by decide) [1, 2, 3, 4, 5, 6, 0] rfl ?_
  refine g_goto (tgt := 46) d_Mod_pinch_141 (by decide) ?_
  exact hK46 v4 v5 x16 M h
def J_Mod_pinch_120 (K46 : Int32 → Int32 → Int32 → gM → Option (Int32 × gM)) (v1 : Int32) (v2 : Int32) (v3 : Int32) (v4 : Int32) (v5 : Int32) (v6 : Int32) (v7 : Int32) (M : gM) : Option (Int32 × gM) :=
  (if v5 < v7 then J_Mod_pinch_138 K46 v1 v2 v3 v6 v7 v6 M else J_Mod_pinch_138 K46 v1 v2 v3 v4 v5 v6 M)
set_option maxHeartbeats 4000000 in
set_option maxRecDepth 20000 in
theorem j_Mod_pinch_120 {l : Launch} {ld : Nat} {Q : Option Value → gM → gL → gR → Prop} (hld : isLa ld)   {q : Int32 × gM} {M : gM} {L : gL} (hQ : Q (some (.int q.1)) q.2 L (rf ld)) {K46 : Int32 → Int32 → Int32 → gM → Option (Int32 × gM)} {v1 : Int32} {v2 : Int32} {v3 : Int32} {v4 : Int32} {v5 : Int32} {v6 : Int32} {v7 : Int32} (hK46 : ∀ (w4 : Int32) (w5 : Int32) (w6 : Int32) (M : gM), K46 w4 w5 w6 M = some q → Wp l y_Mod_pinch (0, 0, 447) 447 0 0 46 [(0, .ref 401), (1, .int v1), (2, .int v2), (3, .int v3), (4, .int w4), (5, .int w5), (6, .int w6)] [] M L (rf ld) Q) (h : J_Mod_pinch_120 K46 v1 v2 v3 v4 v5 v6 v7 M = some q) : Wp l y_Mod_pinch (0, 0, 447) 447 0 0 120 [(0, .ref 401), (1, .int v1), (2, .int v2), (3, .int v3), (4, .int v4), (5, .int v5), (6, .int v6), (7, .int v7)] [] M L (rf ld) Q := by
  unfold J_Mod_pinch_120 at h
  refine g_iload (pc1 := 122) d_Mod_pinch_120 rfl 7 rfl ?_
  refine g_iload (pc1 := 124) d_Mod_pinch_122 rfl 5 rfl ?_
  refine g_icmp_gt (pc1 := 127) (tgt := 130) d_Mod_pinch_124 (by decide) rfl (fun c15 => ?_) (fun c15 => ?_)
  · replace h := itp h c15
    refine g_iload (pc1 := 132) d_Mod_pinch_130 rfl 6 rfl ?_
    refine g_istore (pc1 := 134) (lv' := [(0, .ref 401), (1, .int v1), (2, .int v2), (3, .int v3), (4, .int v6), (5, .int v5), (6, .int v6), (7, .int v7)]) d_Mod_pinch_132 rfl (by decide) [1, 2, 3, 4, 0, 5, 6, 7] rfl ?_
    refine g_iload (pc1 := 136) d_Mod_pinch_134 rfl 7 rfl ?_
    refine g_istore (pc1 := 138) (lv' := [(0, .ref 401), (1, .int v1), (2, .int v2), (3, .int v3), (4, .int v6), (5, .int v7), (6, .int v6), (7, .int v7)]) d_Mod_pinch_136 rfl (by decide) [1, 2, 3, 4, 5, 0, 6, 7] rfl ?_
    refine Wp.loc (lv' := [(0, .ref 401), (1, .int v1), (2, .int v2), (3, .int v3), (4, .int v6), (5, .int v7), (6, .int v6)]) [0, 1, 2, 3, 4, 5, 6] rfl ?_
    exact j_Mod_pinch_138 hld  hQ hK46 h
  · replace h := itn h c15
    refine g_goto (tgt := 138) d_Mod_pinch_127 (by decide) ?_
    refine Wp.loc (lv' := [(0, .ref 401), (1, .int v1), (2, .int v2), (3, .int v3), (4, .int v4), (5, .int v5), (6, .int v6)]) [0, 1, 2, 3, 4, 5, 6] rfl ?_
    exact j_Mod_pinch_138 hld  hQ hK46 h
def B_Mod_pinch_66 (K46 : Int32 → Int32 → Int32 → gM → Option (Int32 × gM)) (v1 : Int32) (v2 : Int32) (v3 : Int32) (v4 : Int32) (v5 : Int32) (v6 : Int32) (K66 : Int32 → Int32 → gM → Option (Int32 × gM)) : Int32 → Int32 → gM → Option (Int32 × gM) := fun v7 v8 M =>
  (if 3 ≤ v8 then J_Mod_pinch_120 K46 v1 v2 v3 v4 v5 v6 v7 M else bI (F_Mod_fillsPot v1 M) (fun M18 => bI2 (F_Mod_forceBy v8 v3 M18) (fun r20 M21 => (if (v6 : Int32) < 0 ∨ 6 ≤ (v6 : Int32).toNatClampNeg then none else (if (v6 : Int32) < 0 ∨ 6 ≤ (v6 : Int32).toNatClampNeg then none else nmM (uM M21 438 (v6 : Int32).toNatClampNeg ((M21 438 (v6 : Int32).toNatClampNeg) + 1)) (fun M24 => bI2 (F_Mod_forceBy v8 v3 M24) (fun r26 M27 => bI (F_Mod_off r20 r26) (fun r29 => nmI (v7 + r29) (fun x30 => nmI (v8 + 1) (fun x31 => K66 x30 x31 M27))))))))))
def H_Mod_pinch_66 (K46 : Int32 → Int32 → Int32 → gM → Option (Int32 × gM)) (v1 : Int32) (v2 : Int32) (v3 : Int32) (v4 : Int32) (v5 : Int32) (v6 : Int32) : Nat → Int32 → Int32 → gM → Option (Int32 × gM) := lpK (B_Mod_pinch_66 K46 v1 v2 v3 v4 v5 v6) (fun _ _ _ => none)
set_option maxHeartbeats 4000000 in
set_option maxRecDepth 20000 in
theorem h_Mod_pinch_66 {l : Launch} {ld : Nat} {Q : Option Value → gM → gL → gR → Prop} (hld : isLa ld)   {q : Int32 × gM} {L : gL} (hQ : Q (some (.int q.1)) q.2 L (rf ld)) {K46 : Int32 → Int32 → Int32 → gM → Option (Int32 × gM)} {v1 : Int32} {v2 : Int32} {v3 : Int32} {v4 : Int32} {v5 : Int32} {v6 : Int32} (hK46 : ∀ (w4 : Int32) (w5 : Int32) (w6 : Int32) (M : gM), K46 w4 w5 w6 M = some q → Wp l y_Mod_pinch (0, 0, 447) 447 0 0 46 [(0, .ref 401), (1, .int v1), (2, .int v2), (3, .int v3), (4, .int w4), (5, .int w5), (6, .int w6)] [] M L (rf ld) Q) : ∀ (f : Nat) (v7 : Int32) (v8 : Int32) (M : gM), H_Mod_pinch_66 K46 v1 v2 v3 v4 v5 v6 f v7 v8 M = some q → Wp l y_Mod_pinch (0, 0, 447) 447 0 0 66 [(0, .ref 401), (1, .int v1), (2, .int v2), (3, .int v3), (4, .int v4), (5, .int v5), (6, .int v6), (7, .int v7), (8, .int v8)] [] M L (rf ld) Q := by
  intro f
  induction f with
  | zero => intro v7 v8 M h; cases h
  | succ f hK66 =>
    intro v7 v8 M h
    replace h : B_Mod_pinch_66 K46 v1 v2 v3 v4 v5 v6 (H_Mod_pinch_66 K46 v1 v2 v3 v4 v5 v6 f) v7 v8 M = some q := h
    unfold B_Mod_pinch_66 at h
    refine g_iload (pc1 := 68) d_Mod_pinch_66 rfl 8 rfl ?_
    refine g_iconst (pc1 := 69) (v := 3) d_Mod_pinch_68 rfl (by decide) ?_
    refine g_icmp_ge (pc1 := 72) (tgt := 120) d_Mod_pinch_69 (by decide) rfl (fun c14 => ?_) (fun c14 => ?_)
    · replace h := itp h c14
      refine Wp.loc (lv' := [(0, .ref 401), (1, .int v1), (2, .int v2), (3, .int v3), (4, .int v4), (5, .int v5), (6, .int v6), (7, .int v7)]) [0, 1, 2, 3, 4, 5, 6, 7] rfl ?_
      exact j_Mod_pinch_120 hld  hQ hK46 h
    · replace h := itn h c14
      refine g_aload_n (pc1 := 73) d_Mod_pinch_72 rfl 0 rfl ?_
      refine g_iload_n (pc1 := 74) d_Mod_pinch_73 rfl 1 rfl ?_
      refine g_callV0 (pc1 := 77) (As := [.int v1]) (rest := []) d_Mod_pinch_74 rfl mo_Mod_356 mi_Mod_fillsPot mv_Mod_fillsPot rfl sh_401 (by decide) (by decide) rfl rfl (Nat.le_of_ble_eq_true rfl) ?_
      obtain ⟨M18, hq17, h⟩ := bnd h
      refine f_Mod_fillsPot hld  hq17 ?_
      dsimp only [psh]
      refine g_aload_n (pc1 := 78) d_Mod_pinch_77 rfl 0 rfl ?_
      refine g_iload (pc1 := 80) d_Mod_pinch_78 rfl 8 rfl ?_
      refine g_iload_n (pc1 := 81) d_Mod_pinch_80 rfl 3 rfl ?_
      refine g_callV0 (pc1 := 84) (As := [.int v8, .int v3]) (rest := []) d_Mod_pinch_81 rfl mo_Mod_359 mi_Mod_forceBy mv_Mod_forceBy rfl sh_401 (by decide) (by decide) rfl rfl (Nat.le_of_ble_eq_true rfl) ?_
      obtain ⟨r20, M21, hq19, h⟩ := bnd2 h
      refine f_Mod_forceBy hld  hq19 ?_
      dsimp only [psh]
      refine g_istore (pc1 := 86) (lv' := [(0, .ref 401), (1, .int v1), (2, .int v2), (3, .int v3), (4, .int v4), (5, .int v5), (6, .int v6), (7, .int v7), (8, .int v8), (9, .int r20)]) d_Mod_pinch_84 rfl (by decide) [1, 2, 3, 4, 5, 6, 7, 8, 9, 0] rfl ?_
      refine g_aload_n (pc1 := 87) d_Mod_pinch_86 rfl 0 rfl ?_
      refine g_getr (pc1 := 90) d_Mod_pinch_87 rfl ⟨_, fo_Mod_128⟩ sh_401 (by decide) (rf_401_55 ld) ?_
      refine g_iload (pc1 := 92) d_Mod_pinch_90 rfl 6 rfl ?_
      refine g_dup2 (pc1 := 93) d_Mod_pinch_92 rfl rfl rfl ?_
      obtain ⟨g22, h⟩ := gdn h
      refine g_iald (pc1 := 94) d_Mod_pinch_93 rfl sh_438 (by decide) g22 ?_
      refine g_iconst (pc1 := 95) (v := 1) d_Mod_pinch_94 rfl (by decide) ?_
      refine g_iadd (pc1 := 96) d_Mod_pinch_95 rfl ?_
      obtain ⟨g23, h⟩ := gdn h
      refine g_iast (pc1 := 97) d_Mod_pinch_96 rfl sh_438 (by decide) g23 ?_
      refine Wp.lM h (fun M24 h => ?_)
      refine g_iload (pc1 := 99) d_Mod_pinch_97 rfl 7 rfl ?_
      refine g_iload (pc1 := 101) d_Mod_pinch_99 rfl 9 rfl ?_
      refine g_aload_n (pc1 := 102) d_Mod_pinch_101 rfl 0 rfl ?_
      refine g_iload (pc1 := 104) d_Mod_pinch_102 rfl 8 rfl ?_
      refine g_iload_n (pc1 := 105) d_Mod_pinch_104 rfl 3 rfl ?_
      refine g_callV0 (pc1 := 108) (As := [.int v8, .int v3]) (rest := [.int r20, .int v7]) d_Mod_pinch_105 rfl mo_Mod_359 mi_Mod_forceBy mv_Mod_forceBy rfl sh_401 (by decide) (by decide) rfl rfl (Nat.le_of_ble_eq_true rfl) ?_
      obtain ⟨r26, M27, hq25, h⟩ := bnd2 h
      refine f_Mod_forceBy hld  hq25 ?_
      dsimp only [psh]
      refine g_callS0 (pc1 := 111) (As := [.int r20, .int r26]) (rest := [.int v7]) d_Mod_pinch_108 rfl mo_Mod_425 ms_Mod_off (by decide) rfl rfl (Nat.le_of_ble_eq_true rfl) ?_
      obtain ⟨r29, hq28, h⟩ := bnd h
      refine f_Mod_off hld  hq28 ?_
      dsimp only [psh]
      refine g_iadd (pc1 := 112) d_Mod_pinch_111 rfl ?_
      refine Wp.lI h (fun x30 h => ?_)
      refine g_istore (pc1 := 114) (lv' := [(0, .ref 401), (1, .int v1), (2, .int v2), (3, .int v3), (4, .int v4), (5, .int v5), (6, .int v6), (7, .int x30), (8, .int v8), (9, .int r20)]) d_Mod_pinch_112 rfl (by decide) [1, 2, 3, 4, 5, 6, 7, 0, 8, 9] rfl ?_
      obtain ⟨x31, ex31, h⟩ := ltI h
      refine g_iinc (pc1 := 117) (v := x31) (lv' := [(0, .ref 401), (1, .int v1), (2, .int v2), (3, .int v3), (4, .int v4), (5, .int v5), (6, .int v6), (7, .int x30), (8, .int x31), (9, .int r20)]) d_Mod_pinch_114 rfl 8 rfl (by rw [ex31]; rfl) (by decide) [1, 2, 3, 4, 5, 6, 7, 8, 0, 9] rfl ?_
      refine g_goto (tgt := 66) d_Mod_pinch_117 (by decide) ?_
      refine Wp.loc (lv' := [(0, .ref 401), (1, .int v1), (2, .int v2), (3, .int v3), (4, .int v4), (5, .int v5), (6, .int v6), (7, .int x30), (8, .int x31)]) [0, 1, 2, 3, 4, 5, 6, 7, 8] rfl ?_
      exact hK66 x30 x31 M27 h
def B_Mod_pinch_46 (v1 : Int32) (v2 : Int32) (v3 : Int32) (K46 : Int32 → Int32 → Int32 → gM → Option (Int32 × gM)) : Int32 → Int32 → Int32 → gM → Option (Int32 × gM) := fun v4 v5 v6 M =>
  (if ((M 401 18) : Int32) < 0 ∨ 2 ≤ ((M 401 18) : Int32).toNatClampNeg then none else (if (M 411 ((M 401 18) : Int32).toNatClampNeg) ≤ v6 then J_Mod_pinch_144 v2 v4 v5 M else H_Mod_pinch_66 K46 v1 v2 v3 v4 v5 v6 FU 0 0 M))
def H_Mod_pinch_46 (v1 : Int32) (v2 : Int32) (v3 : Int32) : Nat → Int32 → Int32 → Int32 → gM → Option (Int32 × gM) := lpK (B_Mod_pinch_46 v1 v2 v3) (fun _ _ _ _ => none)
set_option maxHeartbeats 4000000 in
set_option maxRecDepth 20000 in
theorem h_Mod_pinch_46 {l : Launch} {ld : Nat} {Q : Option Value → gM → gL → gR → Prop} (hld : isLa ld)   {q : Int32 × gM} {L : gL} (hQ : Q (some (.int q.1)) q.2 L (rf ld))  {v1 : Int32} {v2 : Int32} {v3 : Int32}  : ∀ (f : Nat) (v4 : Int32) (v5 : Int32) (v6 : Int32) (M : gM), H_Mod_pinch_46 v1 v2 v3 f v4 v5 v6 M = some q → Wp l y_Mod_pinch (0, 0, 447) 447 0 0 46 [(0, .ref 401), (1, .int v1), (2, .int v2), (3, .int v3), (4, .int v4), (5, .int v5), (6, .int v6)] [] M L (rf ld) Q := by
  intro f
  induction f with
  | zero => intro v4 v5 v6 M h; cases h
  | succ f hK46 =>
    intro v4 v5 v6 M h
    replace h : B_Mod_pinch_46 v1 v2 v3 (H_Mod_pinch_46 v1 v2 v3 f) v4 v5 v6 M = some q := h
    unfold B_Mod_pinch_46 at h
    refine g_iload (pc1 := 48) d_Mod_pinch_46 rfl 6 rfl ?_
    refine g_aload_n (pc1 := 49) d_Mod_pinch_48 rfl 0 rfl ?_
    refine g_getr (pc1 := 52) d_Mod_pinch_49 rfl ⟨_, fo_Mod_46⟩ sh_401 (by decide) (rf_401_23 ld) ?_
    refine g_aload_n (pc1 := 53) d_Mod_pinch_52 rfl 0 rfl ?_
    refine g_geti (pc1 := 56) d_Mod_pinch_53 rfl ⟨_, fo_Mod_236⟩ sh_401 (by decide) ?_
    obtain ⟨g11, h⟩ := gdn h
    refine g_iald (pc1 := 57) d_Mod_pinch_56 rfl sh_411 (by decide) g11 ?_
    refine g_icmp_ge (pc1 := 60) (tgt := 144) d_Mod_pinch_57 (by decide) rfl (fun c12 => ?_) (fun c12 => ?_)
    · replace h := itp h c12
      refine Wp.loc (lv' := [(2, .int v2), (4, .int v4), (5, .int v5)]) [2, 4, 5] rfl ?_
      exact j_Mod_pinch_144 hld  hQ  h
    · replace h := itn h c12
      refine g_iconst (pc1 := 61) (v := 0) d_Mod_pinch_60 rfl (by decide) ?_
      refine g_istore (pc1 := 63) (lv' := [(0, .ref 401), (1, .int v1), (2, .int v2), (3, .int v3), (4, .int v4), (5, .int v5), (6, .int v6), (7, .int 0)]) d_Mod_pinch_61 rfl (by decide) [1, 2, 3, 4, 5, 6, 7, 0] rfl ?_
      refine g_iconst (pc1 := 64) (v := 0) d_Mod_pinch_63 rfl (by decide) ?_
      refine g_istore (pc1 := 66) (lv' := [(0, .ref 401), (1, .int v1), (2, .int v2), (3, .int v3), (4, .int v4), (5, .int v5), (6, .int v6), (7, .int 0), (8, .int 0)]) d_Mod_pinch_64 rfl (by decide) [1, 2, 3, 4, 5, 6, 7, 8, 0] rfl ?_
      exact h_Mod_pinch_66 hld  hQ hK46 _ 0 0 M h
def F_Mod_pinch (p1 : Int32) (p2 : Int32) (M : gM) : Option (Int32 × gM) :=
  bI (F_Mod_isDish p1 M) (fun r2 => (if r2 = 0 then some ((-1), M) else bI (F_Mod_in p2 0 1) (fun r5 => (if r5 = 0 then some ((-1), M) else bI (F_Mod_copies M) (fun M8 => (if (((5 * (M8 401 18)) + p1) : Int32) < 0 ∨ 10 ≤ (((5 * (M8 401 18)) + p1) : Int32).toNatClampNeg then none else nmI (M8 416 (((5 * (M8 401 18)) + p1) : Int32).toNatClampNeg) (fun x10 => H_Mod_pinch_46 p1 p2 x10 FU 0 (-1) 0 M8)))))))
set_option maxHeartbeats 4000000 in
set_option maxRecDepth 20000 in
theorem f_Mod_pinch {l : Launch} {ld : Nat} {M : gM} {L : gL} {Q : Option Value → gM → gL → gR → Prop} (hld : isLa ld) {p1 : Int32} {p2 : Int32}  {q : Int32 × gM} (h : F_Mod_pinch p1 p2 M = some q) (hQ : Q (some (.int q.1)) q.2 L (rf ld)) : Tm l y_Mod_pinch (0, 0, 447) 447 [.ref 401, .int p1, .int p2] M L (rf ld) Q := by
  refine Tm.of (by decide) (Nat.le_of_ble_eq_true rfl) ?_
  show Wp l y_Mod_pinch (0, 0, 447) 447 0 0 0 [(0, .ref 401), (1, .int p1), (2, .int p2)] [] M L (rf ld) Q
  unfold F_Mod_pinch at h
  refine g_aload_n (pc1 := 1) d_Mod_pinch_0 rfl 0 rfl ?_
  refine g_iload_n (pc1 := 2) d_Mod_pinch_1 rfl 1 rfl ?_
  refine g_callV0 (pc1 := 5) (As := [.int p1]) (rest := []) d_Mod_pinch_2 rfl mo_Mod_374 mi_Mod_isDish mv_Mod_isDish rfl sh_401 (by decide) (by decide) rfl rfl (Nat.le_of_ble_eq_true rfl) ?_
  obtain ⟨r2, hq1, h⟩ := bnd h
  refine f_Mod_isDish hld  hq1 ?_
  dsimp only [psh]
  refine g_if_eq (pc1 := 8) (tgt := 17) d_Mod_pinch_5 (by decide) rfl (fun c3 => ?_) (fun c3 => ?_)
  · replace h := itp h c3
    refine g_iconst (pc1 := 18) (v := (-1)) d_Mod_pinch_17 rfl (by decide) ?_
    refine g_ireturn (Or.inl rfl) d_Mod_pinch_18 rfl ?_
    cases h; exact hQ
  · replace h := itn h c3
    refine g_iload_n (pc1 := 9) d_Mod_pinch_8 rfl 2 rfl ?_
    refine g_iconst (pc1 := 10) (v := 0) d_Mod_pinch_9 rfl (by decide) ?_
    refine g_iconst (pc1 := 11) (v := 1) d_Mod_pinch_10 rfl (by decide) ?_
    refine g_callS0 (pc1 := 14) (As := [.int p2, .int 0, .int 1]) (rest := []) d_Mod_pinch_11 rfl mo_Mod_316 ms_Mod_in (by decide) rfl rfl (Nat.le_of_ble_eq_true rfl) ?_
    obtain ⟨r5, hq4, h⟩ := bnd h
    refine f_Mod_in hld  hq4 ?_
    dsimp only [psh]
    refine g_if_ne (pc1 := 17) (tgt := 19) d_Mod_pinch_14 (by decide) rfl (fun c6 => ?_) (fun c6 => ?_)
    · replace h := itn h c6
      refine g_aload_n (pc1 := 20) d_Mod_pinch_19 rfl 0 rfl ?_
      refine g_callV0 (pc1 := 23) (As := []) (rest := []) d_Mod_pinch_20 rfl mo_Mod_377 mi_Mod_copies mv_Mod_copies rfl sh_401 (by decide) (by decide) rfl rfl (Nat.le_of_ble_eq_true rfl) ?_
      obtain ⟨M8, hq7, h⟩ := bnd h
      refine f_Mod_copies hld  hq7 ?_
      dsimp only [psh]
      refine g_aload_n (pc1 := 24) d_Mod_pinch_23 rfl 0 rfl ?_
      refine g_getr (pc1 := 27) d_Mod_pinch_24 rfl ⟨_, fo_Mod_61⟩ sh_401 (by decide) (rf_401_28 ld) ?_
      refine g_iconst (pc1 := 28) (v := 5) d_Mod_pinch_27 rfl (by decide) ?_
      refine g_aload_n (pc1 := 29) d_Mod_pinch_28 rfl 0 rfl ?_
      refine g_geti (pc1 := 32) d_Mod_pinch_29 rfl ⟨_, fo_Mod_236⟩ sh_401 (by decide) ?_
      refine g_imul (pc1 := 33) d_Mod_pinch_32 rfl ?_
      refine g_iload_n (pc1 := 34) d_Mod_pinch_33 rfl 1 rfl ?_
      refine g_iadd (pc1 := 35) d_Mod_pinch_34 rfl ?_
      obtain ⟨g9, h⟩ := gdn h
      refine g_iald (pc1 := 36) d_Mod_pinch_35 rfl sh_416 (by decide) g9 ?_
      refine Wp.lI h (fun x10 h => ?_)
      refine g_istore_n (pc1 := 37) (lv' := [(0, .ref 401), (1, .int p1), (2, .int p2), (3, .int x10)]) d_Mod_pinch_36 rfl rfl (by decide) [1, 2, 3, 0] rfl ?_
      refine g_iconst (pc1 := 38) (v := 0) d_Mod_pinch_37 rfl (by decide) ?_
      refine g_istore (pc1 := 40) (lv' := [(0, .ref 401), (1, .int p1), (2, .int p2), (3, .int x10), (4, .int 0)]) d_Mod_pinch_38 rfl (by decide) [1, 2, 3, 4, 0] rfl ?_
      refine g_iconst (pc1 := 41) (v := (-1)) d_Mod_pinch_40 rfl (by decide) ?_
      refine g_istore (pc1 := 43) (lv' := [(0, .ref 401), (1, .int p1), (2, .int p2), (3, .int x10), (4, .int 0), (5, .int (-1))]) d_Mod_pinch_41 rfl (by decide) [1, 2, 3, 4, 5, 0] rfl ?_
      refine g_iconst (pc1 := 44) (v := 0) d_Mod_pinch_43 rfl (by decide) ?_
      refine g_istore (pc1 := 46) (lv' := [(0, .ref 401), (1, .int p1), (2, .int p2), (3, .int x10), (4, .int 0), (5, .int (-1)), (6, .int 0)]) d_Mod_pinch_44 rfl (by decide) [1, 2, 3, 4, 5, 6, 0] rfl ?_
      exact h_Mod_pinch_46 hld  hQ  _ 0 (-1) 0 M8 h
    · replace h := itp h c6
      refine g_iconst (pc1 := 18) (v := (-1)) d_Mod_pinch_17 rfl (by decide) ?_
      refine g_ireturn (Or.inl rfl) d_Mod_pinch_18 rfl ?_
      cases h; exact hQ

def J_Mod_potAt_46 (K3 : Int32 → gM → Option (Int32 × gM)) (v1 : Int32) (v2 : Int32) (v3 : Int32) (v4 : Int32) (M : gM) : Option (Int32 × gM) :=
  nmI (v4 + 1) (fun x6 => K3 x6 M)
set_option maxHeartbeats 4000000 in
set_option maxRecDepth 20000 in
theorem j_Mod_potAt_46 {l : Launch} {ld : Nat} {Q : Option Value → gM → gL → gR → Prop} (hld : isLa ld)   {q : Int32 × gM} {M : gM} {L : gL} (hQ : Q (some (.int q.1)) q.2 L (rf ld)) {K3 : Int32 → gM → Option (Int32 × gM)} {v1 : Int32} {v2 : Int32} {v3 : Int32} {v4 : Int32} (hK3 : ∀ (w4 : Int32) (M : gM), K3 w4 M = some q → Wp l y_Mod_potAt (0, 0, 447) 447 0 0 3 [(0, .ref 401), (1, .int v1), (2, .int v2), (3, .int v3), (4, .int w4)] [] M L (rf ld) Q) (h : J_Mod_potAt_46 K3 v1 v2 v3 v4 M = some q) : Wp l y_Mod_potAt (0, 0, 447) 447 0 0 46 [(0, .ref 401), (1, .int v1), (2, .int v2), (3, .int v3), (4, .int v4)] [] M L (rf ld) Q := by
  unfold J_Mod_potAt_46 at h
  obtain ⟨x6, ex6, h⟩ := ltI h
  refine g_iinc (pc1 := 49) (v := x6) (lv' := [(0, .ref 401), (1, .int v1), (2, .int v2), (3, .int v3), (4, .int x6)]) d_Mod_potAt_46 rfl 4 rfl (by rw [ex6]; rfl) (by decide) [1, 2, 3, 4, 0] rfl ?_
  refine g_goto (tgt := 3) d_Mod_potAt_49 (by decide) ?_
  exact hK3 x6 M h
def B_Mod_potAt_3 (v1 : Int32) (v2 : Int32) (v3 : Int32) (K3 : Int32 → gM → Option (Int32 × gM)) : Int32 → gM → Option (Int32 × gM) := fun v4 M =>
  (if 9 < v4 then some ((-1), M) else bI2 (F_Mod_forceBy 0 v4 M) (fun r3 M4 => (if r3 < v1 then J_Mod_potAt_46 K3 v1 v2 v3 v4 M4 else bI2 (F_Mod_forceBy 1 v4 M4) (fun r8 M9 => (if r8 < v2 then J_Mod_potAt_46 K3 v1 v2 v3 v4 M9 else bI2 (F_Mod_forceBy 2 v4 M9) (fun r12 M13 => (if r12 < v3 then J_Mod_potAt_46 K3 v1 v2 v3 v4 M13 else some (v4, M13))))))))
def H_Mod_potAt_3 (v1 : Int32) (v2 : Int32) (v3 : Int32) : Nat → Int32 → gM → Option (Int32 × gM) := lpK (B_Mod_potAt_3 v1 v2 v3) (fun _ _ => none)
set_option maxHeartbeats 4000000 in
set_option maxRecDepth 20000 in
theorem h_Mod_potAt_3 {l : Launch} {ld : Nat} {Q : Option Value → gM → gL → gR → Prop} (hld : isLa ld)   {q : Int32 × gM} {L : gL} (hQ : Q (some (.int q.1)) q.2 L (rf ld))  {v1 : Int32} {v2 : Int32} {v3 : Int32}  : ∀ (f : Nat) (v4 : Int32) (M : gM), H_Mod_potAt_3 v1 v2 v3 f v4 M = some q → Wp l y_Mod_potAt (0, 0, 447) 447 0 0 3 [(0, .ref 401), (1, .int v1), (2, .int v2), (3, .int v3), (4, .int v4)] [] M L (rf ld) Q := by
  intro f
  induction f with
  | zero => intro v4 M h; cases h
  | succ f hK3 =>
    intro v4 M h
    replace h : B_Mod_potAt_3 v1 v2 v3 (H_Mod_potAt_3 v1 v2 v3 f) v4 M = some q := h
    unfold B_Mod_potAt_3 at h
    refine g_iload (pc1 := 5) d_Mod_potAt_3 rfl 4 rfl ?_
    refine g_bipush (pc1 := 7) (v := 9) d_Mod_potAt_5 rfl (by decide) ?_
    refine g_icmp_gt (pc1 := 10) (tgt := 52) d_Mod_potAt_7 (by decide) rfl (fun c1 => ?_) (fun c1 => ?_)
    · replace h := itp h c1
      refine g_iconst (pc1 := 53) (v := (-1)) d_Mod_potAt_52 rfl (by decide) ?_
      refine g_ireturn (Or.inl rfl) d_Mod_potAt_53 rfl ?_
      cases h; exact hQ
    · replace h := itn h c1
      refine g_aload_n (pc1 := 11) d_Mod_potAt_10 rfl 0 rfl ?_
      refine g_iconst (pc1 := 12) (v := 0) d_Mod_potAt_11 rfl (by decide) ?_
      refine g_iload (pc1 := 14) d_Mod_potAt_12 rfl 4 rfl ?_
      refine g_callV0 (pc1 := 17) (As := [.int 0, .int v4]) (rest := []) d_Mod_potAt_14 rfl mo_Mod_359 mi_Mod_forceBy mv_Mod_forceBy rfl sh_401 (by decide) (by decide) rfl rfl (Nat.le_of_ble_eq_true rfl) ?_
      obtain ⟨r3, M4, hq2, h⟩ := bnd2 h
      refine f_Mod_forceBy hld  hq2 ?_
      dsimp only [psh]
      refine g_iload_n (pc1 := 18) d_Mod_potAt_17 rfl 1 rfl ?_
      refine g_icmp_lt (pc1 := 21) (tgt := 46) d_Mod_potAt_18 (by decide) rfl (fun c5 => ?_) (fun c5 => ?_)
      · replace h := itp h c5
        exact j_Mod_potAt_46 hld  hQ hK3 h
      · replace h := itn h c5
        refine g_aload_n (pc1 := 22) d_Mod_potAt_21 rfl 0 rfl ?_
        refine g_iconst (pc1 := 23) (v := 1) d_Mod_potAt_22 rfl (by decide) ?_
        refine g_iload (pc1 := 25) d_Mod_potAt_23 rfl 4 rfl ?_
        refine g_callV0 (pc1 := 28) (As := [.int 1, .int v4]) (rest := []) d_Mod_potAt_25 rfl mo_Mod_359 mi_Mod_forceBy mv_Mod_forceBy rfl sh_401 (by decide) (by decide) rfl rfl (Nat.le_of_ble_eq_true rfl) ?_
        obtain ⟨r8, M9, hq7, h⟩ := bnd2 h
        refine f_Mod_forceBy hld  hq7 ?_
        dsimp only [psh]
        refine g_iload_n (pc1 := 29) d_Mod_potAt_28 rfl 2 rfl ?_
        refine g_icmp_lt (pc1 := 32) (tgt := 46) d_Mod_potAt_29 (by decide) rfl (fun c10 => ?_) (fun c10 => ?_)
        · replace h := itp h c10
          exact j_Mod_potAt_46 hld  hQ hK3 h
        · replace h := itn h c10
          refine g_aload_n (pc1 := 33) d_Mod_potAt_32 rfl 0 rfl ?_
          refine g_iconst (pc1 := 34) (v := 2) d_Mod_potAt_33 rfl (by decide) ?_
          refine g_iload (pc1 := 36) d_Mod_potAt_34 rfl 4 rfl ?_
          refine g_callV0 (pc1 := 39) (As := [.int 2, .int v4]) (rest := []) d_Mod_potAt_36 rfl mo_Mod_359 mi_Mod_forceBy mv_Mod_forceBy rfl sh_401 (by decide) (by decide) rfl rfl (Nat.le_of_ble_eq_true rfl) ?_
          obtain ⟨r12, M13, hq11, h⟩ := bnd2 h
          refine f_Mod_forceBy hld  hq11 ?_
          dsimp only [psh]
          refine g_iload_n (pc1 := 40) d_Mod_potAt_39 rfl 3 rfl ?_
          refine g_icmp_lt (pc1 := 43) (tgt := 46) d_Mod_potAt_40 (by decide) rfl (fun c14 => ?_) (fun c14 => ?_)
          · replace h := itp h c14
            exact j_Mod_potAt_46 hld  hQ hK3 h
          · replace h := itn h c14
            refine g_iload (pc1 := 45) d_Mod_potAt_43 rfl 4 rfl ?_
            refine g_ireturn (Or.inl rfl) d_Mod_potAt_45 rfl ?_
            cases h; exact hQ
def F_Mod_potAt (p1 : Int32) (p2 : Int32) (p3 : Int32) (M : gM) : Option (Int32 × gM) :=
  H_Mod_potAt_3 p1 p2 p3 FU 0 M
set_option maxHeartbeats 4000000 in
set_option maxRecDepth 20000 in
theorem f_Mod_potAt {l : Launch} {ld : Nat} {M : gM} {L : gL} {Q : Option Value → gM → gL → gR → Prop} (hld : isLa ld) {p1 : Int32} {p2 : Int32} {p3 : Int32}  {q : Int32 × gM} (h : F_Mod_potAt p1 p2 p3 M = some q) (hQ : Q (some (.int q.1)) q.2 L (rf ld)) : Tm l y_Mod_potAt (0, 0, 447) 447 [.ref 401, .int p1, .int p2, .int p3] M L (rf ld) Q := by
  refine Tm.of (by decide) (Nat.le_of_ble_eq_true rfl) ?_
  show Wp l y_Mod_potAt (0, 0, 447) 447 0 0 0 [(0, .ref 401), (1, .int p1), (2, .int p2), (3, .int p3)] [] M L (rf ld) Q
  unfold F_Mod_potAt at h
  refine g_iconst (pc1 := 1) (v := 0) d_Mod_potAt_0 rfl (by decide) ?_
  refine g_istore (pc1 := 3) (lv' := [(0, .ref 401), (1, .int p1), (2, .int p2), (3, .int p3), (4, .int 0)]) d_Mod_potAt_1 rfl (by decide) [1, 2, 3, 4, 0] rfl ?_
  exact h_Mod_potAt_3 hld  hQ  _ 0 M h

def J_Mod_tellDish_127 (v2 : Int32) (M : gM) (L : gL) : Option (gM × gL) :=
  bI2 (F_Mod_ends v2 (-1) M L) (fun M21 L22 => (if (M21 401 13) = 0 then (if ((M21 401 19) : Int32) < 0 ∨ 2 ≤ ((M21 401 19) : Int32).toNatClampNeg then none else (if ((M21 401 19) : Int32) < 0 ∨ 2 ≤ ((M21 401 19) : Int32).toNatClampNeg then none else nmM (uM M21 415 ((M21 401 19) : Int32).toNatClampNeg ((M21 415 ((M21 401 19) : Int32).toNatClampNeg) + 1)) (fun M26 => some (M26, L22)))) else some (M21, L22)))
set_option maxHeartbeats 4000000 in
set_option maxRecDepth 20000 in
theorem j_Mod_tellDish_127 {l : Launch} {ld : Nat} {Q : Option Value → gM → gL → gR → Prop} (hld : isLa ld)   {q : gM × gL} {M : gM} {L : gL} (hQ : Q none q.1 q.2 (rf ld))  {v2 : Int32}  (h : J_Mod_tellDish_127 v2 M L = some q) : Wp l y_Mod_tellDish (0, 0, 447) 447 0 0 127 [(0, .ref 401), (2, .int v2)] [] M L (rf ld) Q := by
  unfold J_Mod_tellDish_127 at h
  refine g_aload_n (pc1 := 128) d_Mod_tellDish_127 rfl 0 rfl ?_
  refine g_iload_n (pc1 := 129) d_Mod_tellDish_128 rfl 1 rfl ?_
  refine g_iconst (pc1 := 130) (v := (-1)) d_Mod_tellDish_129 rfl (by decide) ?_
  refine g_callV0 (pc1 := 133) (As := [.int v2, .int (-1)]) (rest := []) d_Mod_tellDish_130 rfl mo_Mod_278 mi_Mod_ends mv_Mod_ends rfl sh_401 (by decide) (by decide) rfl rfl (Nat.le_of_ble_eq_true rfl) ?_
  obtain ⟨M21, L22, hq20, h⟩ := bnd2 h
  refine f_Mod_ends hld  hq20 ?_
  dsimp only [psh]
  refine g_aload_n (pc1 := 134) d_Mod_tellDish_133 rfl 0 rfl ?_
  refine g_geti (pc1 := 137) d_Mod_tellDish_134 rfl ⟨_, fo_Mod_206⟩ sh_401 (by decide) ?_
  refine g_if_ne (pc1 := 140) (tgt := 153) d_Mod_tellDish_137 (by decide) rfl (fun c23 => ?_) (fun c23 => ?_)
  · replace h := itn h c23
    refine g_return rfl d_Mod_tellDish_153 rfl ?_
    cases h; exact hQ
  · replace h := itp h c23
    refine g_aload_n (pc1 := 141) d_Mod_tellDish_140 rfl 0 rfl ?_
    refine g_getr (pc1 := 144) d_Mod_tellDish_141 rfl ⟨_, fo_Mod_58⟩ sh_401 (by decide) (rf_401_27 ld) ?_
    refine g_aload_n (pc1 := 145) d_Mod_tellDish_144 rfl 0 rfl ?_
    refine g_geti (pc1 := 148) d_Mod_tellDish_145 rfl ⟨_, fo_Mod_239⟩ sh_401 (by decide) ?_
    refine g_dup2 (pc1 := 149) d_Mod_tellDish_148 rfl rfl rfl ?_
    obtain ⟨g24, h⟩ := gdn h
    refine g_iald (pc1 := 150) d_Mod_tellDish_149 rfl sh_415 (by decide) g24 ?_
    refine g_iconst (pc1 := 151) (v := 1) d_Mod_tellDish_150 rfl (by decide) ?_
    refine g_iadd (pc1 := 152) d_Mod_tellDish_151 rfl ?_
    obtain ⟨g25, h⟩ := gdn h
    refine g_iast (pc1 := 153) d_Mod_tellDish_152 rfl sh_415 (by decide) g25 ?_
    refine Wp.lM h (fun M26 h => ?_)
    refine g_return rfl d_Mod_tellDish_153 rfl ?_
    cases h; exact hQ
def J_Mod_tellDish_109 (K63 : Int32 → gM → Option (gM × gL)) (v1 : Int32) (v2 : Int32) (v3 : Int32) (M : gM) (L : gL) : Option (gM × gL) :=
  nmI (v3 + 1) (fun x18 => (if (M 401 13) = 0 then bI (F_Mod_is 1 M) (fun r28 => (if r28 = 0 then J_Mod_tellDish_127 v2 M L else K63 x18 M)) else J_Mod_tellDish_127 v2 M L))
set_option maxHeartbeats 4000000 in
set_option maxRecDepth 20000 in
theorem j_Mod_tellDish_109 {l : Launch} {ld : Nat} {Q : Option Value → gM → gL → gR → Prop} (hld : isLa ld)   {q : gM × gL} {M : gM} {L : gL} (hQ : Q none q.1 q.2 (rf ld)) {K63 : Int32 → gM → Option (gM × gL)} {v1 : Int32} {v2 : Int32} {v3 : Int32} (hK63 : ∀ (w3 : Int32) (M : gM), K63 w3 M = some q → Wp l y_Mod_tellDish (0, 0, 447) 447 0 0 63 [(0, .ref 401), (1, .int v1), (2, .int v2), (3, .int w3)] [] M L (rf ld) Q) (h : J_Mod_tellDish_109 K63 v1 v2 v3 M L = some q) : Wp l y_Mod_tellDish (0, 0, 447) 447 0 0 109 [(0, .ref 401), (1, .int v1), (2, .int v2), (3, .int v3)] [] M L (rf ld) Q := by
  unfold J_Mod_tellDish_109 at h
  obtain ⟨x18, ex18, h⟩ := ltI h
  refine g_iinc (pc1 := 112) (v := x18) (lv' := [(0, .ref 401), (1, .int v1), (2, .int v2), (3, .int x18)]) d_Mod_tellDish_109 rfl 3 rfl (by rw [ex18]; rfl) (by decide) [1, 2, 3, 0] rfl ?_
  refine g_aload_n (pc1 := 113) d_Mod_tellDish_112 rfl 0 rfl ?_
  refine g_geti (pc1 := 116) d_Mod_tellDish_113 rfl ⟨_, fo_Mod_206⟩ sh_401 (by decide) ?_
  refine g_if_ne (pc1 := 119) (tgt := 127) d_Mod_tellDish_116 (by decide) rfl (fun c19 => ?_) (fun c19 => ?_)
  · replace h := itn h c19
    refine Wp.loc (lv' := [(0, .ref 401), (2, .int v2)]) [0, 2] rfl ?_
    exact j_Mod_tellDish_127 hld  hQ  h
  · replace h := itp h c19
    refine g_aload_n (pc1 := 120) d_Mod_tellDish_119 rfl 0 rfl ?_
    refine g_iconst (pc1 := 121) (v := 1) d_Mod_tellDish_120 rfl (by decide) ?_
    refine g_callV0 (pc1 := 124) (As := [.int 1]) (rest := []) d_Mod_tellDish_121 rfl mo_Mod_224 mi_Mod_is mv_Mod_is rfl sh_401 (by decide) (by decide) rfl rfl (Nat.le_of_ble_eq_true rfl) ?_
    obtain ⟨r28, hq27, h⟩ := bnd h
    refine f_Mod_is hld  hq27 ?_
    dsimp only [psh]
    refine g_if_ne (pc1 := 127) (tgt := 63) d_Mod_tellDish_124 (by decide) rfl (fun c29 => ?_) (fun c29 => ?_)
    · replace h := itn h c29
      exact hK63 x18 M h
    · replace h := itp h c29
      refine Wp.loc (lv' := [(0, .ref 401), (2, .int v2)]) [0, 2] rfl ?_
      exact j_Mod_tellDish_127 hld  hQ  h
def J_Mod_tellDish_74 (K63 : Int32 → gM → Option (gM × gL)) (v1 : Int32) (v2 : Int32) (v3 : Int32) (M : gM) (L : gL) : Option (gM × gL) :=
  (if (M 401 13) ≤ 0 then bI2 (F_Mod_knownFood M L) (fun r15 M16 => (if r15 < 0 then J_Mod_tellDish_109 K63 v1 v2 v3 M16 L else (if (((6 * v1) + r15) : Int32) < 0 ∨ 60 ≤ (((6 * v1) + r15) : Int32).toNatClampNeg then none else (if (((6 * v1) + r15) : Int32) < 0 ∨ 60 ≤ (((6 * v1) + r15) : Int32).toNatClampNeg then none else nmM (uM M16 417 (((6 * v1) + r15) : Int32).toNatClampNeg ((M16 417 (((6 * v1) + r15) : Int32).toNatClampNeg) + 1)) (fun M32 => J_Mod_tellDish_109 K63 v1 v2 v3 M32 L))))) else some (M, L))
set_option maxHeartbeats 4000000 in
set_option maxRecDepth 20000 in
theorem j_Mod_tellDish_74 {l : Launch} {ld : Nat} {Q : Option Value → gM → gL → gR → Prop} (hld : isLa ld)   {q : gM × gL} {M : gM} {L : gL} (hQ : Q none q.1 q.2 (rf ld)) {K63 : Int32 → gM → Option (gM × gL)} {v1 : Int32} {v2 : Int32} {v3 : Int32} (hK63 : ∀ (w3 : Int32) (M : gM), K63 w3 M = some q → Wp l y_Mod_tellDish (0, 0, 447) 447 0 0 63 [(0, .ref 401), (1, .int v1), (2, .int v2), (3, .int w3)] [] M L (rf ld) Q) (h : J_Mod_tellDish_74 K63 v1 v2 v3 M L = some q) : Wp l y_Mod_tellDish (0, 0, 447) 447 0 0 74 [(0, .ref 401), (1, .int v1), (2, .int v2), (3, .int v3)] [] M L (rf ld) Q := by
  unfold J_Mod_tellDish_74 at h
  refine g_aload_n (pc1 := 75) d_Mod_tellDish_74 rfl 0 rfl ?_
  refine g_geti (pc1 := 78) d_Mod_tellDish_75 rfl ⟨_, fo_Mod_206⟩ sh_401 (by decide) ?_
  refine g_if_le (pc1 := 81) (tgt := 82) d_Mod_tellDish_78 (by decide) rfl (fun c13 => ?_) (fun c13 => ?_)
  · replace h := itp h c13
    refine g_aload_n (pc1 := 83) d_Mod_tellDish_82 rfl 0 rfl ?_
    refine g_callV0 (pc1 := 86) (As := []) (rest := []) d_Mod_tellDish_83 rfl mo_Mod_290 mi_Mod_knownFood mv_Mod_knownFood rfl sh_401 (by decide) (by decide) rfl rfl (Nat.le_of_ble_eq_true rfl) ?_
    obtain ⟨r15, M16, hq14, h⟩ := bnd2 h
    refine f_Mod_knownFood hld  hq14 ?_
    dsimp only [psh]
    refine g_istore (pc1 := 88) (lv' := [(0, .ref 401), (1, .int v1), (2, .int v2), (3, .int v3), (4, .int r15)]) d_Mod_tellDish_86 rfl (by decide) [1, 2, 3, 4, 0] rfl ?_
    refine g_iload (pc1 := 90) d_Mod_tellDish_88 rfl 4 rfl ?_
    refine g_if_lt (pc1 := 93) (tgt := 109) d_Mod_tellDish_90 (by decide) rfl (fun c17 => ?_) (fun c17 => ?_)
    · replace h := itp h c17
      refine Wp.loc (lv' := [(0, .ref 401), (1, .int v1), (2, .int v2), (3, .int v3)]) [0, 1, 2, 3] rfl ?_
      exact j_Mod_tellDish_109 hld  hQ hK63 h
    · replace h := itn h c17
      refine g_aload_n (pc1 := 94) d_Mod_tellDish_93 rfl 0 rfl ?_
      refine g_getr (pc1 := 97) d_Mod_tellDish_94 rfl ⟨_, fo_Mod_64⟩ sh_401 (by decide) (rf_401_29 ld) ?_
      refine g_bipush (pc1 := 99) (v := 6) d_Mod_tellDish_97 rfl (by decide) ?_
      refine g_iload_n (pc1 := 100) d_Mod_tellDish_99 rfl 1 rfl ?_
      refine g_imul (pc1 := 101) d_Mod_tellDish_100 rfl ?_
      refine g_iload (pc1 := 103) d_Mod_tellDish_101 rfl 4 rfl ?_
      refine g_iadd (pc1 := 104) d_Mod_tellDish_103 rfl ?_
      refine g_dup2 (pc1 := 105) d_Mod_tellDish_104 rfl rfl rfl ?_
      obtain ⟨g30, h⟩ := gdn h
      refine g_iald (pc1 := 106) d_Mod_tellDish_105 rfl sh_417 (by decide) g30 ?_
      refine g_iconst (pc1 := 107) (v := 1) d_Mod_tellDish_106 rfl (by decide) ?_
      refine g_iadd (pc1 := 108) d_Mod_tellDish_107 rfl ?_
      obtain ⟨g31, h⟩ := gdn h
      refine g_iast (pc1 := 109) d_Mod_tellDish_108 rfl sh_417 (by decide) g31 ?_
      refine Wp.lM h (fun M32 h => ?_)
      refine Wp.loc (lv' := [(0, .ref 401), (1, .int v1), (2, .int v2), (3, .int v3)]) [0, 1, 2, 3] rfl ?_
      exact j_Mod_tellDish_109 hld  hQ hK63 h
  · replace h := itn h c13
    refine g_return rfl d_Mod_tellDish_81 rfl ?_
    cases h; exact hQ
def B_Mod_tellDish_63 (v1 : Int32) (v2 : Int32) (L : gL) (K63 : Int32 → gM → Option (gM × gL)) : Int32 → gM → Option (gM × gL) := fun v3 M =>
  (if v3 = 6 then bI (F_Mod_fail 2 M) (fun M34 => J_Mod_tellDish_74 K63 v1 v2 v3 M34 L) else J_Mod_tellDish_74 K63 v1 v2 v3 M L)
def H_Mod_tellDish_63 (v1 : Int32) (v2 : Int32) (L : gL) : Nat → Int32 → gM → Option (gM × gL) := lpK (B_Mod_tellDish_63 v1 v2 L) (fun _ _ => none)
set_option maxHeartbeats 4000000 in
set_option maxRecDepth 20000 in
theorem h_Mod_tellDish_63 {l : Launch} {ld : Nat} {Q : Option Value → gM → gL → gR → Prop} (hld : isLa ld)   {q : gM × gL} {L : gL} (hQ : Q none q.1 q.2 (rf ld))  {v1 : Int32} {v2 : Int32}  : ∀ (f : Nat) (v3 : Int32) (M : gM), H_Mod_tellDish_63 v1 v2 L f v3 M = some q → Wp l y_Mod_tellDish (0, 0, 447) 447 0 0 63 [(0, .ref 401), (1, .int v1), (2, .int v2), (3, .int v3)] [] M L (rf ld) Q := by
  intro f
  induction f with
  | zero => intro v3 M h; cases h
  | succ f hK63 =>
    intro v3 M h
    replace h : B_Mod_tellDish_63 v1 v2 L (H_Mod_tellDish_63 v1 v2 L f) v3 M = some q := h
    unfold B_Mod_tellDish_63 at h
    refine g_iload_n (pc1 := 64) d_Mod_tellDish_63 rfl 3 rfl ?_
    refine g_bipush (pc1 := 66) (v := 6) d_Mod_tellDish_64 rfl (by decide) ?_
    refine g_icmp_ne (pc1 := 69) (tgt := 74) d_Mod_tellDish_66 (by decide) rfl (fun c12 => ?_) (fun c12 => ?_)
    · replace h := itn h c12
      exact j_Mod_tellDish_74 hld  hQ hK63 h
    · replace h := itp h c12
      refine g_aload_n (pc1 := 70) d_Mod_tellDish_69 rfl 0 rfl ?_
      refine g_iconst (pc1 := 71) (v := 2) d_Mod_tellDish_70 rfl (by decide) ?_
      refine g_callV0 (pc1 := 74) (As := [.int 2]) (rest := []) d_Mod_tellDish_71 rfl mo_Mod_221 mi_Mod_fail mv_Mod_fail rfl sh_401 (by decide) (by decide) rfl rfl (Nat.le_of_ble_eq_true rfl) ?_
      obtain ⟨M34, hq33, h⟩ := bnd h
      refine f_Mod_fail hld  hq33 ?_
      dsimp only [psh]
      exact j_Mod_tellDish_74 hld  hQ hK63 h
def J_Mod_tellDish_61 (v1 : Int32) (v2 : Int32) (M : gM) (L : gL) : Option (gM × gL) :=
  H_Mod_tellDish_63 v1 v2 L FU 0 M
set_option maxHeartbeats 4000000 in
set_option maxRecDepth 20000 in
theorem j_Mod_tellDish_61 {l : Launch} {ld : Nat} {Q : Option Value → gM → gL → gR → Prop} (hld : isLa ld)   {q : gM × gL} {M : gM} {L : gL} (hQ : Q none q.1 q.2 (rf ld))  {v1 : Int32} {v2 : Int32}  (h : J_Mod_tellDish_61 v1 v2 M L = some q) : Wp l y_Mod_tellDish (0, 0, 447) 447 0 0 61 [(0, .ref 401), (1, .int v1), (2, .int v2)] [] M L (rf ld) Q := by
  unfold J_Mod_tellDish_61 at h
  refine g_iconst (pc1 := 62) (v := 0) d_Mod_tellDish_61 rfl (by decide) ?_
  refine g_istore_n (pc1 := 63) (lv' := [(0, .ref 401), (1, .int v1), (2, .int v2), (3, .int 0)]) d_Mod_tellDish_62 rfl rfl (by decide) [1, 2, 3, 0] rfl ?_
  exact h_Mod_tellDish_63 hld  hQ  _ 0 M h
def B_Mod_tellDish_37 (v1 : Int32) (v2 : Int32) (L : gL) (K37 : Int32 → gM → Option (gM × gL)) : Int32 → gM → Option (gM × gL) := fun v3 M =>
  (if 6 ≤ v3 then J_Mod_tellDish_61 v1 v2 M L else (if (((6 * v1) + v3) : Int32) < 0 ∨ 60 ≤ (((6 * v1) + v3) : Int32).toNatClampNeg then none else nmM (uM M 417 (((6 * v1) + v3) : Int32).toNatClampNeg 0) (fun M36 => nmI (v3 + 1) (fun x37 => K37 x37 M36))))
def H_Mod_tellDish_37 (v1 : Int32) (v2 : Int32) (L : gL) : Nat → Int32 → gM → Option (gM × gL) := lpK (B_Mod_tellDish_37 v1 v2 L) (fun _ _ => none)
set_option maxHeartbeats 4000000 in
set_option maxRecDepth 20000 in
theorem h_Mod_tellDish_37 {l : Launch} {ld : Nat} {Q : Option Value → gM → gL → gR → Prop} (hld : isLa ld)   {q : gM × gL} {L : gL} (hQ : Q none q.1 q.2 (rf ld))  {v1 : Int32} {v2 : Int32}  : ∀ (f : Nat) (v3 : Int32) (M : gM), H_Mod_tellDish_37 v1 v2 L f v3 M = some q → Wp l y_Mod_tellDish (0, 0, 447) 447 0 0 37 [(0, .ref 401), (1, .int v1), (2, .int v2), (3, .int v3)] [] M L (rf ld) Q := by
  intro f
  induction f with
  | zero => intro v3 M h; cases h
  | succ f hK37 =>
    intro v3 M h
    replace h : B_Mod_tellDish_37 v1 v2 L (H_Mod_tellDish_37 v1 v2 L f) v3 M = some q := h
    unfold B_Mod_tellDish_37 at h
    refine g_iload_n (pc1 := 38) d_Mod_tellDish_37 rfl 3 rfl ?_
    refine g_bipush (pc1 := 40) (v := 6) d_Mod_tellDish_38 rfl (by decide) ?_
    refine g_icmp_ge (pc1 := 43) (tgt := 61) d_Mod_tellDish_40 (by decide) rfl (fun c11 => ?_) (fun c11 => ?_)
    · replace h := itp h c11
      refine Wp.loc (lv' := [(0, .ref 401), (1, .int v1), (2, .int v2)]) [0, 1, 2] rfl ?_
      exact j_Mod_tellDish_61 hld  hQ  h
    · replace h := itn h c11
      refine g_aload_n (pc1 := 44) d_Mod_tellDish_43 rfl 0 rfl ?_
      refine g_getr (pc1 := 47) d_Mod_tellDish_44 rfl ⟨_, fo_Mod_64⟩ sh_401 (by decide) (rf_401_29 ld) ?_
      refine g_bipush (pc1 := 49) (v := 6) d_Mod_tellDish_47 rfl (by decide) ?_
      refine g_iload_n (pc1 := 50) d_Mod_tellDish_49 rfl 1 rfl ?_
      refine g_imul (pc1 := 51) d_Mod_tellDish_50 rfl ?_
      refine g_iload_n (pc1 := 52) d_Mod_tellDish_51 rfl 3 rfl ?_
      refine g_iadd (pc1 := 53) d_Mod_tellDish_52 rfl ?_
      refine g_iconst (pc1 := 54) (v := 0) d_Mod_tellDish_53 rfl (by decide) ?_
      obtain ⟨g35, h⟩ := gdn h
      refine g_iast (pc1 := 55) d_Mod_tellDish_54 rfl sh_417 (by decide) g35 ?_
      refine Wp.lM h (fun M36 h => ?_)
      obtain ⟨x37, ex37, h⟩ := ltI h
      refine g_iinc (pc1 := 58) (v := x37) (lv' := [(0, .ref 401), (1, .int v1), (2, .int v2), (3, .int x37)]) d_Mod_tellDish_55 rfl 3 rfl (by rw [ex37]; rfl) (by decide) [1, 2, 3, 0] rfl ?_
      refine g_goto (tgt := 37) d_Mod_tellDish_58 (by decide) ?_
      exact hK37 x37 M36 h
def F_Mod_tellDish (M : gM) (L : gL) : Option (gM × gL) :=
  (if ((M 401 19) : Int32) < 0 ∨ 2 ≤ ((M 401 19) : Int32).toNatClampNeg then none else nmI ((5 * (M 401 19)) + (M 415 ((M 401 19) : Int32).toNatClampNeg)) (fun x2 => bI2 (F_Mod_named M L) (fun r4 M5 => bI2 (F_Mod_bounded 0 9 M5) (fun r7 M8 => (if (x2 : Int32) < 0 ∨ 10 ≤ (x2 : Int32).toNatClampNeg then none else nmM (uM M8 416 (x2 : Int32).toNatClampNeg r7) (fun M10 => H_Mod_tellDish_37 x2 r4 L FU 0 M10))))))
set_option maxHeartbeats 4000000 in
set_option maxRecDepth 20000 in
theorem f_Mod_tellDish {l : Launch} {ld : Nat} {M : gM} {L : gL} {Q : Option Value → gM → gL → gR → Prop} (hld : isLa ld)   {q : gM × gL} (h : F_Mod_tellDish M L = some q) (hQ : Q none q.1 q.2 (rf ld)) : Tm l y_Mod_tellDish (0, 0, 447) 447 [.ref 401] M L (rf ld) Q := by
  refine Tm.of (by decide) (Nat.le_of_ble_eq_true rfl) ?_
  show Wp l y_Mod_tellDish (0, 0, 447) 447 0 0 0 [(0, .ref 401)] [] M L (rf ld) Q
  unfold F_Mod_tellDish at h
  refine g_iconst (pc1 := 1) (v := 5) d_Mod_tellDish_0 rfl (by decide) ?_
  refine g_aload_n (pc1 := 2) d_Mod_tellDish_1 rfl 0 rfl ?_
  refine g_geti (pc1 := 5) d_Mod_tellDish_2 rfl ⟨_, fo_Mod_239⟩ sh_401 (by decide) ?_
  refine g_imul (pc1 := 6) d_Mod_tellDish_5 rfl ?_
  refine g_aload_n (pc1 := 7) d_Mod_tellDish_6 rfl 0 rfl ?_
  refine g_getr (pc1 := 10) d_Mod_tellDish_7 rfl ⟨_, fo_Mod_58⟩ sh_401 (by decide) (rf_401_27 ld) ?_
  refine g_aload_n (pc1 := 11) d_Mod_tellDish_10 rfl 0 rfl ?_
  refine g_geti (pc1 := 14) d_Mod_tellDish_11 rfl ⟨_, fo_Mod_239⟩ sh_401 (by decide) ?_
  obtain ⟨g1, h⟩ := gdn h
  refine g_iald (pc1 := 15) d_Mod_tellDish_14 rfl sh_415 (by decide) g1 ?_
  refine g_iadd (pc1 := 16) d_Mod_tellDish_15 rfl ?_
  refine Wp.lI h (fun x2 h => ?_)
  refine g_istore_n (pc1 := 17) (lv' := [(0, .ref 401), (1, .int x2)]) d_Mod_tellDish_16 rfl rfl (by decide) [1, 0] rfl ?_
  refine g_aload_n (pc1 := 18) d_Mod_tellDish_17 rfl 0 rfl ?_
  refine g_callV0 (pc1 := 21) (As := []) (rest := []) d_Mod_tellDish_18 rfl mo_Mod_270 mi_Mod_named mv_Mod_named rfl sh_401 (by decide) (by decide) rfl rfl (Nat.le_of_ble_eq_true rfl) ?_
  obtain ⟨r4, M5, hq3, h⟩ := bnd2 h
  refine f_Mod_named hld  hq3 ?_
  dsimp only [psh]
  refine g_istore_n (pc1 := 22) (lv' := [(0, .ref 401), (1, .int x2), (2, .int r4)]) d_Mod_tellDish_21 rfl rfl (by decide) [1, 2, 0] rfl ?_
  refine g_aload_n (pc1 := 23) d_Mod_tellDish_22 rfl 0 rfl ?_
  refine g_getr (pc1 := 26) d_Mod_tellDish_23 rfl ⟨_, fo_Mod_61⟩ sh_401 (by decide) (rf_401_28 ld) ?_
  refine g_iload_n (pc1 := 27) d_Mod_tellDish_26 rfl 1 rfl ?_
  refine g_aload_n (pc1 := 28) d_Mod_tellDish_27 rfl 0 rfl ?_
  refine g_iconst (pc1 := 29) (v := 0) d_Mod_tellDish_28 rfl (by decide) ?_
  refine g_bipush (pc1 := 31) (v := 9) d_Mod_tellDish_29 rfl (by decide) ?_
  refine g_callV0 (pc1 := 34) (As := [.int 0, .int 9]) (rest := [.int x2, .ref 416]) d_Mod_tellDish_31 rfl mo_Mod_274 mi_Mod_bounded mv_Mod_bounded rfl sh_401 (by decide) (by decide) rfl rfl (Nat.le_of_ble_eq_true rfl) ?_
  obtain ⟨r7, M8, hq6, h⟩ := bnd2 h
  refine f_Mod_bounded hld  hq6 ?_
  dsimp only [psh]
  obtain ⟨g9, h⟩ := gdn h
  refine g_iast (pc1 := 35) d_Mod_tellDish_34 rfl sh_416 (by decide) g9 ?_
  refine Wp.lM h (fun M10 h => ?_)
  refine g_iconst (pc1 := 36) (v := 0) d_Mod_tellDish_35 rfl (by decide) ?_
  refine g_istore_n (pc1 := 37) (lv' := [(0, .ref 401), (1, .int x2), (2, .int r4), (3, .int 0)]) d_Mod_tellDish_36 rfl rfl (by decide) [1, 2, 3, 0] rfl ?_
  exact h_Mod_tellDish_37 hld  hQ  _ 0 M10 h

def J_Mod_tellFood_79 (v2 : Int32) (M : gM) (L : gL) : Option (gM × gL) :=
  (if ((M 401 19) : Int32) < 0 ∨ 2 ≤ ((M 401 19) : Int32).toNatClampNeg then none else bI2 (F_Mod_ends v2 (M 411 ((M 401 19) : Int32).toNatClampNeg) M L) (fun M19 L20 => (if (M19 401 13) = 0 then (if ((M19 401 19) : Int32) < 0 ∨ 2 ≤ ((M19 401 19) : Int32).toNatClampNeg then none else (if ((M19 401 19) : Int32) < 0 ∨ 2 ≤ ((M19 401 19) : Int32).toNatClampNeg then none else nmM (uM M19 411 ((M19 401 19) : Int32).toNatClampNeg ((M19 411 ((M19 401 19) : Int32).toNatClampNeg) + 1)) (fun M24 => some (M24, L20)))) else some (M19, L20))))
set_option maxHeartbeats 4000000 in
set_option maxRecDepth 20000 in
theorem j_Mod_tellFood_79 {l : Launch} {ld : Nat} {Q : Option Value → gM → gL → gR → Prop} (hld : isLa ld)   {q : gM × gL} {M : gM} {L : gL} (hQ : Q none q.1 q.2 (rf ld))  {v2 : Int32}  (h : J_Mod_tellFood_79 v2 M L = some q) : Wp l y_Mod_tellFood (0, 0, 447) 447 0 0 79 [(0, .ref 401), (2, .int v2)] [] M L (rf ld) Q := by
  unfold J_Mod_tellFood_79 at h
  refine g_aload_n (pc1 := 80) d_Mod_tellFood_79 rfl 0 rfl ?_
  refine g_iload_n (pc1 := 81) d_Mod_tellFood_80 rfl 1 rfl ?_
  refine g_aload_n (pc1 := 82) d_Mod_tellFood_81 rfl 0 rfl ?_
  refine g_getr (pc1 := 85) d_Mod_tellFood_82 rfl ⟨_, fo_Mod_46⟩ sh_401 (by decide) (rf_401_23 ld) ?_
  refine g_aload_n (pc1 := 86) d_Mod_tellFood_85 rfl 0 rfl ?_
  refine g_geti (pc1 := 89) d_Mod_tellFood_86 rfl ⟨_, fo_Mod_239⟩ sh_401 (by decide) ?_
  obtain ⟨g17, h⟩ := gdn h
  refine g_iald (pc1 := 90) d_Mod_tellFood_89 rfl sh_411 (by decide) g17 ?_
  refine g_callV0 (pc1 := 93) (As := [.int v2, .int (M 411 ((M 401 19) : Int32).toNatClampNeg)]) (rest := []) d_Mod_tellFood_90 rfl mo_Mod_278 mi_Mod_ends mv_Mod_ends rfl sh_401 (by decide) (by decide) rfl rfl (Nat.le_of_ble_eq_true rfl) ?_
  obtain ⟨M19, L20, hq18, h⟩ := bnd2 h
  refine f_Mod_ends hld  hq18 ?_
  dsimp only [psh]
  refine g_aload_n (pc1 := 94) d_Mod_tellFood_93 rfl 0 rfl ?_
  refine g_geti (pc1 := 97) d_Mod_tellFood_94 rfl ⟨_, fo_Mod_206⟩ sh_401 (by decide) ?_
  refine g_if_ne (pc1 := 100) (tgt := 113) d_Mod_tellFood_97 (by decide) rfl (fun c21 => ?_) (fun c21 => ?_)
  · replace h := itn h c21
    refine g_return rfl d_Mod_tellFood_113 rfl ?_
    cases h; exact hQ
  · replace h := itp h c21
    refine g_aload_n (pc1 := 101) d_Mod_tellFood_100 rfl 0 rfl ?_
    refine g_getr (pc1 := 104) d_Mod_tellFood_101 rfl ⟨_, fo_Mod_46⟩ sh_401 (by decide) (rf_401_23 ld) ?_
    refine g_aload_n (pc1 := 105) d_Mod_tellFood_104 rfl 0 rfl ?_
    refine g_geti (pc1 := 108) d_Mod_tellFood_105 rfl ⟨_, fo_Mod_239⟩ sh_401 (by decide) ?_
    refine g_dup2 (pc1 := 109) d_Mod_tellFood_108 rfl rfl rfl ?_
    obtain ⟨g22, h⟩ := gdn h
    refine g_iald (pc1 := 110) d_Mod_tellFood_109 rfl sh_411 (by decide) g22 ?_
    refine g_iconst (pc1 := 111) (v := 1) d_Mod_tellFood_110 rfl (by decide) ?_
    refine g_iadd (pc1 := 112) d_Mod_tellFood_111 rfl ?_
    obtain ⟨g23, h⟩ := gdn h
    refine g_iast (pc1 := 113) d_Mod_tellFood_112 rfl sh_411 (by decide) g23 ?_
    refine Wp.lM h (fun M24 h => ?_)
    refine g_return rfl d_Mod_tellFood_113 rfl ?_
    cases h; exact hQ
def B_Mod_tellFood_51 (v1 : Int32) (v2 : Int32) (L : gL) (K51 : Int32 → gM → Option (gM × gL)) : Int32 → gM → Option (gM × gL) := fun v3 M =>
  (if 3 ≤ v3 then J_Mod_tellFood_79 v2 M L else bI2 (F_Mod_bounded 0 9 M) (fun r26 M27 => (if (((3 * v1) + v3) : Int32) < 0 ∨ 36 ≤ (((3 * v1) + v3) : Int32).toNatClampNeg then none else nmM (uM M27 414 (((3 * v1) + v3) : Int32).toNatClampNeg r26) (fun M29 => nmI (v3 + 1) (fun x30 => K51 x30 M29)))))
def H_Mod_tellFood_51 (v1 : Int32) (v2 : Int32) (L : gL) : Nat → Int32 → gM → Option (gM × gL) := lpK (B_Mod_tellFood_51 v1 v2 L) (fun _ _ => none)
set_option maxHeartbeats 4000000 in
set_option maxRecDepth 20000 in
theorem h_Mod_tellFood_51 {l : Launch} {ld : Nat} {Q : Option Value → gM → gL → gR → Prop} (hld : isLa ld)   {q : gM × gL} {L : gL} (hQ : Q none q.1 q.2 (rf ld))  {v1 : Int32} {v2 : Int32}  : ∀ (f : Nat) (v3 : Int32) (M : gM), H_Mod_tellFood_51 v1 v2 L f v3 M = some q → Wp l y_Mod_tellFood (0, 0, 447) 447 0 0 51 [(0, .ref 401), (1, .int v1), (2, .int v2), (3, .int v3)] [] M L (rf ld) Q := by
  intro f
  induction f with
  | zero => intro v3 M h; cases h
  | succ f hK51 =>
    intro v3 M h
    replace h : B_Mod_tellFood_51 v1 v2 L (H_Mod_tellFood_51 v1 v2 L f) v3 M = some q := h
    unfold B_Mod_tellFood_51 at h
    refine g_iload_n (pc1 := 52) d_Mod_tellFood_51 rfl 3 rfl ?_
    refine g_iconst (pc1 := 53) (v := 3) d_Mod_tellFood_52 rfl (by decide) ?_
    refine g_icmp_ge (pc1 := 56) (tgt := 79) d_Mod_tellFood_53 (by decide) rfl (fun c16 => ?_) (fun c16 => ?_)
    · replace h := itp h c16
      refine Wp.loc (lv' := [(0, .ref 401), (2, .int v2)]) [0, 2] rfl ?_
      exact j_Mod_tellFood_79 hld  hQ  h
    · replace h := itn h c16
      refine g_aload_n (pc1 := 57) d_Mod_tellFood_56 rfl 0 rfl ?_
      refine g_getr (pc1 := 60) d_Mod_tellFood_57 rfl ⟨_, fo_Mod_55⟩ sh_401 (by decide) (rf_401_26 ld) ?_
      refine g_iconst (pc1 := 61) (v := 3) d_Mod_tellFood_60 rfl (by decide) ?_
      refine g_iload_n (pc1 := 62) d_Mod_tellFood_61 rfl 1 rfl ?_
      refine g_imul (pc1 := 63) d_Mod_tellFood_62 rfl ?_
      refine g_iload_n (pc1 := 64) d_Mod_tellFood_63 rfl 3 rfl ?_
      refine g_iadd (pc1 := 65) d_Mod_tellFood_64 rfl ?_
      refine g_aload_n (pc1 := 66) d_Mod_tellFood_65 rfl 0 rfl ?_
      refine g_iconst (pc1 := 67) (v := 0) d_Mod_tellFood_66 rfl (by decide) ?_
      refine g_bipush (pc1 := 69) (v := 9) d_Mod_tellFood_67 rfl (by decide) ?_
      refine g_callV0 (pc1 := 72) (As := [.int 0, .int 9]) (rest := [.int ((3 * v1) + v3), .ref 414]) d_Mod_tellFood_69 rfl mo_Mod_274 mi_Mod_bounded mv_Mod_bounded rfl sh_401 (by decide) (by decide) rfl rfl (Nat.le_of_ble_eq_true rfl) ?_
      obtain ⟨r26, M27, hq25, h⟩ := bnd2 h
      refine f_Mod_bounded hld  hq25 ?_
      dsimp only [psh]
      obtain ⟨g28, h⟩ := gdn h
      refine g_iast (pc1 := 73) d_Mod_tellFood_72 rfl sh_414 (by decide) g28 ?_
      refine Wp.lM h (fun M29 h => ?_)
      obtain ⟨x30, ex30, h⟩ := ltI h
      refine g_iinc (pc1 := 76) (v := x30) (lv' := [(0, .ref 401), (1, .int v1), (2, .int v2), (3, .int x30)]) d_Mod_tellFood_73 rfl 3 rfl (by rw [ex30]; rfl) (by decide) [1, 2, 3, 0] rfl ?_
      refine g_goto (tgt := 51) d_Mod_tellFood_76 (by decide) ?_
      exact hK51 x30 M29 h
def F_Mod_tellFood (M : gM) (L : gL) : Option (gM × gL) :=
  (if ((M 401 19) : Int32) < 0 ∨ 2 ≤ ((M 401 19) : Int32).toNatClampNeg then none else nmI ((6 * (M 401 19)) + (M 411 ((M 401 19) : Int32).toNatClampNeg)) (fun x2 => bI2 (F_Mod_named M L) (fun r4 M5 => bI2 (F_Mod_bounded 0 99 M5) (fun r7 M8 => (if (x2 : Int32) < 0 ∨ 12 ≤ (x2 : Int32).toNatClampNeg then none else nmM (uM M8 412 (x2 : Int32).toNatClampNeg r7) (fun M10 => bI2 (F_Mod_bounded 0 9 M10) (fun r12 M13 => (if (x2 : Int32) < 0 ∨ 12 ≤ (x2 : Int32).toNatClampNeg then none else nmM (uM M13 413 (x2 : Int32).toNatClampNeg r12) (fun M15 => H_Mod_tellFood_51 x2 r4 L FU 0 M15)))))))))
set_option maxHeartbeats 4000000 in
set_option maxRecDepth 20000 in
theorem f_Mod_tellFood {l : Launch} {ld : Nat} {M : gM} {L : gL} {Q : Option Value → gM → gL → gR → Prop} (hld : isLa ld)   {q : gM × gL} (h : F_Mod_tellFood M L = some q) (hQ : Q none q.1 q.2 (rf ld)) : Tm l y_Mod_tellFood (0, 0, 447) 447 [.ref 401] M L (rf ld) Q := by
  refine Tm.of (by decide) (Nat.le_of_ble_eq_true rfl) ?_
  show Wp l y_Mod_tellFood (0, 0, 447) 447 0 0 0 [(0, .ref 401)] [] M L (rf ld) Q
  unfold F_Mod_tellFood at h
  refine g_bipush (pc1 := 2) (v := 6) d_Mod_tellFood_0 rfl (by decide) ?_
  refine g_aload_n (pc1 := 3) d_Mod_tellFood_2 rfl 0 rfl ?_
  refine g_geti (pc1 := 6) d_Mod_tellFood_3 rfl ⟨_, fo_Mod_239⟩ sh_401 (by decide) ?_
  refine g_imul (pc1 := 7) d_Mod_tellFood_6 rfl ?_
  refine g_aload_n (pc1 := 8) d_Mod_tellFood_7 rfl 0 rfl ?_
  refine g_getr (pc1 := 11) d_Mod_tellFood_8 rfl ⟨_, fo_Mod_46⟩ sh_401 (by decide) (rf_401_23 ld) ?_
  refine g_aload_n (pc1 := 12) d_Mod_tellFood_11 rfl 0 rfl ?_
  refine g_geti (pc1 := 15) d_Mod_tellFood_12 rfl ⟨_, fo_Mod_239⟩ sh_401 (by decide) ?_
  obtain ⟨g1, h⟩ := gdn h
  refine g_iald (pc1 := 16) d_Mod_tellFood_15 rfl sh_411 (by decide) g1 ?_
  refine g_iadd (pc1 := 17) d_Mod_tellFood_16 rfl ?_
  refine Wp.lI h (fun x2 h => ?_)
  refine g_istore_n (pc1 := 18) (lv' := [(0, .ref 401), (1, .int x2)]) d_Mod_tellFood_17 rfl rfl (by decide) [1, 0] rfl ?_
  refine g_aload_n (pc1 := 19) d_Mod_tellFood_18 rfl 0 rfl ?_
  refine g_callV0 (pc1 := 22) (As := []) (rest := []) d_Mod_tellFood_19 rfl mo_Mod_270 mi_Mod_named mv_Mod_named rfl sh_401 (by decide) (by decide) rfl rfl (Nat.le_of_ble_eq_true rfl) ?_
  obtain ⟨r4, M5, hq3, h⟩ := bnd2 h
  refine f_Mod_named hld  hq3 ?_
  dsimp only [psh]
  refine g_istore_n (pc1 := 23) (lv' := [(0, .ref 401), (1, .int x2), (2, .int r4)]) d_Mod_tellFood_22 rfl rfl (by decide) [1, 2, 0] rfl ?_
  refine g_aload_n (pc1 := 24) d_Mod_tellFood_23 rfl 0 rfl ?_
  refine g_getr (pc1 := 27) d_Mod_tellFood_24 rfl ⟨_, fo_Mod_49⟩ sh_401 (by decide) (rf_401_24 ld) ?_
  refine g_iload_n (pc1 := 28) d_Mod_tellFood_27 rfl 1 rfl ?_
  refine g_aload_n (pc1 := 29) d_Mod_tellFood_28 rfl 0 rfl ?_
  refine g_iconst (pc1 := 30) (v := 0) d_Mod_tellFood_29 rfl (by decide) ?_
  refine g_bipush (pc1 := 32) (v := 99) d_Mod_tellFood_30 rfl (by decide) ?_
  refine g_callV0 (pc1 := 35) (As := [.int 0, .int 99]) (rest := [.int x2, .ref 412]) d_Mod_tellFood_32 rfl mo_Mod_274 mi_Mod_bounded mv_Mod_bounded rfl sh_401 (by decide) (by decide) rfl rfl (Nat.le_of_ble_eq_true rfl) ?_
  obtain ⟨r7, M8, hq6, h⟩ := bnd2 h
  refine f_Mod_bounded hld  hq6 ?_
  dsimp only [psh]
  obtain ⟨g9, h⟩ := gdn h
  refine g_iast (pc1 := 36) d_Mod_tellFood_35 rfl sh_412 (by decide) g9 ?_
  refine Wp.lM h (fun M10 h => ?_)
  refine g_aload_n (pc1 := 37) d_Mod_tellFood_36 rfl 0 rfl ?_
  refine g_getr (pc1 := 40) d_Mod_tellFood_37 rfl ⟨_, fo_Mod_52⟩ sh_401 (by decide) (rf_401_25 ld) ?_
  refine g_iload_n (pc1 := 41) d_Mod_tellFood_40 rfl 1 rfl ?_
  refine g_aload_n (pc1 := 42) d_Mod_tellFood_41 rfl 0 rfl ?_
  refine g_iconst (pc1 := 43) (v := 0) d_Mod_tellFood_42 rfl (by decide) ?_
  refine g_bipush (pc1 := 45) (v := 9) d_Mod_tellFood_43 rfl (by decide) ?_
  refine g_callV0 (pc1 := 48) (As := [.int 0, .int 9]) (rest := [.int x2, .ref 413]) d_Mod_tellFood_45 rfl mo_Mod_274 mi_Mod_bounded mv_Mod_bounded rfl sh_401 (by decide) (by decide) rfl rfl (Nat.le_of_ble_eq_true rfl) ?_
  obtain ⟨r12, M13, hq11, h⟩ := bnd2 h
  refine f_Mod_bounded hld  hq11 ?_
  dsimp only [psh]
  obtain ⟨g14, h⟩ := gdn h
  refine g_iast (pc1 := 49) d_Mod_tellFood_48 rfl sh_413 (by decide) g14 ?_
  refine Wp.lM h (fun M15 h => ?_)
  refine g_iconst (pc1 := 50) (v := 0) d_Mod_tellFood_49 rfl (by decide) ?_
  refine g_istore_n (pc1 := 51) (lv' := [(0, .ref 401), (1, .int x2), (2, .int r4), (3, .int 0)]) d_Mod_tellFood_50 rfl rfl (by decide) [1, 2, 3, 0] rfl ?_
  exact h_Mod_tellFood_51 hld  hQ  _ 0 M15 h

def J_Mod_term_24 (M : gM) : Option (gM) :=
  (if ((M 401 38) : Int32) < 0 ∨ 260 ≤ ((M 401 38) : Int32).toNatClampNeg then none else nmM (uM M 430 ((M 401 38) : Int32).toNatClampNeg (M 401 44)) (fun M5 => nmM (uM M5 401 38 ((M5 401 38) + 1)) (fun M6 => some M6)))
set_option maxHeartbeats 4000000 in
set_option maxRecDepth 20000 in
theorem j_Mod_term_24 {l : Launch} {ld : Nat} {Q : Option Value → gM → gL → gR → Prop} (hld : isLa ld)   {q : gM} {M : gM} {L : gL} (hQ : Q none q L (rf ld))    (h : J_Mod_term_24 M = some q) : Wp l y_Mod_term (0, 0, 447) 447 0 0 24 [(0, .ref 401)] [] M L (rf ld) Q := by
  unfold J_Mod_term_24 at h
  refine g_aload_n (pc1 := 25) d_Mod_term_24 rfl 0 rfl ?_
  refine g_getr (pc1 := 28) d_Mod_term_25 rfl ⟨_, fo_Mod_104⟩ sh_401 (by decide) (rf_401_43 ld) ?_
  refine g_aload_n (pc1 := 29) d_Mod_term_28 rfl 0 rfl ?_
  refine g_geti (pc1 := 32) d_Mod_term_29 rfl ⟨_, fo_Mod_245⟩ sh_401 (by decide) ?_
  refine g_aload_n (pc1 := 33) d_Mod_term_32 rfl 0 rfl ?_
  refine g_geti (pc1 := 36) d_Mod_term_33 rfl ⟨_, fo_Mod_248⟩ sh_401 (by decide) ?_
  obtain ⟨g4, h⟩ := gdn h
  refine g_iast (pc1 := 37) d_Mod_term_36 rfl sh_430 (by decide) g4 ?_
  refine Wp.lM h (fun M5 h => ?_)
  refine g_aload_n (pc1 := 38) d_Mod_term_37 rfl 0 rfl ?_
  refine g_dup (pc1 := 39) d_Mod_term_38 rfl rfl ?_
  refine g_geti (pc1 := 42) d_Mod_term_39 rfl ⟨_, fo_Mod_245⟩ sh_401 (by decide) ?_
  refine g_iconst (pc1 := 43) (v := 1) d_Mod_term_42 rfl (by decide) ?_
  refine g_iadd (pc1 := 44) d_Mod_term_43 rfl ?_
  refine g_puti (pc1 := 47) d_Mod_term_44 rfl fo_Mod_245 (po_12_38 _) sh_401 (by decide) ?_
  refine Wp.lM h (fun M6 h => ?_)
  refine g_return rfl d_Mod_term_47 rfl ?_
  cases h; exact hQ
def F_Mod_term (M : gM) : Option (gM) :=
  (if ((M 401 38) : Int32) < 0 ∨ 260 ≤ ((M 401 38) : Int32).toNatClampNeg then none else nmM (uM M 429 ((M 401 38) : Int32).toNatClampNeg (M 401 44)) (fun M2 => (if (M2 401 13) = 0 then bI (F_Mod_expression M2) (fun M8 => J_Mod_term_24 M8) else J_Mod_term_24 M2)))
set_option maxHeartbeats 4000000 in
set_option maxRecDepth 20000 in
theorem f_Mod_term {l : Launch} {ld : Nat} {M : gM} {L : gL} {Q : Option Value → gM → gL → gR → Prop} (hld : isLa ld)   {q : gM} (h : F_Mod_term M = some q) (hQ : Q none q L (rf ld)) : Tm l y_Mod_term (0, 0, 447) 447 [.ref 401] M L (rf ld) Q := by
  refine Tm.of (by decide) (Nat.le_of_ble_eq_true rfl) ?_
  show Wp l y_Mod_term (0, 0, 447) 447 0 0 0 [(0, .ref 401)] [] M L (rf ld) Q
  unfold F_Mod_term at h
  refine g_aload_n (pc1 := 1) d_Mod_term_0 rfl 0 rfl ?_
  refine g_getr (pc1 := 4) d_Mod_term_1 rfl ⟨_, fo_Mod_101⟩ sh_401 (by decide) (rf_401_42 ld) ?_
  refine g_aload_n (pc1 := 5) d_Mod_term_4 rfl 0 rfl ?_
  refine g_geti (pc1 := 8) d_Mod_term_5 rfl ⟨_, fo_Mod_245⟩ sh_401 (by decide) ?_
  refine g_aload_n (pc1 := 9) d_Mod_term_8 rfl 0 rfl ?_
  refine g_geti (pc1 := 12) d_Mod_term_9 rfl ⟨_, fo_Mod_248⟩ sh_401 (by decide) ?_
  obtain ⟨g1, h⟩ := gdn h
  refine g_iast (pc1 := 13) d_Mod_term_12 rfl sh_429 (by decide) g1 ?_
  refine Wp.lM h (fun M2 h => ?_)
  refine g_aload_n (pc1 := 14) d_Mod_term_13 rfl 0 rfl ?_
  refine g_geti (pc1 := 17) d_Mod_term_14 rfl ⟨_, fo_Mod_206⟩ sh_401 (by decide) ?_
  refine g_if_ne (pc1 := 20) (tgt := 24) d_Mod_term_17 (by decide) rfl (fun c3 => ?_) (fun c3 => ?_)
  · replace h := itn h c3
    exact j_Mod_term_24 hld  hQ  h
  · replace h := itp h c3
    refine g_aload_n (pc1 := 21) d_Mod_term_20 rfl 0 rfl ?_
    refine g_callV0 (pc1 := 24) (As := []) (rest := []) d_Mod_term_21 rfl mo_Mod_293 mi_Mod_expression mv_Mod_expression rfl sh_401 (by decide) (by decide) rfl rfl (Nat.le_of_ble_eq_true rfl) ?_
    obtain ⟨M8, hq7, h⟩ := bnd h
    refine f_Mod_expression hld  hq7 ?_
    dsimp only [psh]
    exact j_Mod_term_24 hld  hQ  h

def F_Mod_boundIn (p1 : Int32) (p2 : Int32) (p3 : Int32) (M : gM) : Option (Int32 × gM) :=
  bI (F_Mod_isGuest p1 M) (fun r2 => (if r2 = 0 then some ((-1), M) else bI (F_Mod_in p2 0 2) (fun r5 => (if r5 = 0 then some ((-1), M) else bI (F_Mod_isLong p3) (fun r8 => (if r8 = 0 then some ((-1), M) else bI (F_Mod_copies M) (fun M11 => nmM (uM M11 437 35 ((M11 437 35) + p3)) (fun M12 => bI2 (F_Mod_boundNow p1 p2 M12) (fun r14 M15 => some (r14, M15))))))))))
set_option maxHeartbeats 4000000 in
set_option maxRecDepth 20000 in
theorem f_Mod_boundIn {l : Launch} {ld : Nat} {M : gM} {L : gL} {Q : Option Value → gM → gL → gR → Prop} (hld : isLa ld) {p1 : Int32} {p2 : Int32} {p3 : Int32}  {q : Int32 × gM} (h : F_Mod_boundIn p1 p2 p3 M = some q) (hQ : Q (some (.int q.1)) q.2 L (rf ld)) : Tm l y_Mod_boundIn (0, 0, 447) 447 [.ref 401, .int p1, .int p2, .int p3] M L (rf ld) Q := by
  refine Tm.of (by decide) (Nat.le_of_ble_eq_true rfl) ?_
  show Wp l y_Mod_boundIn (0, 0, 447) 447 0 0 0 [(0, .ref 401), (1, .int p1), (2, .int p2), (3, .int p3)] [] M L (rf ld) Q
  unfold F_Mod_boundIn at h
  refine g_aload_n (pc1 := 1) d_Mod_boundIn_0 rfl 0 rfl ?_
  refine g_iload_n (pc1 := 2) d_Mod_boundIn_1 rfl 1 rfl ?_
  refine g_callV0 (pc1 := 5) (As := [.int p1]) (rest := []) d_Mod_boundIn_2 rfl mo_Mod_380 mi_Mod_isGuest mv_Mod_isGuest rfl sh_401 (by decide) (by decide) rfl rfl (Nat.le_of_ble_eq_true rfl) ?_
  obtain ⟨r2, hq1, h⟩ := bnd h
  refine f_Mod_isGuest hld  hq1 ?_
  dsimp only [psh]
  refine g_if_eq (pc1 := 8) (tgt := 24) d_Mod_boundIn_5 (by decide) rfl (fun c3 => ?_) (fun c3 => ?_)
  · replace h := itp h c3
    refine g_iconst (pc1 := 25) (v := (-1)) d_Mod_boundIn_24 rfl (by decide) ?_
    refine g_ireturn (Or.inl rfl) d_Mod_boundIn_25 rfl ?_
    cases h; exact hQ
  · replace h := itn h c3
    refine g_iload_n (pc1 := 9) d_Mod_boundIn_8 rfl 2 rfl ?_
    refine g_iconst (pc1 := 10) (v := 0) d_Mod_boundIn_9 rfl (by decide) ?_
    refine g_iconst (pc1 := 11) (v := 2) d_Mod_boundIn_10 rfl (by decide) ?_
    refine g_callS0 (pc1 := 14) (As := [.int p2, .int 0, .int 2]) (rest := []) d_Mod_boundIn_11 rfl mo_Mod_316 ms_Mod_in (by decide) rfl rfl (Nat.le_of_ble_eq_true rfl) ?_
    obtain ⟨r5, hq4, h⟩ := bnd h
    refine f_Mod_in hld  hq4 ?_
    dsimp only [psh]
    refine g_if_eq (pc1 := 17) (tgt := 24) d_Mod_boundIn_14 (by decide) rfl (fun c6 => ?_) (fun c6 => ?_)
    · replace h := itp h c6
      refine g_iconst (pc1 := 25) (v := (-1)) d_Mod_boundIn_24 rfl (by decide) ?_
      refine g_ireturn (Or.inl rfl) d_Mod_boundIn_25 rfl ?_
      cases h; exact hQ
    · replace h := itn h c6
      refine g_iload_n (pc1 := 18) d_Mod_boundIn_17 rfl 3 rfl ?_
      refine g_callS0 (pc1 := 21) (As := [.int p3]) (rest := []) d_Mod_boundIn_18 rfl mo_Mod_446 ms_Mod_isLong (by decide) rfl rfl (Nat.le_of_ble_eq_true rfl) ?_
      obtain ⟨r8, hq7, h⟩ := bnd h
      refine f_Mod_isLong hld  hq7 ?_
      dsimp only [psh]
      refine g_if_ne (pc1 := 24) (tgt := 26) d_Mod_boundIn_21 (by decide) rfl (fun c9 => ?_) (fun c9 => ?_)
      · replace h := itn h c9
        refine g_aload_n (pc1 := 27) d_Mod_boundIn_26 rfl 0 rfl ?_
        refine g_callV0 (pc1 := 30) (As := []) (rest := []) d_Mod_boundIn_27 rfl mo_Mod_377 mi_Mod_copies mv_Mod_copies rfl sh_401 (by decide) (by decide) rfl rfl (Nat.le_of_ble_eq_true rfl) ?_
        obtain ⟨M11, hq10, h⟩ := bnd h
        refine f_Mod_copies hld  hq10 ?_
        dsimp only [psh]
        refine g_aload_n (pc1 := 31) d_Mod_boundIn_30 rfl 0 rfl ?_
        refine g_getr (pc1 := 34) d_Mod_boundIn_31 rfl ⟨_, fo_Mod_125⟩ sh_401 (by decide) (rf_401_53 ld) ?_
        refine g_bipush (pc1 := 36) (v := 35) d_Mod_boundIn_34 rfl (by decide) ?_
        refine g_dup2 (pc1 := 37) d_Mod_boundIn_36 rfl rfl rfl ?_
        refine g_iald (pc1 := 38) d_Mod_boundIn_37 rfl sh_437 (by decide) (vin_lit (x := 35) (by decide)) ?_
        refine Wp.vali (y := (M11 437 35)) (congrArg (M11 437) (by decide)) ?_
        refine g_iload_n (pc1 := 39) d_Mod_boundIn_38 rfl 3 rfl ?_
        refine g_iadd (pc1 := 40) d_Mod_boundIn_39 rfl ?_
        refine g_iast (pc1 := 41) d_Mod_boundIn_40 rfl sh_437 (by decide) (vin_lit (x := 35) (by decide)) ?_
        refine Wp.eqM (M' := uM M11 437 35 ((M11 437 35) + p3)) (congrArg (fun z => uM M11 437 z ((M11 437 35) + p3)) (by decide)) ?_
        refine Wp.lM h (fun M12 h => ?_)
        refine g_aload_n (pc1 := 42) d_Mod_boundIn_41 rfl 0 rfl ?_
        refine g_iload_n (pc1 := 43) d_Mod_boundIn_42 rfl 1 rfl ?_
        refine g_iload_n (pc1 := 44) d_Mod_boundIn_43 rfl 2 rfl ?_
        refine g_callV0 (pc1 := 47) (As := [.int p1, .int p2]) (rest := []) d_Mod_boundIn_44 rfl mo_Mod_349 mi_Mod_boundNow mv_Mod_boundNow rfl sh_401 (by decide) (by decide) rfl rfl (Nat.le_of_ble_eq_true rfl) ?_
        obtain ⟨r14, M15, hq13, h⟩ := bnd2 h
        refine f_Mod_boundNow hld  hq13 ?_
        dsimp only [psh]
        refine g_ireturn (Or.inl rfl) d_Mod_boundIn_47 rfl ?_
        cases h; exact hQ
      · replace h := itp h c9
        refine g_iconst (pc1 := 25) (v := (-1)) d_Mod_boundIn_24 rfl (by decide) ?_
        refine g_ireturn (Or.inl rfl) d_Mod_boundIn_25 rfl ?_
        cases h; exact hQ

def F_Mod_cook (p1 : Int32) (M : gM) : Option (Int32 × gM) :=
  bI (F_Mod_isDish p1 M) (fun r2 => (if r2 = 0 then some ((-1), M) else bI (F_Mod_copies M) (fun M5 => bI2 (F_Mod_isInStore p1 M5) (fun r7 M8 => (if r7 = 0 then some ((-3), M8) else bI2 (F_Mod_cooks p1 M8) (fun r11 M12 => bI (F_Mod_records M12) (fun M14 => some (r11, M14))))))))
set_option maxHeartbeats 4000000 in
set_option maxRecDepth 20000 in
theorem f_Mod_cook {l : Launch} {ld : Nat} {M : gM} {L : gL} {Q : Option Value → gM → gL → gR → Prop} (hld : isLa ld) {p1 : Int32}  {q : Int32 × gM} (h : F_Mod_cook p1 M = some q) (hQ : Q (some (.int q.1)) q.2 L (rf ld)) : Tm l y_Mod_cook (0, 0, 447) 447 [.ref 401, .int p1] M L (rf ld) Q := by
  refine Tm.of (by decide) (Nat.le_of_ble_eq_true rfl) ?_
  show Wp l y_Mod_cook (0, 0, 447) 447 0 0 0 [(0, .ref 401), (1, .int p1)] [] M L (rf ld) Q
  unfold F_Mod_cook at h
  refine g_aload_n (pc1 := 1) d_Mod_cook_0 rfl 0 rfl ?_
  refine g_iload_n (pc1 := 2) d_Mod_cook_1 rfl 1 rfl ?_
  refine g_callV0 (pc1 := 5) (As := [.int p1]) (rest := []) d_Mod_cook_2 rfl mo_Mod_374 mi_Mod_isDish mv_Mod_isDish rfl sh_401 (by decide) (by decide) rfl rfl (Nat.le_of_ble_eq_true rfl) ?_
  obtain ⟨r2, hq1, h⟩ := bnd h
  refine f_Mod_isDish hld  hq1 ?_
  dsimp only [psh]
  refine g_if_ne (pc1 := 8) (tgt := 10) d_Mod_cook_5 (by decide) rfl (fun c3 => ?_) (fun c3 => ?_)
  · replace h := itn h c3
    refine g_aload_n (pc1 := 11) d_Mod_cook_10 rfl 0 rfl ?_
    refine g_callV0 (pc1 := 14) (As := []) (rest := []) d_Mod_cook_11 rfl mo_Mod_377 mi_Mod_copies mv_Mod_copies rfl sh_401 (by decide) (by decide) rfl rfl (Nat.le_of_ble_eq_true rfl) ?_
    obtain ⟨M5, hq4, h⟩ := bnd h
    refine f_Mod_copies hld  hq4 ?_
    dsimp only [psh]
    refine g_aload_n (pc1 := 15) d_Mod_cook_14 rfl 0 rfl ?_
    refine g_iload_n (pc1 := 16) d_Mod_cook_15 rfl 1 rfl ?_
    refine g_callV0 (pc1 := 19) (As := [.int p1]) (rest := []) d_Mod_cook_16 rfl mo_Mod_386 mi_Mod_isInStore mv_Mod_isInStore rfl sh_401 (by decide) (by decide) rfl rfl (Nat.le_of_ble_eq_true rfl) ?_
    obtain ⟨r7, M8, hq6, h⟩ := bnd2 h
    refine f_Mod_isInStore hld  hq6 ?_
    dsimp only [psh]
    refine g_if_ne (pc1 := 22) (tgt := 25) d_Mod_cook_19 (by decide) rfl (fun c9 => ?_) (fun c9 => ?_)
    · replace h := itn h c9
      refine g_aload_n (pc1 := 26) d_Mod_cook_25 rfl 0 rfl ?_
      refine g_iload_n (pc1 := 27) d_Mod_cook_26 rfl 1 rfl ?_
      refine g_callV0 (pc1 := 30) (As := [.int p1]) (rest := []) d_Mod_cook_27 rfl mo_Mod_389 mi_Mod_cooks mv_Mod_cooks rfl sh_401 (by decide) (by decide) rfl rfl (Nat.le_of_ble_eq_true rfl) ?_
      obtain ⟨r11, M12, hq10, h⟩ := bnd2 h
      refine f_Mod_cooks hld  hq10 ?_
      dsimp only [psh]
      refine g_istore_n (pc1 := 31) (lv' := [(0, .ref 401), (1, .int p1), (2, .int r11)]) d_Mod_cook_30 rfl rfl (by decide) [1, 2, 0] rfl ?_
      refine g_aload_n (pc1 := 32) d_Mod_cook_31 rfl 0 rfl ?_
      refine g_callV0 (pc1 := 35) (As := []) (rest := []) d_Mod_cook_32 rfl mo_Mod_392 mi_Mod_records mv_Mod_records rfl sh_401 (by decide) (by decide) rfl rfl (Nat.le_of_ble_eq_true rfl) ?_
      obtain ⟨M14, hq13, h⟩ := bnd h
      refine f_Mod_records hld  hq13 ?_
      dsimp only [psh]
      refine g_iload_n (pc1 := 36) d_Mod_cook_35 rfl 2 rfl ?_
      refine g_ireturn (Or.inl rfl) d_Mod_cook_36 rfl ?_
      cases h; exact hQ
    · replace h := itp h c9
      refine g_bipush (pc1 := 24) (v := (-3)) d_Mod_cook_22 rfl (by decide) ?_
      refine g_ireturn (Or.inl rfl) d_Mod_cook_24 rfl ?_
      cases h; exact hQ
  · replace h := itp h c3
    refine g_iconst (pc1 := 9) (v := (-1)) d_Mod_cook_8 rfl (by decide) ?_
    refine g_ireturn (Or.inl rfl) d_Mod_cook_9 rfl ?_
    cases h; exact hQ

def F_Mod_days (p1 : Int32) (M : gM) : Option (Int32 × gM) :=
  bI (F_Mod_in p1 0 60) (fun r2 => (if r2 = 0 then some ((-1), M) else (if p1 = 0 then some ((M 436 35), M) else bI (F_Mod_copies M) (fun M6 => bI (F_Mod_goes p1 M6) (fun M8 => bI (F_Mod_records M8) (fun M10 => some ((M10 436 35), M10)))))))
set_option maxHeartbeats 4000000 in
set_option maxRecDepth 20000 in
theorem f_Mod_days {l : Launch} {ld : Nat} {M : gM} {L : gL} {Q : Option Value → gM → gL → gR → Prop} (hld : isLa ld) {p1 : Int32}  {q : Int32 × gM} (h : F_Mod_days p1 M = some q) (hQ : Q (some (.int q.1)) q.2 L (rf ld)) : Tm l y_Mod_days (0, 0, 447) 447 [.ref 401, .int p1] M L (rf ld) Q := by
  refine Tm.of (by decide) (Nat.le_of_ble_eq_true rfl) ?_
  show Wp l y_Mod_days (0, 0, 447) 447 0 0 0 [(0, .ref 401), (1, .int p1)] [] M L (rf ld) Q
  unfold F_Mod_days at h
  refine g_iload_n (pc1 := 1) d_Mod_days_0 rfl 1 rfl ?_
  refine g_iconst (pc1 := 2) (v := 0) d_Mod_days_1 rfl (by decide) ?_
  refine g_bipush (pc1 := 4) (v := 60) d_Mod_days_2 rfl (by decide) ?_
  refine g_callS0 (pc1 := 7) (As := [.int p1, .int 0, .int 60]) (rest := []) d_Mod_days_4 rfl mo_Mod_316 ms_Mod_in (by decide) rfl rfl (Nat.le_of_ble_eq_true rfl) ?_
  obtain ⟨r2, hq1, h⟩ := bnd h
  refine f_Mod_in hld  hq1 ?_
  dsimp only [psh]
  refine g_if_ne (pc1 := 10) (tgt := 12) d_Mod_days_7 (by decide) rfl (fun c3 => ?_) (fun c3 => ?_)
  · replace h := itn h c3
    refine g_iload_n (pc1 := 13) d_Mod_days_12 rfl 1 rfl ?_
    refine g_if_ne (pc1 := 16) (tgt := 24) d_Mod_days_13 (by decide) rfl (fun c4 => ?_) (fun c4 => ?_)
    · replace h := itn h c4
      refine g_aload_n (pc1 := 25) d_Mod_days_24 rfl 0 rfl ?_
      refine g_callV0 (pc1 := 28) (As := []) (rest := []) d_Mod_days_25 rfl mo_Mod_377 mi_Mod_copies mv_Mod_copies rfl sh_401 (by decide) (by decide) rfl rfl (Nat.le_of_ble_eq_true rfl) ?_
      obtain ⟨M6, hq5, h⟩ := bnd h
      refine f_Mod_copies hld  hq5 ?_
      dsimp only [psh]
      refine g_aload_n (pc1 := 29) d_Mod_days_28 rfl 0 rfl ?_
      refine g_iload_n (pc1 := 30) d_Mod_days_29 rfl 1 rfl ?_
      refine g_callV0 (pc1 := 33) (As := [.int p1]) (rest := []) d_Mod_days_30 rfl mo_Mod_398 mi_Mod_goes mv_Mod_goes rfl sh_401 (by decide) (by decide) rfl rfl (Nat.le_of_ble_eq_true rfl) ?_
      obtain ⟨M8, hq7, h⟩ := bnd h
      refine f_Mod_goes hld  hq7 ?_
      dsimp only [psh]
      refine g_aload_n (pc1 := 34) d_Mod_days_33 rfl 0 rfl ?_
      refine g_callV0 (pc1 := 37) (As := []) (rest := []) d_Mod_days_34 rfl mo_Mod_392 mi_Mod_records mv_Mod_records rfl sh_401 (by decide) (by decide) rfl rfl (Nat.le_of_ble_eq_true rfl) ?_
      obtain ⟨M10, hq9, h⟩ := bnd h
      refine f_Mod_records hld  hq9 ?_
      dsimp only [psh]
      refine g_aload_n (pc1 := 38) d_Mod_days_37 rfl 0 rfl ?_
      refine g_getr (pc1 := 41) d_Mod_days_38 rfl ⟨_, fo_Mod_122⟩ sh_401 (by decide) (rf_401_52 ld) ?_
      refine g_bipush (pc1 := 43) (v := 35) d_Mod_days_41 rfl (by decide) ?_
      refine g_iald (pc1 := 44) d_Mod_days_43 rfl sh_436 (by decide) (vin_lit (x := 35) (by decide)) ?_
      refine Wp.vali (y := (M10 436 35)) (congrArg (M10 436) (by decide)) ?_
      refine g_ireturn (Or.inl rfl) d_Mod_days_44 rfl ?_
      cases h; exact hQ
    · replace h := itp h c4
      refine g_aload_n (pc1 := 17) d_Mod_days_16 rfl 0 rfl ?_
      refine g_getr (pc1 := 20) d_Mod_days_17 rfl ⟨_, fo_Mod_122⟩ sh_401 (by decide) (rf_401_52 ld) ?_
      refine g_bipush (pc1 := 22) (v := 35) d_Mod_days_20 rfl (by decide) ?_
      refine g_iald (pc1 := 23) d_Mod_days_22 rfl sh_436 (by decide) (vin_lit (x := 35) (by decide)) ?_
      refine Wp.vali (y := (M 436 35)) (congrArg (M 436) (by decide)) ?_
      refine g_ireturn (Or.inl rfl) d_Mod_days_23 rfl ?_
      cases h; exact hQ
  · replace h := itp h c3
    refine g_iconst (pc1 := 11) (v := (-1)) d_Mod_days_10 rfl (by decide) ?_
    refine g_ireturn (Or.inl rfl) d_Mod_days_11 rfl ?_
    cases h; exact hQ

def F_Mod_guest (p1 : Int32) (p2 : Int32) (M : gM) : Option (Int32 × gM) :=
  bI (F_Mod_isGuest p1 M) (fun r2 => (if r2 = 0 then some ((-1), M) else bI (F_Mod_copies M) (fun M5 => (if p2 = 0 then (if (((4 * (M5 401 18)) + p1) : Int32) < 0 ∨ 8 ≤ (((4 * (M5 401 18)) + p1) : Int32).toNatClampNeg then none else some ((M5 419 (((4 * (M5 401 18)) + p1) : Int32).toNatClampNeg), M5)) else (if p2 = 1 then (if ((15 + p1) : Int32) < 0 ∨ 38 ≤ ((15 + p1) : Int32).toNatClampNeg then none else (if 0 ≤ (M5 437 ((15 + p1) : Int32).toNatClampNeg) then (if ((15 + p1) : Int32) < 0 ∨ 38 ≤ ((15 + p1) : Int32).toNatClampNeg then none else some (((M5 437 35) - (M5 437 ((15 + p1) : Int32).toNatClampNeg)), M5)) else some ((-2), M5))) else (if p2 = 2 then (if ((31 + p1) : Int32) < 0 ∨ 38 ≤ ((31 + p1) : Int32).toNatClampNeg then none else some ((M5 437 ((31 + p1) : Int32).toNatClampNeg), M5)) else (if p2 = 3 then bI2 (F_Mod_boundNow p1 (p2 - 3) M5) (fun r16 M17 => some (r16, M17)) else (if p2 = 4 then bI2 (F_Mod_boundNow p1 (p2 - 3) M5) (fun r20 M21 => some (r20, M21)) else (if p2 = 5 then bI2 (F_Mod_boundNow p1 (p2 - 3) M5) (fun r24 M25 => some (r24, M25)) else some ((-1), M5))))))))))
set_option maxHeartbeats 4000000 in
set_option maxRecDepth 20000 in
theorem f_Mod_guest {l : Launch} {ld : Nat} {M : gM} {L : gL} {Q : Option Value → gM → gL → gR → Prop} (hld : isLa ld) {p1 : Int32} {p2 : Int32}  {q : Int32 × gM} (h : F_Mod_guest p1 p2 M = some q) (hQ : Q (some (.int q.1)) q.2 L (rf ld)) : Tm l y_Mod_guest (0, 0, 447) 447 [.ref 401, .int p1, .int p2] M L (rf ld) Q := by
  refine Tm.of (by decide) (Nat.le_of_ble_eq_true rfl) ?_
  show Wp l y_Mod_guest (0, 0, 447) 447 0 0 0 [(0, .ref 401), (1, .int p1), (2, .int p2)] [] M L (rf ld) Q
  unfold F_Mod_guest at h
  refine g_aload_n (pc1 := 1) d_Mod_guest_0 rfl 0 rfl ?_
  refine g_iload_n (pc1 := 2) d_Mod_guest_1 rfl 1 rfl ?_
  refine g_callV0 (pc1 := 5) (As := [.int p1]) (rest := []) d_Mod_guest_2 rfl mo_Mod_380 mi_Mod_isGuest mv_Mod_isGuest rfl sh_401 (by decide) (by decide) rfl rfl (Nat.le_of_ble_eq_true rfl) ?_
  obtain ⟨r2, hq1, h⟩ := bnd h
  refine f_Mod_isGuest hld  hq1 ?_
  dsimp only [psh]
  refine g_if_ne (pc1 := 8) (tgt := 10) d_Mod_guest_5 (by decide) rfl (fun c3 => ?_) (fun c3 => ?_)
  · replace h := itn h c3
    refine g_aload_n (pc1 := 11) d_Mod_guest_10 rfl 0 rfl ?_
    refine g_callV0 (pc1 := 14) (As := []) (rest := []) d_Mod_guest_11 rfl mo_Mod_377 mi_Mod_copies mv_Mod_copies rfl sh_401 (by decide) (by decide) rfl rfl (Nat.le_of_ble_eq_true rfl) ?_
    obtain ⟨M5, hq4, h⟩ := bnd h
    refine f_Mod_copies hld  hq4 ?_
    dsimp only [psh]
    refine g_iload_n (pc1 := 15) d_Mod_guest_14 rfl 2 rfl ?_
    by_cases c6 : p2 = 0
    · replace h := itp h c6
      refine g_tabK (tgt := 52) (off := 37) d_Mod_guest_15 c6 (by decide) (by decide) (by decide) (by decide) ?_
      refine g_aload_n (pc1 := 53) d_Mod_guest_52 rfl 0 rfl ?_
      refine g_getr (pc1 := 56) d_Mod_guest_53 rfl ⟨_, fo_Mod_70⟩ sh_401 (by decide) (rf_401_31 ld) ?_
      refine g_iconst (pc1 := 57) (v := 4) d_Mod_guest_56 rfl (by decide) ?_
      refine g_aload_n (pc1 := 58) d_Mod_guest_57 rfl 0 rfl ?_
      refine g_geti (pc1 := 61) d_Mod_guest_58 rfl ⟨_, fo_Mod_236⟩ sh_401 (by decide) ?_
      refine g_imul (pc1 := 62) d_Mod_guest_61 rfl ?_
      refine g_iload_n (pc1 := 63) d_Mod_guest_62 rfl 1 rfl ?_
      refine g_iadd (pc1 := 64) d_Mod_guest_63 rfl ?_
      obtain ⟨g7, h⟩ := gdn h
      refine g_iald (pc1 := 65) d_Mod_guest_64 rfl sh_419 (by decide) g7 ?_
      refine g_ireturn (Or.inl rfl) d_Mod_guest_65 rfl ?_
      cases h; exact hQ
    replace h := itn h c6
    by_cases c8 : p2 = 1
    · replace h := itp h c8
      refine g_tabK (tgt := 66) (off := 51) d_Mod_guest_15 c8 (by decide) (by decide) (by decide) (by decide) ?_
      refine g_aload_n (pc1 := 67) d_Mod_guest_66 rfl 0 rfl ?_
      refine g_getr (pc1 := 70) d_Mod_guest_67 rfl ⟨_, fo_Mod_125⟩ sh_401 (by decide) (rf_401_53 ld) ?_
      refine g_bipush (pc1 := 72) (v := 15) d_Mod_guest_70 rfl (by decide) ?_
      refine g_iload_n (pc1 := 73) d_Mod_guest_72 rfl 1 rfl ?_
      refine g_iadd (pc1 := 74) d_Mod_guest_73 rfl ?_
      obtain ⟨g9, h⟩ := gdn h
      refine g_iald (pc1 := 75) d_Mod_guest_74 rfl sh_437 (by decide) g9 ?_
      refine g_if_ge (pc1 := 78) (tgt := 83) d_Mod_guest_75 (by decide) rfl (fun c10 => ?_) (fun c10 => ?_)
      · replace h := itp h c10
        refine g_aload_n (pc1 := 84) d_Mod_guest_83 rfl 0 rfl ?_
        refine g_getr (pc1 := 87) d_Mod_guest_84 rfl ⟨_, fo_Mod_125⟩ sh_401 (by decide) (rf_401_53 ld) ?_
        refine g_bipush (pc1 := 89) (v := 35) d_Mod_guest_87 rfl (by decide) ?_
        refine g_iald (pc1 := 90) d_Mod_guest_89 rfl sh_437 (by decide) (vin_lit (x := 35) (by decide)) ?_
        refine Wp.vali (y := (M5 437 35)) (congrArg (M5 437) (by decide)) ?_
        refine g_aload_n (pc1 := 91) d_Mod_guest_90 rfl 0 rfl ?_
        refine g_getr (pc1 := 94) d_Mod_guest_91 rfl ⟨_, fo_Mod_125⟩ sh_401 (by decide) (rf_401_53 ld) ?_
        refine g_bipush (pc1 := 96) (v := 15) d_Mod_guest_94 rfl (by decide) ?_
        refine g_iload_n (pc1 := 97) d_Mod_guest_96 rfl 1 rfl ?_
        refine g_iadd (pc1 := 98) d_Mod_guest_97 rfl ?_
        obtain ⟨g11, h⟩ := gdn h
        refine g_iald (pc1 := 99) d_Mod_guest_98 rfl sh_437 (by decide) g11 ?_
        refine g_isub (pc1 := 100) d_Mod_guest_99 rfl ?_
        refine g_ireturn (Or.inl rfl) d_Mod_guest_100 rfl ?_
        cases h; exact hQ
      · replace h := itn h c10
        refine g_bipush (pc1 := 80) (v := (-2)) d_Mod_guest_78 rfl (by decide) ?_
        refine g_goto (tgt := 100) d_Mod_guest_80 (by decide) ?_
        refine g_ireturn (Or.inl rfl) d_Mod_guest_100 rfl ?_
        cases h; exact hQ
    replace h := itn h c8
    by_cases c12 : p2 = 2
    · replace h := itp h c12
      refine g_tabK (tgt := 101) (off := 86) d_Mod_guest_15 c12 (by decide) (by decide) (by decide) (by decide) ?_
      refine g_aload_n (pc1 := 102) d_Mod_guest_101 rfl 0 rfl ?_
      refine g_getr (pc1 := 105) d_Mod_guest_102 rfl ⟨_, fo_Mod_125⟩ sh_401 (by decide) (rf_401_53 ld) ?_
      refine g_bipush (pc1 := 107) (v := 31) d_Mod_guest_105 rfl (by decide) ?_
      refine g_iload_n (pc1 := 108) d_Mod_guest_107 rfl 1 rfl ?_
      refine g_iadd (pc1 := 109) d_Mod_guest_108 rfl ?_
      obtain ⟨g13, h⟩ := gdn h
      refine g_iald (pc1 := 110) d_Mod_guest_109 rfl sh_437 (by decide) g13 ?_
      refine g_ireturn (Or.inl rfl) d_Mod_guest_110 rfl ?_
      cases h; exact hQ
    replace h := itn h c12
    by_cases c14 : p2 = 3
    · replace h := itp h c14
      refine g_tabK (tgt := 111) (off := 96) d_Mod_guest_15 c14 (by decide) (by decide) (by decide) (by decide) ?_
      refine g_aload_n (pc1 := 112) d_Mod_guest_111 rfl 0 rfl ?_
      refine g_iload_n (pc1 := 113) d_Mod_guest_112 rfl 1 rfl ?_
      refine g_iload_n (pc1 := 114) d_Mod_guest_113 rfl 2 rfl ?_
      refine g_iconst (pc1 := 115) (v := 3) d_Mod_guest_114 rfl (by decide) ?_
      refine g_isub (pc1 := 116) d_Mod_guest_115 rfl ?_
      refine g_callV0 (pc1 := 119) (As := [.int p1, .int (p2 - 3)]) (rest := []) d_Mod_guest_116 rfl mo_Mod_349 mi_Mod_boundNow mv_Mod_boundNow rfl sh_401 (by decide) (by decide) rfl rfl (Nat.le_of_ble_eq_true rfl) ?_
      obtain ⟨r16, M17, hq15, h⟩ := bnd2 h
      refine f_Mod_boundNow hld  hq15 ?_
      dsimp only [psh]
      refine g_ireturn (Or.inl rfl) d_Mod_guest_119 rfl ?_
      cases h; exact hQ
    replace h := itn h c14
    by_cases c18 : p2 = 4
    · replace h := itp h c18
      refine g_tabK (tgt := 111) (off := 96) d_Mod_guest_15 c18 (by decide) (by decide) (by decide) (by decide) ?_
      refine g_aload_n (pc1 := 112) d_Mod_guest_111 rfl 0 rfl ?_
      refine g_iload_n (pc1 := 113) d_Mod_guest_112 rfl 1 rfl ?_
      refine g_iload_n (pc1 := 114) d_Mod_guest_113 rfl 2 rfl ?_
      refine g_iconst (pc1 := 115) (v := 3) d_Mod_guest_114 rfl (by decide) ?_
      refine g_isub (pc1 := 116) d_Mod_guest_115 rfl ?_
      refine g_callV0 (pc1 := 119) (As := [.int p1, .int (p2 - 3)]) (rest := []) d_Mod_guest_116 rfl mo_Mod_349 mi_Mod_boundNow mv_Mod_boundNow rfl sh_401 (by decide) (by decide) rfl rfl (Nat.le_of_ble_eq_true rfl) ?_
      obtain ⟨r20, M21, hq19, h⟩ := bnd2 h
      refine f_Mod_boundNow hld  hq19 ?_
      dsimp only [psh]
      refine g_ireturn (Or.inl rfl) d_Mod_guest_119 rfl ?_
      cases h; exact hQ
    replace h := itn h c18
    by_cases c22 : p2 = 5
    · replace h := itp h c22
      refine g_tabK (tgt := 111) (off := 96) d_Mod_guest_15 c22 (by decide) (by decide) (by decide) (by decide) ?_
      refine g_aload_n (pc1 := 112) d_Mod_guest_111 rfl 0 rfl ?_
      refine g_iload_n (pc1 := 113) d_Mod_guest_112 rfl 1 rfl ?_
      refine g_iload_n (pc1 := 114) d_Mod_guest_113 rfl 2 rfl ?_
      refine g_iconst (pc1 := 115) (v := 3) d_Mod_guest_114 rfl (by decide) ?_
      refine g_isub (pc1 := 116) d_Mod_guest_115 rfl ?_
      refine g_callV0 (pc1 := 119) (As := [.int p1, .int (p2 - 3)]) (rest := []) d_Mod_guest_116 rfl mo_Mod_349 mi_Mod_boundNow mv_Mod_boundNow rfl sh_401 (by decide) (by decide) rfl rfl (Nat.le_of_ble_eq_true rfl) ?_
      obtain ⟨r24, M25, hq23, h⟩ := bnd2 h
      refine f_Mod_boundNow hld  hq23 ?_
      dsimp only [psh]
      refine g_ireturn (Or.inl rfl) d_Mod_guest_119 rfl ?_
      cases h; exact hQ
    replace h := itn h c22
    refine g_tabOut (tgt := 120) d_Mod_guest_15 (by
      have nc6 := neT (a := 0) c6 (by decide)
      have nc8 := neT (a := 1) c8 (by decide)
      have nc12 := neT (a := 2) c12 (by decide)
      have nc14 := neT (a := 3) c14 (by decide)
      have nc18 := neT (a := 4) c18 (by decide)
      have nc22 := neT (a := 5) c22 (by decide)
      omega) (by decide) ?_
    refine g_iconst (pc1 := 121) (v := (-1)) d_Mod_guest_120 rfl (by decide) ?_
    refine g_ireturn (Or.inl rfl) d_Mod_guest_121 rfl ?_
    cases h; exact hQ
  · replace h := itp h c3
    refine g_iconst (pc1 := 9) (v := (-1)) d_Mod_guest_8 rfl (by decide) ?_
    refine g_ireturn (Or.inl rfl) d_Mod_guest_9 rfl ?_
    cases h; exact hQ

def F_Mod_isFree (p1 : Int32) (p2 : Int32) (M : gM) : Option (Int32 × gM) :=
  (if (((6 * (M 401 18)) + p2) : Int32) < 0 ∨ 12 ≤ (((6 * (M 401 18)) + p2) : Int32).toNatClampNeg then none else bI2 (F_Mod_boundNow p1 (M 421 (((6 * (M 401 18)) + p2) : Int32).toNatClampNeg) M) (fun r3 M4 => (if (((6 * (M4 401 18)) + p2) : Int32) < 0 ∨ 12 ≤ (((6 * (M4 401 18)) + p2) : Int32).toNatClampNeg then none else (if (M4 422 (((6 * (M4 401 18)) + p2) : Int32).toNatClampNeg) ≤ r3 then some (0, M4) else some (1, M4)))))
set_option maxHeartbeats 4000000 in
set_option maxRecDepth 20000 in
theorem f_Mod_isFree {l : Launch} {ld : Nat} {M : gM} {L : gL} {Q : Option Value → gM → gL → gR → Prop} (hld : isLa ld) {p1 : Int32} {p2 : Int32}  {q : Int32 × gM} (h : F_Mod_isFree p1 p2 M = some q) (hQ : Q (some (.int q.1)) q.2 L (rf ld)) : Tm l y_Mod_isFree (0, 0, 447) 447 [.ref 401, .int p1, .int p2] M L (rf ld) Q := by
  refine Tm.of (by decide) (Nat.le_of_ble_eq_true rfl) ?_
  show Wp l y_Mod_isFree (0, 0, 447) 447 0 0 0 [(0, .ref 401), (1, .int p1), (2, .int p2)] [] M L (rf ld) Q
  unfold F_Mod_isFree at h
  refine g_aload_n (pc1 := 1) d_Mod_isFree_0 rfl 0 rfl ?_
  refine g_iload_n (pc1 := 2) d_Mod_isFree_1 rfl 1 rfl ?_
  refine g_aload_n (pc1 := 3) d_Mod_isFree_2 rfl 0 rfl ?_
  refine g_getr (pc1 := 6) d_Mod_isFree_3 rfl ⟨_, fo_Mod_76⟩ sh_401 (by decide) (rf_401_33 ld) ?_
  refine g_bipush (pc1 := 8) (v := 6) d_Mod_isFree_6 rfl (by decide) ?_
  refine g_aload_n (pc1 := 9) d_Mod_isFree_8 rfl 0 rfl ?_
  refine g_geti (pc1 := 12) d_Mod_isFree_9 rfl ⟨_, fo_Mod_236⟩ sh_401 (by decide) ?_
  refine g_imul (pc1 := 13) d_Mod_isFree_12 rfl ?_
  refine g_iload_n (pc1 := 14) d_Mod_isFree_13 rfl 2 rfl ?_
  refine g_iadd (pc1 := 15) d_Mod_isFree_14 rfl ?_
  obtain ⟨g1, h⟩ := gdn h
  refine g_iald (pc1 := 16) d_Mod_isFree_15 rfl sh_421 (by decide) g1 ?_
  refine g_callV0 (pc1 := 19) (As := [.int p1, .int (M 421 (((6 * (M 401 18)) + p2) : Int32).toNatClampNeg)]) (rest := []) d_Mod_isFree_16 rfl mo_Mod_349 mi_Mod_boundNow mv_Mod_boundNow rfl sh_401 (by decide) (by decide) rfl rfl (Nat.le_of_ble_eq_true rfl) ?_
  obtain ⟨r3, M4, hq2, h⟩ := bnd2 h
  refine f_Mod_boundNow hld  hq2 ?_
  dsimp only [psh]
  refine g_aload_n (pc1 := 20) d_Mod_isFree_19 rfl 0 rfl ?_
  refine g_getr (pc1 := 23) d_Mod_isFree_20 rfl ⟨_, fo_Mod_79⟩ sh_401 (by decide) (rf_401_34 ld) ?_
  refine g_bipush (pc1 := 25) (v := 6) d_Mod_isFree_23 rfl (by decide) ?_
  refine g_aload_n (pc1 := 26) d_Mod_isFree_25 rfl 0 rfl ?_
  refine g_geti (pc1 := 29) d_Mod_isFree_26 rfl ⟨_, fo_Mod_236⟩ sh_401 (by decide) ?_
  refine g_imul (pc1 := 30) d_Mod_isFree_29 rfl ?_
  refine g_iload_n (pc1 := 31) d_Mod_isFree_30 rfl 2 rfl ?_
  refine g_iadd (pc1 := 32) d_Mod_isFree_31 rfl ?_
  obtain ⟨g5, h⟩ := gdn h
  refine g_iald (pc1 := 33) d_Mod_isFree_32 rfl sh_422 (by decide) g5 ?_
  refine g_icmp_ge (pc1 := 36) (tgt := 40) d_Mod_isFree_33 (by decide) rfl (fun c6 => ?_) (fun c6 => ?_)
  · replace h := itp h c6
    refine g_iconst (pc1 := 41) (v := 0) d_Mod_isFree_40 rfl (by decide) ?_
    refine g_ireturn (Or.inr ⟨rfl, rfl⟩) d_Mod_isFree_41 rfl ?_
    cases h; exact hQ
  · replace h := itn h c6
    refine g_iconst (pc1 := 37) (v := 1) d_Mod_isFree_36 rfl (by decide) ?_
    refine g_goto (tgt := 41) d_Mod_isFree_37 (by decide) ?_
    refine g_ireturn (Or.inr ⟨rfl, rfl⟩) d_Mod_isFree_41 rfl ?_
    cases h; exact hQ

def F_Mod_isWay (p1 : Int32) (p2 : Int32) (M : gM) : Option (Int32 × gM) :=
  bI2 (F_Mod_fillsWay p1 M) (fun r2 M3 => (if r2 = 0 then some (0, M3) else bI2 (F_Mod_isAsKnown p2 M3) (fun r6 M7 => (if r6 = 0 then some (0, M7) else some (1, M7)))))
set_option maxHeartbeats 4000000 in
set_option maxRecDepth 20000 in
theorem f_Mod_isWay {l : Launch} {ld : Nat} {M : gM} {L : gL} {Q : Option Value → gM → gL → gR → Prop} (hld : isLa ld) {p1 : Int32} {p2 : Int32}  {q : Int32 × gM} (h : F_Mod_isWay p1 p2 M = some q) (hQ : Q (some (.int q.1)) q.2 L (rf ld)) : Tm l y_Mod_isWay (0, 0, 447) 447 [.ref 401, .int p1, .int p2] M L (rf ld) Q := by
  refine Tm.of (by decide) (Nat.le_of_ble_eq_true rfl) ?_
  show Wp l y_Mod_isWay (0, 0, 447) 447 0 0 0 [(0, .ref 401), (1, .int p1), (2, .int p2)] [] M L (rf ld) Q
  unfold F_Mod_isWay at h
  refine g_aload_n (pc1 := 1) d_Mod_isWay_0 rfl 0 rfl ?_
  refine g_iload_n (pc1 := 2) d_Mod_isWay_1 rfl 1 rfl ?_
  refine g_callV0 (pc1 := 5) (As := [.int p1]) (rest := []) d_Mod_isWay_2 rfl mo_Mod_449 mi_Mod_fillsWay mv_Mod_fillsWay rfl sh_401 (by decide) (by decide) rfl rfl (Nat.le_of_ble_eq_true rfl) ?_
  obtain ⟨r2, M3, hq1, h⟩ := bnd2 h
  refine f_Mod_fillsWay hld  hq1 ?_
  dsimp only [psh]
  refine g_if_eq (pc1 := 8) (tgt := 20) d_Mod_isWay_5 (by decide) rfl (fun c4 => ?_) (fun c4 => ?_)
  · replace h := itp h c4
    refine g_iconst (pc1 := 21) (v := 0) d_Mod_isWay_20 rfl (by decide) ?_
    refine g_ireturn (Or.inr ⟨rfl, rfl⟩) d_Mod_isWay_21 rfl ?_
    cases h; exact hQ
  · replace h := itn h c4
    refine g_aload_n (pc1 := 9) d_Mod_isWay_8 rfl 0 rfl ?_
    refine g_iload_n (pc1 := 10) d_Mod_isWay_9 rfl 2 rfl ?_
    refine g_callV0 (pc1 := 13) (As := [.int p2]) (rest := []) d_Mod_isWay_10 rfl mo_Mod_452 mi_Mod_isAsKnown mv_Mod_isAsKnown rfl sh_401 (by decide) (by decide) rfl rfl (Nat.le_of_ble_eq_true rfl) ?_
    obtain ⟨r6, M7, hq5, h⟩ := bnd2 h
    refine f_Mod_isAsKnown hld  hq5 ?_
    dsimp only [psh]
    refine g_if_eq (pc1 := 16) (tgt := 20) d_Mod_isWay_13 (by decide) rfl (fun c8 => ?_) (fun c8 => ?_)
    · replace h := itp h c8
      refine g_iconst (pc1 := 21) (v := 0) d_Mod_isWay_20 rfl (by decide) ?_
      refine g_ireturn (Or.inr ⟨rfl, rfl⟩) d_Mod_isWay_21 rfl ?_
      cases h; exact hQ
    · replace h := itn h c8
      refine g_iconst (pc1 := 17) (v := 1) d_Mod_isWay_16 rfl (by decide) ?_
      refine g_goto (tgt := 21) d_Mod_isWay_17 (by decide) ?_
      refine g_ireturn (Or.inr ⟨rfl, rfl⟩) d_Mod_isWay_21 rfl ?_
      cases h; exact hQ

