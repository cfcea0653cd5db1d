def C_law_0 (xs : Nat → Int32) (Lx : Nat) (K : Int32 → gM → gL → Nat → Option Int32) (i : Int32) (M : gM) (L : gL) (ld : Nat) : Option Int32 :=
  (if ((i + 1) : Int32) < 0 ∨ Lx ≤ ((i + 1) : Int32).toNatClampNeg then none else (if ((i + 2) : Int32) < 0 ∨ Lx ≤ ((i + 2) : Int32).toNatClampNeg then none else (if ((i + 3) : Int32) < 0 ∨ Lx ≤ ((i + 3) : Int32).toNatClampNeg then none else (if ((i + 4) : Int32) < 0 ∨ Lx ≤ ((i + 4) : Int32).toNatClampNeg then none else (if ((i + 5) : Int32) < 0 ∨ Lx ≤ ((i + 5) : Int32).toNatClampNeg then none else bI2 (F_Main_feed (xs ((i + 1) : Int32).toNatClampNeg) (xs ((i + 2) : Int32).toNatClampNeg) (xs ((i + 3) : Int32).toNatClampNeg) (xs ((i + 4) : Int32).toNatClampNeg) (xs ((i + 5) : Int32).toNatClampNeg) M) (fun r7 M8 => (if ((i + 1) : Int32) < 0 ∨ Lx ≤ ((i + 1) : Int32).toNatClampNeg then none else (if ((i + 2) : Int32) < 0 ∨ Lx ≤ ((i + 2) : Int32).toNatClampNeg then none else (if ((i + 3) : Int32) < 0 ∨ Lx ≤ ((i + 3) : Int32).toNatClampNeg then none else (if ((i + 4) : Int32) < 0 ∨ Lx ≤ ((i + 4) : Int32).toNatClampNeg then none else (if ((i + 5) : Int32) < 0 ∨ Lx ≤ ((i + 5) : Int32).toNatClampNeg then none else bI2 (F_Mod_feed (xs ((i + 1) : Int32).toNatClampNeg) (xs ((i + 2) : Int32).toNatClampNeg) (xs ((i + 3) : Int32).toNatClampNeg) (xs ((i + 4) : Int32).toNatClampNeg) (xs ((i + 5) : Int32).toNatClampNeg) M8) (fun r15 M16 => nmI (i + 6) (fun x17 => K x17 M16 L ld)))))))))))))
set_option maxHeartbeats 4000000 in
set_option maxRecDepth 20000 in
theorem c_law_0 {l : Launch} {p : Program} {e : Env} {s : State} {m : MethodId} {below : List Frame} {meth : Method} {c : Code} {bs Lx : Nat} {xs : Nat → Int32} {D : va_G} {cA : Nat → ClassId} (C : ZC p s m meth c bs Lx xs D cA) (K : Int32 → gM → gL → Nat → Option Int32) (hK : ∀ (i : Int32) (M : gM) (L : gL) (ld : Nat), isLa ld → K i M L ld = some 1 → Zw l p e s m below meth c bs Lx xs D cA 447 23912 18 [(0, .ref bs), (1, .ref (s.heap.size + 0)), (2, .ref (s.heap.size + 401)), (3, .int i)] [] M L (rf ld)) {i : Int32} {M : gM} {L : gL} {ld : Nat} (hld : isLa ld) (h : C_law_0 xs Lx K i M L ld = some 1) : Zw l p e s m below meth c bs Lx xs D cA 447 23912 176 [(0, .ref bs), (1, .ref (s.heap.size + 0)), (2, .ref (s.heap.size + 401)), (3, .int i)] [] M L (rf ld) := by
  unfold C_law_0 at h
  refine z_aload_n C (pc1 := 177) 1 d_law_176 rfl rfl rfl ?_
  refine z_aload_n C (pc1 := 178) 0 d_law_177 rfl rfl rfl ?_
  refine z_iload_n C (pc1 := 179) 3 d_law_178 rfl rfl rfl ?_
  refine z_iconst C (pc1 := 180) (v := 1) d_law_179 rfl (by decide) ?_
  refine z_iadd C (pc1 := 181) d_law_180 rfl ?_
  obtain ⟨g1, h⟩ := gdn h
  refine z_sld C (pc1 := 182) d_law_181 rfl g1 ?_
  refine z_aload_n C (pc1 := 183) 0 d_law_182 rfl rfl rfl ?_
  refine z_iload_n C (pc1 := 184) 3 d_law_183 rfl rfl rfl ?_
  refine z_iconst C (pc1 := 185) (v := 2) d_law_184 rfl (by decide) ?_
  refine z_iadd C (pc1 := 186) d_law_185 rfl ?_
  obtain ⟨g2, h⟩ := gdn h
  refine z_sld C (pc1 := 187) d_law_186 rfl g2 ?_
  refine z_aload_n C (pc1 := 188) 0 d_law_187 rfl rfl rfl ?_
  refine z_iload_n C (pc1 := 189) 3 d_law_188 rfl rfl rfl ?_
  refine z_iconst C (pc1 := 190) (v := 3) d_law_189 rfl (by decide) ?_
  refine z_iadd C (pc1 := 191) d_law_190 rfl ?_
  obtain ⟨g3, h⟩ := gdn h
  refine z_sld C (pc1 := 192) d_law_191 rfl g3 ?_
  refine z_aload_n C (pc1 := 193) 0 d_law_192 rfl rfl rfl ?_
  refine z_iload_n C (pc1 := 194) 3 d_law_193 rfl rfl rfl ?_
  refine z_iconst C (pc1 := 195) (v := 4) d_law_194 rfl (by decide) ?_
  refine z_iadd C (pc1 := 196) d_law_195 rfl ?_
  obtain ⟨g4, h⟩ := gdn h
  refine z_sld C (pc1 := 197) d_law_196 rfl g4 ?_
  refine z_aload_n C (pc1 := 198) 0 d_law_197 rfl rfl rfl ?_
  refine z_iload_n C (pc1 := 199) 3 d_law_198 rfl rfl rfl ?_
  refine z_iconst C (pc1 := 200) (v := 5) d_law_199 rfl (by decide) ?_
  refine z_iadd C (pc1 := 201) d_law_200 rfl ?_
  obtain ⟨g5, h⟩ := gdn h
  refine z_sld C (pc1 := 202) d_law_201 rfl g5 ?_
  obtain ⟨r7, M8, hq6, h⟩ := bnd2 h
  refine z_callV C (E' := (0, 0, 447)) (pc1 := 205) (As := [.int (xs ((i + 1) : Int32).toNatClampNeg), .int (xs ((i + 2) : Int32).toNatClampNeg), .int (xs ((i + 3) : Int32).toNatClampNeg), .int (xs ((i + 4) : Int32).toNatClampNeg), .int (xs ((i + 5) : Int32).toNatClampNeg)]) (rest := []) d_law_202 rfl mo_Law0_13 mi_Main_feed mv_Main_feed sh_0 (by decide) rfl ⟨Nat.le_of_ble_eq_true rfl, Nat.le_of_ble_eq_true rfl⟩ rfl rfl (Nat.le_of_ble_eq_true rfl) ⟨Nat.le_of_ble_eq_true rfl, Nat.le_of_ble_eq_true rfl⟩ rfl ?_
  refine f_Main_feed hld hq6 ?_
  show Zw l p e s m below meth c bs Lx xs D cA 447 23912 205 [(0, .ref bs), (1, .ref (s.heap.size + 0)), (2, .ref (s.heap.size + 401)), (3, .int i)] [.int r7] M8 L (rf ld)
  refine z_pop C (pc1 := 206) d_law_205 rfl rfl ?_
  refine z_aload_n C (pc1 := 207) 2 d_law_206 rfl rfl rfl ?_
  refine z_aload_n C (pc1 := 208) 0 d_law_207 rfl rfl rfl ?_
  refine z_iload_n C (pc1 := 209) 3 d_law_208 rfl rfl rfl ?_
  refine z_iconst C (pc1 := 210) (v := 1) d_law_209 rfl (by decide) ?_
  refine z_iadd C (pc1 := 211) d_law_210 rfl ?_
  obtain ⟨g9, h⟩ := gdn h
  refine z_sld C (pc1 := 212) d_law_211 rfl g9 ?_
  refine z_aload_n C (pc1 := 213) 0 d_law_212 rfl rfl rfl ?_
  refine z_iload_n C (pc1 := 214) 3 d_law_213 rfl rfl rfl ?_
  refine z_iconst C (pc1 := 215) (v := 2) d_law_214 rfl (by decide) ?_
  refine z_iadd C (pc1 := 216) d_law_215 rfl ?_
  obtain ⟨g10, h⟩ := gdn h
  refine z_sld C (pc1 := 217) d_law_216 rfl g10 ?_
  refine z_aload_n C (pc1 := 218) 0 d_law_217 rfl rfl rfl ?_
  refine z_iload_n C (pc1 := 219) 3 d_law_218 rfl rfl rfl ?_
  refine z_iconst C (pc1 := 220) (v := 3) d_law_219 rfl (by decide) ?_
  refine z_iadd C (pc1 := 221) d_law_220 rfl ?_
  obtain ⟨g11, h⟩ := gdn h
  refine z_sld C (pc1 := 222) d_law_221 rfl g11 ?_
  refine z_aload_n C (pc1 := 223) 0 d_law_222 rfl rfl rfl ?_
  refine z_iload_n C (pc1 := 224) 3 d_law_223 rfl rfl rfl ?_
  refine z_iconst C (pc1 := 225) (v := 4) d_law_224 rfl (by decide) ?_
  refine z_iadd C (pc1 := 226) d_law_225 rfl ?_
  obtain ⟨g12, h⟩ := gdn h
  refine z_sld C (pc1 := 227) d_law_226 rfl g12 ?_
  refine z_aload_n C (pc1 := 228) 0 d_law_227 rfl rfl rfl ?_
  refine z_iload_n C (pc1 := 229) 3 d_law_228 rfl rfl rfl ?_
  refine z_iconst C (pc1 := 230) (v := 5) d_law_229 rfl (by decide) ?_
  refine z_iadd C (pc1 := 231) d_law_230 rfl ?_
  obtain ⟨g13, h⟩ := gdn h
  refine z_sld C (pc1 := 232) d_law_231 rfl g13 ?_
  obtain ⟨r15, M16, hq14, h⟩ := bnd2 h
  refine z_callV C (E' := (0, 0, 447)) (pc1 := 235) (As := [.int (xs ((i + 1) : Int32).toNatClampNeg), .int (xs ((i + 2) : Int32).toNatClampNeg), .int (xs ((i + 3) : Int32).toNatClampNeg), .int (xs ((i + 4) : Int32).toNatClampNeg), .int (xs ((i + 5) : Int32).toNatClampNeg)]) (rest := []) d_law_232 rfl mo_Law0_17 mi_Mod_feed mv_Mod_feed sh_401 (by decide) rfl ⟨Nat.le_of_ble_eq_true rfl, Nat.le_of_ble_eq_true rfl⟩ rfl rfl (Nat.le_of_ble_eq_true rfl) ⟨Nat.le_of_ble_eq_true rfl, Nat.le_of_ble_eq_true rfl⟩ rfl ?_
  refine f_Mod_feed hld hq14 ?_
  show Zw l p e s m below meth c bs Lx xs D cA 447 23912 235 [(0, .ref bs), (1, .ref (s.heap.size + 0)), (2, .ref (s.heap.size + 401)), (3, .int i)] [.int r15] M16 L (rf ld)
  refine z_pop C (pc1 := 236) d_law_235 rfl rfl ?_
  refine z_goto C (tgt := 1142) d_law_236 (by decide) ?_
  obtain ⟨x17, ex17, h⟩ := ltI h
  refine z_iinc C (pc1 := 1145) (v := x17) (lv' := [(0, .ref bs), (1, .ref (s.heap.size + 0)), (2, .ref (s.heap.size + 401)), (3, .int x17)]) d_law_1142 rfl 3 rfl (by rw [ex17]; rfl) (by decide) [1, 2, 3, 0] rfl ?_
  refine z_goto C (tgt := 18) d_law_1145 (by decide) ?_
  exact hK _ _ _ _ hld h
def C_law_1 (xs : Nat → Int32) (Lx : Nat) (K : Int32 → gM → gL → Nat → Option Int32) (i : Int32) (M : gM) (L : gL) (ld : Nat) : Option Int32 :=
  (if ((i + 1) : Int32) < 0 ∨ Lx ≤ ((i + 1) : Int32).toNatClampNeg then none else bI2 (F_Main_back (xs ((i + 1) : Int32).toNatClampNeg) M) (fun r3 M4 => (if ((i + 1) : Int32) < 0 ∨ Lx ≤ ((i + 1) : Int32).toNatClampNeg then none else bI2 (F_Mod_back (xs ((i + 1) : Int32).toNatClampNeg) M4) (fun r7 M8 => nmI (i + 6) (fun x9 => K x9 M8 L ld)))))
set_option maxHeartbeats 4000000 in
set_option maxRecDepth 20000 in
theorem c_law_1 {l : Launch} {p : Program} {e : Env} {s : State} {m : MethodId} {below : List Frame} {meth : Method} {c : Code} {bs Lx : Nat} {xs : Nat → Int32} {D : va_G} {cA : Nat → ClassId} (C : ZC p s m meth c bs Lx xs D cA) (K : Int32 → gM → gL → Nat → Option Int32) (hK : ∀ (i : Int32) (M : gM) (L : gL) (ld : Nat), isLa ld → K i M L ld = some 1 → Zw l p e s m below meth c bs Lx xs D cA 447 23912 18 [(0, .ref bs), (1, .ref (s.heap.size + 0)), (2, .ref (s.heap.size + 401)), (3, .int i)] [] M L (rf ld)) {i : Int32} {M : gM} {L : gL} {ld : Nat} (hld : isLa ld) (h : C_law_1 xs Lx K i M L ld = some 1) : Zw l p e s m below meth c bs Lx xs D cA 447 23912 239 [(0, .ref bs), (1, .ref (s.heap.size + 0)), (2, .ref (s.heap.size + 401)), (3, .int i)] [] M L (rf ld) := by
  unfold C_law_1 at h
  refine z_aload_n C (pc1 := 240) 1 d_law_239 rfl rfl rfl ?_
  refine z_aload_n C (pc1 := 241) 0 d_law_240 rfl rfl rfl ?_
  refine z_iload_n C (pc1 := 242) 3 d_law_241 rfl rfl rfl ?_
  refine z_iconst C (pc1 := 243) (v := 1) d_law_242 rfl (by decide) ?_
  refine z_iadd C (pc1 := 244) d_law_243 rfl ?_
  obtain ⟨g1, h⟩ := gdn h
  refine z_sld C (pc1 := 245) d_law_244 rfl g1 ?_
  obtain ⟨r3, M4, hq2, h⟩ := bnd2 h
  refine z_callV C (E' := (0, 0, 447)) (pc1 := 248) (As := [.int (xs ((i + 1) : Int32).toNatClampNeg)]) (rest := []) d_law_245 rfl mo_Law0_18 mi_Main_back mv_Main_back sh_0 (by decide) rfl ⟨Nat.le_of_ble_eq_true rfl, Nat.le_of_ble_eq_true rfl⟩ rfl rfl (Nat.le_of_ble_eq_true rfl) ⟨Nat.le_of_ble_eq_true rfl, Nat.le_of_ble_eq_true rfl⟩ rfl ?_
  refine f_Main_back hld hq2 ?_
  show Zw l p e s m below meth c bs Lx xs D cA 447 23912 248 [(0, .ref bs), (1, .ref (s.heap.size + 0)), (2, .ref (s.heap.size + 401)), (3, .int i)] [.int r3] M4 L (rf ld)
  refine z_pop C (pc1 := 249) d_law_248 rfl rfl ?_
  refine z_aload_n C (pc1 := 250) 2 d_law_249 rfl rfl rfl ?_
  refine z_aload_n C (pc1 := 251) 0 d_law_250 rfl rfl rfl ?_
  refine z_iload_n C (pc1 := 252) 3 d_law_251 rfl rfl rfl ?_
  refine z_iconst C (pc1 := 253) (v := 1) d_law_252 rfl (by decide) ?_
  refine z_iadd C (pc1 := 254) d_law_253 rfl ?_
  obtain ⟨g5, h⟩ := gdn h
  refine z_sld C (pc1 := 255) d_law_254 rfl g5 ?_
  obtain ⟨r7, M8, hq6, h⟩ := bnd2 h
  refine z_callV C (E' := (0, 0, 447)) (pc1 := 258) (As := [.int (xs ((i + 1) : Int32).toNatClampNeg)]) (rest := []) d_law_255 rfl mo_Law0_22 mi_Mod_back mv_Mod_back sh_401 (by decide) rfl ⟨Nat.le_of_ble_eq_true rfl, Nat.le_of_ble_eq_true rfl⟩ rfl rfl (Nat.le_of_ble_eq_true rfl) ⟨Nat.le_of_ble_eq_true rfl, Nat.le_of_ble_eq_true rfl⟩ rfl ?_
  refine f_Mod_back hld hq6 ?_
  show Zw l p e s m below meth c bs Lx xs D cA 447 23912 258 [(0, .ref bs), (1, .ref (s.heap.size + 0)), (2, .ref (s.heap.size + 401)), (3, .int i)] [.int r7] M8 L (rf ld)
  refine z_pop C (pc1 := 259) d_law_258 rfl rfl ?_
  refine z_goto C (tgt := 1142) d_law_259 (by decide) ?_
  obtain ⟨x9, ex9, h⟩ := ltI h
  refine z_iinc C (pc1 := 1145) (v := x9) (lv' := [(0, .ref bs), (1, .ref (s.heap.size + 0)), (2, .ref (s.heap.size + 401)), (3, .int x9)]) d_law_1142 rfl 3 rfl (by rw [ex9]; rfl) (by decide) [1, 2, 3, 0] rfl ?_
  refine z_goto C (tgt := 18) d_law_1145 (by decide) ?_
  exact hK _ _ _ _ hld h
def C_law_2 (xs : Nat → Int32) (Lx : Nat) (K : Int32 → gM → gL → Nat → Option Int32) (i : Int32) (M : gM) (L : gL) (ld : Nat) : Option Int32 :=
  bI4 (F_Main_read ld M L) (fun r2 M3 L4 ld5 => bI3 (F_Mod_read M3 L4) (fun r8 M9 L10 => nmI (i + 6) (fun x11 => K x11 M9 L10 ld5)))
set_option maxHeartbeats 4000000 in
set_option maxRecDepth 20000 in
theorem c_law_2 {l : Launch} {p : Program} {e : Env} {s : State} {m : MethodId} {below : List Frame} {meth : Method} {c : Code} {bs Lx : Nat} {xs : Nat → Int32} {D : va_G} {cA : Nat → ClassId} (C : ZC p s m meth c bs Lx xs D cA) (K : Int32 → gM → gL → Nat → Option Int32) (hK : ∀ (i : Int32) (M : gM) (L : gL) (ld : Nat), isLa ld → K i M L ld = some 1 → Zw l p e s m below meth c bs Lx xs D cA 447 23912 18 [(0, .ref bs), (1, .ref (s.heap.size + 0)), (2, .ref (s.heap.size + 401)), (3, .int i)] [] M L (rf ld)) {i : Int32} {M : gM} {L : gL} {ld : Nat} (hld : isLa ld) (h : C_law_2 xs Lx K i M L ld = some 1) : Zw l p e s m below meth c bs Lx xs D cA 447 23912 262 [(0, .ref bs), (1, .ref (s.heap.size + 0)), (2, .ref (s.heap.size + 401)), (3, .int i)] [] M L (rf ld) := by
  unfold C_law_2 at h
  refine z_aload_n C (pc1 := 263) 1 d_law_262 rfl rfl rfl ?_
  obtain ⟨r2, M3, L4, ld5, hq1, h⟩ := bnd4 h
  refine z_callV C (E' := (0, 0, 447)) (pc1 := 266) (As := []) (rest := []) d_law_263 rfl mo_Law0_23 mi_Main_read mv_Main_read sh_0 (by decide) rfl ⟨Nat.le_of_ble_eq_true rfl, Nat.le_of_ble_eq_true rfl⟩ rfl rfl (Nat.le_of_ble_eq_true rfl) ⟨Nat.le_of_ble_eq_true rfl, Nat.le_of_ble_eq_true rfl⟩ rfl ?_
  refine f_Main_read hld hq1 (fun hld6 => ?_)
  show Zw l p e s m below meth c bs Lx xs D cA 447 23912 266 [(0, .ref bs), (1, .ref (s.heap.size + 0)), (2, .ref (s.heap.size + 401)), (3, .int i)] [.int r2] M3 L4 (rf ld5)
  refine z_pop C (pc1 := 267) d_law_266 rfl rfl ?_
  refine z_aload_n C (pc1 := 268) 2 d_law_267 rfl rfl rfl ?_
  obtain ⟨r8, M9, L10, hq7, h⟩ := bnd3 h
  refine z_callV C (E' := (0, 0, 447)) (pc1 := 271) (As := []) (rest := []) d_law_268 rfl mo_Law0_27 mi_Mod_read mv_Mod_read sh_401 (by decide) rfl ⟨Nat.le_of_ble_eq_true rfl, Nat.le_of_ble_eq_true rfl⟩ rfl rfl (Nat.le_of_ble_eq_true rfl) ⟨Nat.le_of_ble_eq_true rfl, Nat.le_of_ble_eq_true rfl⟩ rfl ?_
  refine f_Mod_read hld6 hq7 ?_
  show Zw l p e s m below meth c bs Lx xs D cA 447 23912 271 [(0, .ref bs), (1, .ref (s.heap.size + 0)), (2, .ref (s.heap.size + 401)), (3, .int i)] [.int r8] M9 L10 (rf ld5)
  refine z_pop C (pc1 := 272) d_law_271 rfl rfl ?_
  refine z_goto C (tgt := 1142) d_law_272 (by decide) ?_
  obtain ⟨x11, ex11, h⟩ := ltI h
  refine z_iinc C (pc1 := 1145) (v := x11) (lv' := [(0, .ref bs), (1, .ref (s.heap.size + 0)), (2, .ref (s.heap.size + 401)), (3, .int x11)]) d_law_1142 rfl 3 rfl (by rw [ex11]; rfl) (by decide) [1, 2, 3, 0] rfl ?_
  refine z_goto C (tgt := 18) d_law_1145 (by decide) ?_
  exact hK _ _ _ _ hld6 h
def C_law_3 (xs : Nat → Int32) (Lx : Nat) (K : Int32 → gM → gL → Nat → Option Int32) (i : Int32) (M : gM) (L : gL) (ld : Nat) : Option Int32 :=
  bI (F_Main_place M) (fun r2 => bI (F_Mod_place M) (fun r4 => nmI (i + 6) (fun x5 => K x5 M L ld)))
set_option maxHeartbeats 4000000 in
set_option maxRecDepth 20000 in
theorem c_law_3 {l : Launch} {p : Program} {e : Env} {s : State} {m : MethodId} {below : List Frame} {meth : Method} {c : Code} {bs Lx : Nat} {xs : Nat → Int32} {D : va_G} {cA : Nat → ClassId} (C : ZC p s m meth c bs Lx xs D cA) (K : Int32 → gM → gL → Nat → Option Int32) (hK : ∀ (i : Int32) (M : gM) (L : gL) (ld : Nat), isLa ld → K i M L ld = some 1 → Zw l p e s m below meth c bs Lx xs D cA 447 23912 18 [(0, .ref bs), (1, .ref (s.heap.size + 0)), (2, .ref (s.heap.size + 401)), (3, .int i)] [] M L (rf ld)) {i : Int32} {M : gM} {L : gL} {ld : Nat} (hld : isLa ld) (h : C_law_3 xs Lx K i M L ld = some 1) : Zw l p e s m below meth c bs Lx xs D cA 447 23912 275 [(0, .ref bs), (1, .ref (s.heap.size + 0)), (2, .ref (s.heap.size + 401)), (3, .int i)] [] M L (rf ld) := by
  unfold C_law_3 at h
  refine z_aload_n C (pc1 := 276) 1 d_law_275 rfl rfl rfl ?_
  obtain ⟨r2, hq1, h⟩ := bnd h
  refine z_callV C (E' := (0, 0, 447)) (pc1 := 279) (As := []) (rest := []) d_law_276 rfl mo_Law0_28 mi_Main_place mv_Main_place sh_0 (by decide) rfl ⟨Nat.le_of_ble_eq_true rfl, Nat.le_of_ble_eq_true rfl⟩ rfl rfl (Nat.le_of_ble_eq_true rfl) ⟨Nat.le_of_ble_eq_true rfl, Nat.le_of_ble_eq_true rfl⟩ rfl ?_
  refine f_Main_place hld hq1 ?_
  show Zw l p e s m below meth c bs Lx xs D cA 447 23912 279 [(0, .ref bs), (1, .ref (s.heap.size + 0)), (2, .ref (s.heap.size + 401)), (3, .int i)] [.int r2] M L (rf ld)
  refine z_pop C (pc1 := 280) d_law_279 rfl rfl ?_
  refine z_aload_n C (pc1 := 281) 2 d_law_280 rfl rfl rfl ?_
  obtain ⟨r4, hq3, h⟩ := bnd h
  refine z_callV C (E' := (0, 0, 447)) (pc1 := 284) (As := []) (rest := []) d_law_281 rfl mo_Law0_31 mi_Mod_place mv_Mod_place sh_401 (by decide) rfl ⟨Nat.le_of_ble_eq_true rfl, Nat.le_of_ble_eq_true rfl⟩ rfl rfl (Nat.le_of_ble_eq_true rfl) ⟨Nat.le_of_ble_eq_true rfl, Nat.le_of_ble_eq_true rfl⟩ rfl ?_
  refine f_Mod_place hld hq3 ?_
  show Zw l p e s m below meth c bs Lx xs D cA 447 23912 284 [(0, .ref bs), (1, .ref (s.heap.size + 0)), (2, .ref (s.heap.size + 401)), (3, .int i)] [.int r4] M L (rf ld)
  refine z_pop C (pc1 := 285) d_law_284 rfl rfl ?_
  refine z_goto C (tgt := 1142) d_law_285 (by decide) ?_
  obtain ⟨x5, ex5, h⟩ := ltI h
  refine z_iinc C (pc1 := 1145) (v := x5) (lv' := [(0, .ref bs), (1, .ref (s.heap.size + 0)), (2, .ref (s.heap.size + 401)), (3, .int x5)]) d_law_1142 rfl 3 rfl (by rw [ex5]; rfl) (by decide) [1, 2, 3, 0] rfl ?_
  refine z_goto C (tgt := 18) d_law_1145 (by decide) ?_
  exact hK _ _ _ _ hld h
def C_law_4 (xs : Nat → Int32) (Lx : Nat) (K : Int32 → gM → gL → Nat → Option Int32) (i : Int32) (M : gM) (L : gL) (ld : Nat) : Option Int32 :=
  (if ((i + 1) : Int32) < 0 ∨ Lx ≤ ((i + 1) : Int32).toNatClampNeg then none else (if ((i + 2) : Int32) < 0 ∨ Lx ≤ ((i + 2) : Int32).toNatClampNeg then none else bI (F_Main_food ld (xs ((i + 1) : Int32).toNatClampNeg) (xs ((i + 2) : Int32).toNatClampNeg) M) (fun r4 => (if ((i + 1) : Int32) < 0 ∨ Lx ≤ ((i + 1) : Int32).toNatClampNeg then none else (if ((i + 2) : Int32) < 0 ∨ Lx ≤ ((i + 2) : Int32).toNatClampNeg then none else bI (F_Mod_food (xs ((i + 1) : Int32).toNatClampNeg) (xs ((i + 2) : Int32).toNatClampNeg) M) (fun r8 => nmI (i + 6) (fun x9 => K x9 M L ld)))))))
set_option maxHeartbeats 4000000 in
set_option maxRecDepth 20000 in
theorem c_law_4 {l : Launch} {p : Program} {e : Env} {s : State} {m : MethodId} {below : List Frame} {meth : Method} {c : Code} {bs Lx : Nat} {xs : Nat → Int32} {D : va_G} {cA : Nat → ClassId} (C : ZC p s m meth c bs Lx xs D cA) (K : Int32 → gM → gL → Nat → Option Int32) (hK : ∀ (i : Int32) (M : gM) (L : gL) (ld : Nat), isLa ld → K i M L ld = some 1 → Zw l p e s m below meth c bs Lx xs D cA 447 23912 18 [(0, .ref bs), (1, .ref (s.heap.size + 0)), (2, .ref (s.heap.size + 401)), (3, .int i)] [] M L (rf ld)) {i : Int32} {M : gM} {L : gL} {ld : Nat} (hld : isLa ld) (h : C_law_4 xs Lx K i M L ld = some 1) : Zw l p e s m below meth c bs Lx xs D cA 447 23912 288 [(0, .ref bs), (1, .ref (s.heap.size + 0)), (2, .ref (s.heap.size + 401)), (3, .int i)] [] M L (rf ld) := by
  unfold C_law_4 at h
  refine z_aload_n C (pc1 := 289) 1 d_law_288 rfl rfl rfl ?_
  refine z_aload_n C (pc1 := 290) 0 d_law_289 rfl rfl rfl ?_
  refine z_iload_n C (pc1 := 291) 3 d_law_290 rfl rfl rfl ?_
  refine z_iconst C (pc1 := 292) (v := 1) d_law_291 rfl (by decide) ?_
  refine z_iadd C (pc1 := 293) d_law_292 rfl ?_
  obtain ⟨g1, h⟩ := gdn h
  refine z_sld C (pc1 := 294) d_law_293 rfl g1 ?_
  refine z_aload_n C (pc1 := 295) 0 d_law_294 rfl rfl rfl ?_
  refine z_iload_n C (pc1 := 296) 3 d_law_295 rfl rfl rfl ?_
  refine z_iconst C (pc1 := 297) (v := 2) d_law_296 rfl (by decide) ?_
  refine z_iadd C (pc1 := 298) d_law_297 rfl ?_
  obtain ⟨g2, h⟩ := gdn h
  refine z_sld C (pc1 := 299) d_law_298 rfl g2 ?_
  obtain ⟨r4, hq3, h⟩ := bnd h
  refine z_callV C (E' := (0, 0, 447)) (pc1 := 302) (As := [.int (xs ((i + 1) : Int32).toNatClampNeg), .int (xs ((i + 2) : Int32).toNatClampNeg)]) (rest := []) d_law_299 rfl mo_Law0_32 mi_Main_food mv_Main_food sh_0 (by decide) rfl ⟨Nat.le_of_ble_eq_true rfl, Nat.le_of_ble_eq_true rfl⟩ rfl rfl (Nat.le_of_ble_eq_true rfl) ⟨Nat.le_of_ble_eq_true rfl, Nat.le_of_ble_eq_true rfl⟩ rfl ?_
  refine f_Main_food hld hq3 ?_
  show Zw l p e s m below meth c bs Lx xs D cA 447 23912 302 [(0, .ref bs), (1, .ref (s.heap.size + 0)), (2, .ref (s.heap.size + 401)), (3, .int i)] [.int r4] M L (rf ld)
  refine z_pop C (pc1 := 303) d_law_302 rfl rfl ?_
  refine z_aload_n C (pc1 := 304) 2 d_law_303 rfl rfl rfl ?_
  refine z_aload_n C (pc1 := 305) 0 d_law_304 rfl rfl rfl ?_
  refine z_iload_n C (pc1 := 306) 3 d_law_305 rfl rfl rfl ?_
  refine z_iconst C (pc1 := 307) (v := 1) d_law_306 rfl (by decide) ?_
  refine z_iadd C (pc1 := 308) d_law_307 rfl ?_
  obtain ⟨g5, h⟩ := gdn h
  refine z_sld C (pc1 := 309) d_law_308 rfl g5 ?_
  refine z_aload_n C (pc1 := 310) 0 d_law_309 rfl rfl rfl ?_
  refine z_iload_n C (pc1 := 311) 3 d_law_310 rfl rfl rfl ?_
  refine z_iconst C (pc1 := 312) (v := 2) d_law_311 rfl (by decide) ?_
  refine z_iadd C (pc1 := 313) d_law_312 rfl ?_
  obtain ⟨g6, h⟩ := gdn h
  refine z_sld C (pc1 := 314) d_law_313 rfl g6 ?_
  obtain ⟨r8, hq7, h⟩ := bnd h
  refine z_callV C (E' := (0, 0, 447)) (pc1 := 317) (As := [.int (xs ((i + 1) : Int32).toNatClampNeg), .int (xs ((i + 2) : Int32).toNatClampNeg)]) (rest := []) d_law_314 rfl mo_Law0_36 mi_Mod_food mv_Mod_food sh_401 (by decide) rfl ⟨Nat.le_of_ble_eq_true rfl, Nat.le_of_ble_eq_true rfl⟩ rfl rfl (Nat.le_of_ble_eq_true rfl) ⟨Nat.le_of_ble_eq_true rfl, Nat.le_of_ble_eq_true rfl⟩ rfl ?_
  refine f_Mod_food hld hq7 ?_
  show Zw l p e s m below meth c bs Lx xs D cA 447 23912 317 [(0, .ref bs), (1, .ref (s.heap.size + 0)), (2, .ref (s.heap.size + 401)), (3, .int i)] [.int r8] M L (rf ld)
  refine z_pop C (pc1 := 318) d_law_317 rfl rfl ?_
  refine z_goto C (tgt := 1142) d_law_318 (by decide) ?_
  obtain ⟨x9, ex9, h⟩ := ltI h
  refine z_iinc C (pc1 := 1145) (v := x9) (lv' := [(0, .ref bs), (1, .ref (s.heap.size + 0)), (2, .ref (s.heap.size + 401)), (3, .int x9)]) d_law_1142 rfl 3 rfl (by rw [ex9]; rfl) (by decide) [1, 2, 3, 0] rfl ?_
  refine z_goto C (tgt := 18) d_law_1145 (by decide) ?_
  exact hK _ _ _ _ hld h
def C_law_5 (xs : Nat → Int32) (Lx : Nat) (K : Int32 → gM → gL → Nat → Option Int32) (i : Int32) (M : gM) (L : gL) (ld : Nat) : Option Int32 :=
  (if ((i + 1) : Int32) < 0 ∨ Lx ≤ ((i + 1) : Int32).toNatClampNeg then none else (if ((i + 2) : Int32) < 0 ∨ Lx ≤ ((i + 2) : Int32).toNatClampNeg then none else bI2 (F_Main_dish ld (xs ((i + 1) : Int32).toNatClampNeg) (xs ((i + 2) : Int32).toNatClampNeg) M) (fun r4 M5 => (if ((i + 1) : Int32) < 0 ∨ Lx ≤ ((i + 1) : Int32).toNatClampNeg then none else (if ((i + 2) : Int32) < 0 ∨ Lx ≤ ((i + 2) : Int32).toNatClampNeg then none else bI2 (F_Mod_dish (xs ((i + 1) : Int32).toNatClampNeg) (xs ((i + 2) : Int32).toNatClampNeg) M5) (fun r9 M10 => (if r4 = r9 then nmI (i + 6) (fun x11 => K x11 M10 L ld) else some 0)))))))
set_option maxHeartbeats 4000000 in
set_option maxRecDepth 20000 in
theorem c_law_5 {l : Launch} {p : Program} {e : Env} {s : State} {m : MethodId} {below : List Frame} {meth : Method} {c : Code} {bs Lx : Nat} {xs : Nat → Int32} {D : va_G} {cA : Nat → ClassId} (C : ZC p s m meth c bs Lx xs D cA) (K : Int32 → gM → gL → Nat → Option Int32) (hK : ∀ (i : Int32) (M : gM) (L : gL) (ld : Nat), isLa ld → K i M L ld = some 1 → Zw l p e s m below meth c bs Lx xs D cA 447 23912 18 [(0, .ref bs), (1, .ref (s.heap.size + 0)), (2, .ref (s.heap.size + 401)), (3, .int i)] [] M L (rf ld)) {i : Int32} {M : gM} {L : gL} {ld : Nat} (hld : isLa ld) (h : C_law_5 xs Lx K i M L ld = some 1) : Zw l p e s m below meth c bs Lx xs D cA 447 23912 321 [(0, .ref bs), (1, .ref (s.heap.size + 0)), (2, .ref (s.heap.size + 401)), (3, .int i)] [] M L (rf ld) := by
  unfold C_law_5 at h
  refine z_aload_n C (pc1 := 322) 1 d_law_321 rfl rfl rfl ?_
  refine z_aload_n C (pc1 := 323) 0 d_law_322 rfl rfl rfl ?_
  refine z_iload_n C (pc1 := 324) 3 d_law_323 rfl rfl rfl ?_
  refine z_iconst C (pc1 := 325) (v := 1) d_law_324 rfl (by decide) ?_
  refine z_iadd C (pc1 := 326) d_law_325 rfl ?_
  obtain ⟨g1, h⟩ := gdn h
  refine z_sld C (pc1 := 327) d_law_326 rfl g1 ?_
  refine z_aload_n C (pc1 := 328) 0 d_law_327 rfl rfl rfl ?_
  refine z_iload_n C (pc1 := 329) 3 d_law_328 rfl rfl rfl ?_
  refine z_iconst C (pc1 := 330) (v := 2) d_law_329 rfl (by decide) ?_
  refine z_iadd C (pc1 := 331) d_law_330 rfl ?_
  obtain ⟨g2, h⟩ := gdn h
  refine z_sld C (pc1 := 332) d_law_331 rfl g2 ?_
  obtain ⟨r4, M5, hq3, h⟩ := bnd2 h
  refine z_callV C (E' := (0, 0, 447)) (pc1 := 335) (As := [.int (xs ((i + 1) : Int32).toNatClampNeg), .int (xs ((i + 2) : Int32).toNatClampNeg)]) (rest := []) d_law_332 rfl mo_Law0_37 mi_Main_dish mv_Main_dish sh_0 (by decide) rfl ⟨Nat.le_of_ble_eq_true rfl, Nat.le_of_ble_eq_true rfl⟩ rfl rfl (Nat.le_of_ble_eq_true rfl) ⟨Nat.le_of_ble_eq_true rfl, Nat.le_of_ble_eq_true rfl⟩ rfl ?_
  refine f_Main_dish hld hq3 ?_
  show Zw l p e s m below meth c bs Lx xs D cA 447 23912 335 [(0, .ref bs), (1, .ref (s.heap.size + 0)), (2, .ref (s.heap.size + 401)), (3, .int i)] [.int r4] M5 L (rf ld)
  refine z_aload_n C (pc1 := 336) 2 d_law_335 rfl rfl rfl ?_
  refine z_aload_n C (pc1 := 337) 0 d_law_336 rfl rfl rfl ?_
  refine z_iload_n C (pc1 := 338) 3 d_law_337 rfl rfl rfl ?_
  refine z_iconst C (pc1 := 339) (v := 1) d_law_338 rfl (by decide) ?_
  refine z_iadd C (pc1 := 340) d_law_339 rfl ?_
  obtain ⟨g6, h⟩ := gdn h
  refine z_sld C (pc1 := 341) d_law_340 rfl g6 ?_
  refine z_aload_n C (pc1 := 342) 0 d_law_341 rfl rfl rfl ?_
  refine z_iload_n C (pc1 := 343) 3 d_law_342 rfl rfl rfl ?_
  refine z_iconst C (pc1 := 344) (v := 2) d_law_343 rfl (by decide) ?_
  refine z_iadd C (pc1 := 345) d_law_344 rfl ?_
  obtain ⟨g7, h⟩ := gdn h
  refine z_sld C (pc1 := 346) d_law_345 rfl g7 ?_
  obtain ⟨r9, M10, hq8, h⟩ := bnd2 h
  refine z_callV C (E' := (0, 0, 447)) (pc1 := 349) (As := [.int (xs ((i + 1) : Int32).toNatClampNeg), .int (xs ((i + 2) : Int32).toNatClampNeg)]) (rest := [.int r4]) d_law_346 rfl mo_Law0_40 mi_Mod_dish mv_Mod_dish sh_401 (by decide) rfl ⟨Nat.le_of_ble_eq_true rfl, Nat.le_of_ble_eq_true rfl⟩ rfl rfl (Nat.le_of_ble_eq_true rfl) ⟨Nat.le_of_ble_eq_true rfl, Nat.le_of_ble_eq_true rfl⟩ rfl ?_
  refine f_Mod_dish hld hq8 ?_
  show Zw l p e s m below meth c bs Lx xs D cA 447 23912 349 [(0, .ref bs), (1, .ref (s.heap.size + 0)), (2, .ref (s.heap.size + 401)), (3, .int i)] [.int r9, .int r4] M10 L (rf ld)
  refine z_icmp_eq C (pc1 := 352) (tgt := 1142) d_law_349 (by decide) rfl (fun hc => ?_) (fun hc => ?_)
  rotate_left
  · exact absurd (itn h hc) (by decide)
  replace h := itp h hc
  obtain ⟨x11, ex11, h⟩ := ltI h
  refine z_iinc C (pc1 := 1145) (v := x11) (lv' := [(0, .ref bs), (1, .ref (s.heap.size + 0)), (2, .ref (s.heap.size + 401)), (3, .int x11)]) d_law_1142 rfl 3 rfl (by rw [ex11]; rfl) (by decide) [1, 2, 3, 0] rfl ?_
  refine z_goto C (tgt := 18) d_law_1145 (by decide) ?_
  exact hK _ _ _ _ hld h
def C_law_6 (xs : Nat → Int32) (Lx : Nat) (K : Int32 → gM → gL → Nat → Option Int32) (i : Int32) (M : gM) (L : gL) (ld : Nat) : Option Int32 :=
  (if ((i + 1) : Int32) < 0 ∨ Lx ≤ ((i + 1) : Int32).toNatClampNeg then none else (if ((i + 2) : Int32) < 0 ∨ Lx ≤ ((i + 2) : Int32).toNatClampNeg then none else bI (F_Main_amount ld (xs ((i + 1) : Int32).toNatClampNeg) (xs ((i + 2) : Int32).toNatClampNeg) M) (fun r4 => (if ((i + 1) : Int32) < 0 ∨ Lx ≤ ((i + 1) : Int32).toNatClampNeg then none else (if ((i + 2) : Int32) < 0 ∨ Lx ≤ ((i + 2) : Int32).toNatClampNeg then none else bI (F_Mod_amount (xs ((i + 1) : Int32).toNatClampNeg) (xs ((i + 2) : Int32).toNatClampNeg) M) (fun r8 => nmI (i + 6) (fun x9 => K x9 M L ld)))))))
set_option maxHeartbeats 4000000 in
set_option maxRecDepth 20000 in
theorem c_law_6 {l : Launch} {p : Program} {e : Env} {s : State} {m : MethodId} {below : List Frame} {meth : Method} {c : Code} {bs Lx : Nat} {xs : Nat → Int32} {D : va_G} {cA : Nat → ClassId} (C : ZC p s m meth c bs Lx xs D cA) (K : Int32 → gM → gL → Nat → Option Int32) (hK : ∀ (i : Int32) (M : gM) (L : gL) (ld : Nat), isLa ld → K i M L ld = some 1 → Zw l p e s m below meth c bs Lx xs D cA 447 23912 18 [(0, .ref bs), (1, .ref (s.heap.size + 0)), (2, .ref (s.heap.size + 401)), (3, .int i)] [] M L (rf ld)) {i : Int32} {M : gM} {L : gL} {ld : Nat} (hld : isLa ld) (h : C_law_6 xs Lx K i M L ld = some 1) : Zw l p e s m below meth c bs Lx xs D cA 447 23912 354 [(0, .ref bs), (1, .ref (s.heap.size + 0)), (2, .ref (s.heap.size + 401)), (3, .int i)] [] M L (rf ld) := by
  unfold C_law_6 at h
  refine z_aload_n C (pc1 := 355) 1 d_law_354 rfl rfl rfl ?_
  refine z_aload_n C (pc1 := 356) 0 d_law_355 rfl rfl rfl ?_
  refine z_iload_n C (pc1 := 357) 3 d_law_356 rfl rfl rfl ?_
  refine z_iconst C (pc1 := 358) (v := 1) d_law_357 rfl (by decide) ?_
  refine z_iadd C (pc1 := 359) d_law_358 rfl ?_
  obtain ⟨g1, h⟩ := gdn h
  refine z_sld C (pc1 := 360) d_law_359 rfl g1 ?_
  refine z_aload_n C (pc1 := 361) 0 d_law_360 rfl rfl rfl ?_
  refine z_iload_n C (pc1 := 362) 3 d_law_361 rfl rfl rfl ?_
  refine z_iconst C (pc1 := 363) (v := 2) d_law_362 rfl (by decide) ?_
  refine z_iadd C (pc1 := 364) d_law_363 rfl ?_
  obtain ⟨g2, h⟩ := gdn h
  refine z_sld C (pc1 := 365) d_law_364 rfl g2 ?_
  obtain ⟨r4, hq3, h⟩ := bnd h
  refine z_callV C (E' := (0, 0, 447)) (pc1 := 368) (As := [.int (xs ((i + 1) : Int32).toNatClampNeg), .int (xs ((i + 2) : Int32).toNatClampNeg)]) (rest := []) d_law_365 rfl mo_Law0_41 mi_Main_amount mv_Main_amount sh_0 (by decide) rfl ⟨Nat.le_of_ble_eq_true rfl, Nat.le_of_ble_eq_true rfl⟩ rfl rfl (Nat.le_of_ble_eq_true rfl) ⟨Nat.le_of_ble_eq_true rfl, Nat.le_of_ble_eq_true rfl⟩ rfl ?_
  refine f_Main_amount hld hq3 ?_
  show Zw l p e s m below meth c bs Lx xs D cA 447 23912 368 [(0, .ref bs), (1, .ref (s.heap.size + 0)), (2, .ref (s.heap.size + 401)), (3, .int i)] [.int r4] M L (rf ld)
  refine z_pop C (pc1 := 369) d_law_368 rfl rfl ?_
  refine z_aload_n C (pc1 := 370) 2 d_law_369 rfl rfl rfl ?_
  refine z_aload_n C (pc1 := 371) 0 d_law_370 rfl rfl rfl ?_
  refine z_iload_n C (pc1 := 372) 3 d_law_371 rfl rfl rfl ?_
  refine z_iconst C (pc1 := 373) (v := 1) d_law_372 rfl (by decide) ?_
  refine z_iadd C (pc1 := 374) d_law_373 rfl ?_
  obtain ⟨g5, h⟩ := gdn h
  refine z_sld C (pc1 := 375) d_law_374 rfl g5 ?_
  refine z_aload_n C (pc1 := 376) 0 d_law_375 rfl rfl rfl ?_
  refine z_iload_n C (pc1 := 377) 3 d_law_376 rfl rfl rfl ?_
  refine z_iconst C (pc1 := 378) (v := 2) d_law_377 rfl (by decide) ?_
  refine z_iadd C (pc1 := 379) d_law_378 rfl ?_
  obtain ⟨g6, h⟩ := gdn h
  refine z_sld C (pc1 := 380) d_law_379 rfl g6 ?_
  obtain ⟨r8, hq7, h⟩ := bnd h
  refine z_callV C (E' := (0, 0, 447)) (pc1 := 383) (As := [.int (xs ((i + 1) : Int32).toNatClampNeg), .int (xs ((i + 2) : Int32).toNatClampNeg)]) (rest := []) d_law_380 rfl mo_Law0_44 mi_Mod_amount mv_Mod_amount sh_401 (by decide) rfl ⟨Nat.le_of_ble_eq_true rfl, Nat.le_of_ble_eq_true rfl⟩ rfl rfl (Nat.le_of_ble_eq_true rfl) ⟨Nat.le_of_ble_eq_true rfl, Nat.le_of_ble_eq_true rfl⟩ rfl ?_
  refine f_Mod_amount hld hq7 ?_
  show Zw l p e s m below meth c bs Lx xs D cA 447 23912 383 [(0, .ref bs), (1, .ref (s.heap.size + 0)), (2, .ref (s.heap.size + 401)), (3, .int i)] [.int r8] M L (rf ld)
  refine z_pop C (pc1 := 384) d_law_383 rfl rfl ?_
  refine z_goto C (tgt := 1142) d_law_384 (by decide) ?_
  obtain ⟨x9, ex9, h⟩ := ltI h
  refine z_iinc C (pc1 := 1145) (v := x9) (lv' := [(0, .ref bs), (1, .ref (s.heap.size + 0)), (2, .ref (s.heap.size + 401)), (3, .int x9)]) d_law_1142 rfl 3 rfl (by rw [ex9]; rfl) (by decide) [1, 2, 3, 0] rfl ?_
  refine z_goto C (tgt := 18) d_law_1145 (by decide) ?_
  exact hK _ _ _ _ hld h
def C_law_7 (xs : Nat → Int32) (Lx : Nat) (K : Int32 → gM → gL → Nat → Option Int32) (i : Int32) (M : gM) (L : gL) (ld : Nat) : Option Int32 :=
  (if ((i + 1) : Int32) < 0 ∨ Lx ≤ ((i + 1) : Int32).toNatClampNeg then none else (if ((i + 2) : Int32) < 0 ∨ Lx ≤ ((i + 2) : Int32).toNatClampNeg then none else bI2 (F_Main_guest ld (xs ((i + 1) : Int32).toNatClampNeg) (xs ((i + 2) : Int32).toNatClampNeg) M) (fun r4 M5 => (if ((i + 1) : Int32) < 0 ∨ Lx ≤ ((i + 1) : Int32).toNatClampNeg then none else (if ((i + 2) : Int32) < 0 ∨ Lx ≤ ((i + 2) : Int32).toNatClampNeg then none else bI2 (F_Mod_guest (xs ((i + 1) : Int32).toNatClampNeg) (xs ((i + 2) : Int32).toNatClampNeg) M5) (fun r9 M10 => nmI (i + 6) (fun x11 => K x11 M10 L ld)))))))
set_option maxHeartbeats 4000000 in
set_option maxRecDepth 20000 in
theorem c_law_7 {l : Launch} {p : Program} {e : Env} {s : State} {m : MethodId} {below : List Frame} {meth : Method} {c : Code} {bs Lx : Nat} {xs : Nat → Int32} {D : va_G} {cA : Nat → ClassId} (C : ZC p s m meth c bs Lx xs D cA) (K : Int32 → gM → gL → Nat → Option Int32) (hK : ∀ (i : Int32) (M : gM) (L : gL) (ld : Nat), isLa ld → K i M L ld = some 1 → Zw l p e s m below meth c bs Lx xs D cA 447 23912 18 [(0, .ref bs), (1, .ref (s.heap.size + 0)), (2, .ref (s.heap.size + 401)), (3, .int i)] [] M L (rf ld)) {i : Int32} {M : gM} {L : gL} {ld : Nat} (hld : isLa ld) (h : C_law_7 xs Lx K i M L ld = some 1) : Zw l p e s m below meth c bs Lx xs D cA 447 23912 387 [(0, .ref bs), (1, .ref (s.heap.size + 0)), (2, .ref (s.heap.size + 401)), (3, .int i)] [] M L (rf ld) := by
  unfold C_law_7 at h
  refine z_aload_n C (pc1 := 388) 1 d_law_387 rfl rfl rfl ?_
  refine z_aload_n C (pc1 := 389) 0 d_law_388 rfl rfl rfl ?_
  refine z_iload_n C (pc1 := 390) 3 d_law_389 rfl rfl rfl ?_
  refine z_iconst C (pc1 := 391) (v := 1) d_law_390 rfl (by decide) ?_
  refine z_iadd C (pc1 := 392) d_law_391 rfl ?_
  obtain ⟨g1, h⟩ := gdn h
  refine z_sld C (pc1 := 393) d_law_392 rfl g1 ?_
  refine z_aload_n C (pc1 := 394) 0 d_law_393 rfl rfl rfl ?_
  refine z_iload_n C (pc1 := 395) 3 d_law_394 rfl rfl rfl ?_
  refine z_iconst C (pc1 := 396) (v := 2) d_law_395 rfl (by decide) ?_
  refine z_iadd C (pc1 := 397) d_law_396 rfl ?_
  obtain ⟨g2, h⟩ := gdn h
  refine z_sld C (pc1 := 398) d_law_397 rfl g2 ?_
  obtain ⟨r4, M5, hq3, h⟩ := bnd2 h
  refine z_callV C (E' := (0, 0, 447)) (pc1 := 401) (As := [.int (xs ((i + 1) : Int32).toNatClampNeg), .int (xs ((i + 2) : Int32).toNatClampNeg)]) (rest := []) d_law_398 rfl mo_Law0_45 mi_Main_guest mv_Main_guest sh_0 (by decide) rfl ⟨Nat.le_of_ble_eq_true rfl, Nat.le_of_ble_eq_true rfl⟩ rfl rfl (Nat.le_of_ble_eq_true rfl) ⟨Nat.le_of_ble_eq_true rfl, Nat.le_of_ble_eq_true rfl⟩ rfl ?_
  refine f_Main_guest hld hq3 ?_
  show Zw l p e s m below meth c bs Lx xs D cA 447 23912 401 [(0, .ref bs), (1, .ref (s.heap.size + 0)), (2, .ref (s.heap.size + 401)), (3, .int i)] [.int r4] M5 L (rf ld)
  refine z_pop C (pc1 := 402) d_law_401 rfl rfl ?_
  refine z_aload_n C (pc1 := 403) 2 d_law_402 rfl rfl rfl ?_
  refine z_aload_n C (pc1 := 404) 0 d_law_403 rfl rfl rfl ?_
  refine z_iload_n C (pc1 := 405) 3 d_law_404 rfl rfl rfl ?_
  refine z_iconst C (pc1 := 406) (v := 1) d_law_405 rfl (by decide) ?_
  refine z_iadd C (pc1 := 407) d_law_406 rfl ?_
  obtain ⟨g6, h⟩ := gdn h
  refine z_sld C (pc1 := 408) d_law_407 rfl g6 ?_
  refine z_aload_n C (pc1 := 409) 0 d_law_408 rfl rfl rfl ?_
  refine z_iload_n C (pc1 := 410) 3 d_law_409 rfl rfl rfl ?_
  refine z_iconst C (pc1 := 411) (v := 2) d_law_410 rfl (by decide) ?_
  refine z_iadd C (pc1 := 412) d_law_411 rfl ?_
  obtain ⟨g7, h⟩ := gdn h
  refine z_sld C (pc1 := 413) d_law_412 rfl g7 ?_
  obtain ⟨r9, M10, hq8, h⟩ := bnd2 h
  refine z_callV C (E' := (0, 0, 447)) (pc1 := 416) (As := [.int (xs ((i + 1) : Int32).toNatClampNeg), .int (xs ((i + 2) : Int32).toNatClampNeg)]) (rest := []) d_law_413 rfl mo_Law0_48 mi_Mod_guest mv_Mod_guest sh_401 (by decide) rfl ⟨Nat.le_of_ble_eq_true rfl, Nat.le_of_ble_eq_true rfl⟩ rfl rfl (Nat.le_of_ble_eq_true rfl) ⟨Nat.le_of_ble_eq_true rfl, Nat.le_of_ble_eq_true rfl⟩ rfl ?_
  refine f_Mod_guest hld hq8 ?_
  show Zw l p e s m below meth c bs Lx xs D cA 447 23912 416 [(0, .ref bs), (1, .ref (s.heap.size + 0)), (2, .ref (s.heap.size + 401)), (3, .int i)] [.int r9] M10 L (rf ld)
  refine z_pop C (pc1 := 417) d_law_416 rfl rfl ?_
  refine z_goto C (tgt := 1142) d_law_417 (by decide) ?_
  obtain ⟨x11, ex11, h⟩ := ltI h
  refine z_iinc C (pc1 := 1145) (v := x11) (lv' := [(0, .ref bs), (1, .ref (s.heap.size + 0)), (2, .ref (s.heap.size + 401)), (3, .int x11)]) d_law_1142 rfl 3 rfl (by rw [ex11]; rfl) (by decide) [1, 2, 3, 0] rfl ?_
  refine z_goto C (tgt := 18) d_law_1145 (by decide) ?_
  exact hK _ _ _ _ hld h
def C_law_8 (xs : Nat → Int32) (Lx : Nat) (K : Int32 → gM → gL → Nat → Option Int32) (i : Int32) (M : gM) (L : gL) (ld : Nat) : Option Int32 :=
  (if ((i + 1) : Int32) < 0 ∨ Lx ≤ ((i + 1) : Int32).toNatClampNeg then none else (if ((i + 2) : Int32) < 0 ∨ Lx ≤ ((i + 2) : Int32).toNatClampNeg then none else bI2 (F_Main_deed ld (xs ((i + 1) : Int32).toNatClampNeg) (xs ((i + 2) : Int32).toNatClampNeg) M) (fun r4 M5 => (if ((i + 1) : Int32) < 0 ∨ Lx ≤ ((i + 1) : Int32).toNatClampNeg then none else (if ((i + 2) : Int32) < 0 ∨ Lx ≤ ((i + 2) : Int32).toNatClampNeg then none else bI2 (F_Mod_deed (xs ((i + 1) : Int32).toNatClampNeg) (xs ((i + 2) : Int32).toNatClampNeg) M5) (fun r9 M10 => nmI (i + 6) (fun x11 => K x11 M10 L ld)))))))
set_option maxHeartbeats 4000000 in
set_option maxRecDepth 20000 in
theorem c_law_8 {l : Launch} {p : Program} {e : Env} {s : State} {m : MethodId} {below : List Frame} {meth : Method} {c : Code} {bs Lx : Nat} {xs : Nat → Int32} {D : va_G} {cA : Nat → ClassId} (C : ZC p s m meth c bs Lx xs D cA) (K : Int32 → gM → gL → Nat → Option Int32) (hK : ∀ (i : Int32) (M : gM) (L : gL) (ld : Nat), isLa ld → K i M L ld = some 1 → Zw l p e s m below meth c bs Lx xs D cA 447 23912 18 [(0, .ref bs), (1, .ref (s.heap.size + 0)), (2, .ref (s.heap.size + 401)), (3, .int i)] [] M L (rf ld)) {i : Int32} {M : gM} {L : gL} {ld : Nat} (hld : isLa ld) (h : C_law_8 xs Lx K i M L ld = some 1) : Zw l p e s m below meth c bs Lx xs D cA 447 23912 420 [(0, .ref bs), (1, .ref (s.heap.size + 0)), (2, .ref (s.heap.size + 401)), (3, .int i)] [] M L (rf ld) := by
  unfold C_law_8 at h
  refine z_aload_n C (pc1 := 421) 1 d_law_420 rfl rfl rfl ?_
  refine z_aload_n C (pc1 := 422) 0 d_law_421 rfl rfl rfl ?_
  refine z_iload_n C (pc1 := 423) 3 d_law_422 rfl rfl rfl ?_
  refine z_iconst C (pc1 := 424) (v := 1) d_law_423 rfl (by decide) ?_
  refine z_iadd C (pc1 := 425) d_law_424 rfl ?_
  obtain ⟨g1, h⟩ := gdn h
  refine z_sld C (pc1 := 426) d_law_425 rfl g1 ?_
  refine z_aload_n C (pc1 := 427) 0 d_law_426 rfl rfl rfl ?_
  refine z_iload_n C (pc1 := 428) 3 d_law_427 rfl rfl rfl ?_
  refine z_iconst C (pc1 := 429) (v := 2) d_law_428 rfl (by decide) ?_
  refine z_iadd C (pc1 := 430) d_law_429 rfl ?_
  obtain ⟨g2, h⟩ := gdn h
  refine z_sld C (pc1 := 431) d_law_430 rfl g2 ?_
  obtain ⟨r4, M5, hq3, h⟩ := bnd2 h
  refine z_callV C (E' := (0, 0, 447)) (pc1 := 434) (As := [.int (xs ((i + 1) : Int32).toNatClampNeg), .int (xs ((i + 2) : Int32).toNatClampNeg)]) (rest := []) d_law_431 rfl mo_Law0_49 mi_Main_deed mv_Main_deed sh_0 (by decide) rfl ⟨Nat.le_of_ble_eq_true rfl, Nat.le_of_ble_eq_true rfl⟩ rfl rfl (Nat.le_of_ble_eq_true rfl) ⟨Nat.le_of_ble_eq_true rfl, Nat.le_of_ble_eq_true rfl⟩ rfl ?_
  refine f_Main_deed hld hq3 ?_
  show Zw l p e s m below meth c bs Lx xs D cA 447 23912 434 [(0, .ref bs), (1, .ref (s.heap.size + 0)), (2, .ref (s.heap.size + 401)), (3, .int i)] [.int r4] M5 L (rf ld)
  refine z_pop C (pc1 := 435) d_law_434 rfl rfl ?_
  refine z_aload_n C (pc1 := 436) 2 d_law_435 rfl rfl rfl ?_
  refine z_aload_n C (pc1 := 437) 0 d_law_436 rfl rfl rfl ?_
  refine z_iload_n C (pc1 := 438) 3 d_law_437 rfl rfl rfl ?_
  refine z_iconst C (pc1 := 439) (v := 1) d_law_438 rfl (by decide) ?_
  refine z_iadd C (pc1 := 440) d_law_439 rfl ?_
  obtain ⟨g6, h⟩ := gdn h
  refine z_sld C (pc1 := 441) d_law_440 rfl g6 ?_
  refine z_aload_n C (pc1 := 442) 0 d_law_441 rfl rfl rfl ?_
  refine z_iload_n C (pc1 := 443) 3 d_law_442 rfl rfl rfl ?_
  refine z_iconst C (pc1 := 444) (v := 2) d_law_443 rfl (by decide) ?_
  refine z_iadd C (pc1 := 445) d_law_444 rfl ?_
  obtain ⟨g7, h⟩ := gdn h
  refine z_sld C (pc1 := 446) d_law_445 rfl g7 ?_
  obtain ⟨r9, M10, hq8, h⟩ := bnd2 h
  refine z_callV C (E' := (0, 0, 447)) (pc1 := 449) (As := [.int (xs ((i + 1) : Int32).toNatClampNeg), .int (xs ((i + 2) : Int32).toNatClampNeg)]) (rest := []) d_law_446 rfl mo_Law0_52 mi_Mod_deed mv_Mod_deed sh_401 (by decide) rfl ⟨Nat.le_of_ble_eq_true rfl, Nat.le_of_ble_eq_true rfl⟩ rfl rfl (Nat.le_of_ble_eq_true rfl) ⟨Nat.le_of_ble_eq_true rfl, Nat.le_of_ble_eq_true rfl⟩ rfl ?_
  refine f_Mod_deed hld hq8 ?_
  show Zw l p e s m below meth c bs Lx xs D cA 447 23912 449 [(0, .ref bs), (1, .ref (s.heap.size + 0)), (2, .ref (s.heap.size + 401)), (3, .int i)] [.int r9] M10 L (rf ld)
  refine z_pop C (pc1 := 450) d_law_449 rfl rfl ?_
  refine z_goto C (tgt := 1142) d_law_450 (by decide) ?_
  obtain ⟨x11, ex11, h⟩ := ltI h
  refine z_iinc C (pc1 := 1145) (v := x11) (lv' := [(0, .ref bs), (1, .ref (s.heap.size + 0)), (2, .ref (s.heap.size + 401)), (3, .int x11)]) d_law_1142 rfl 3 rfl (by rw [ex11]; rfl) (by decide) [1, 2, 3, 0] rfl ?_
  refine z_goto C (tgt := 18) d_law_1145 (by decide) ?_
  exact hK _ _ _ _ hld h
def C_law_9 (xs : Nat → Int32) (Lx : Nat) (K : Int32 → gM → gL → Nat → Option Int32) (i : Int32) (M : gM) (L : gL) (ld : Nat) : Option Int32 :=
  (if ((i + 1) : Int32) < 0 ∨ Lx ≤ ((i + 1) : Int32).toNatClampNeg then none else bI2 (F_Main_cook ld (xs ((i + 1) : Int32).toNatClampNeg) M) (fun r3 M4 => (if ((i + 1) : Int32) < 0 ∨ Lx ≤ ((i + 1) : Int32).toNatClampNeg then none else bI2 (F_Mod_cook (xs ((i + 1) : Int32).toNatClampNeg) M4) (fun r7 M8 => nmI (i + 6) (fun x9 => K x9 M8 L ld)))))
set_option maxHeartbeats 4000000 in
set_option maxRecDepth 20000 in
theorem c_law_9 {l : Launch} {p : Program} {e : Env} {s : State} {m : MethodId} {below : List Frame} {meth : Method} {c : Code} {bs Lx : Nat} {xs : Nat → Int32} {D : va_G} {cA : Nat → ClassId} (C : ZC p s m meth c bs Lx xs D cA) (K : Int32 → gM → gL → Nat → Option Int32) (hK : ∀ (i : Int32) (M : gM) (L : gL) (ld : Nat), isLa ld → K i M L ld = some 1 → Zw l p e s m below meth c bs Lx xs D cA 447 23912 18 [(0, .ref bs), (1, .ref (s.heap.size + 0)), (2, .ref (s.heap.size + 401)), (3, .int i)] [] M L (rf ld)) {i : Int32} {M : gM} {L : gL} {ld : Nat} (hld : isLa ld) (h : C_law_9 xs Lx K i M L ld = some 1) : Zw l p e s m below meth c bs Lx xs D cA 447 23912 453 [(0, .ref bs), (1, .ref (s.heap.size + 0)), (2, .ref (s.heap.size + 401)), (3, .int i)] [] M L (rf ld) := by
  unfold C_law_9 at h
  refine z_aload_n C (pc1 := 454) 1 d_law_453 rfl rfl rfl ?_
  refine z_aload_n C (pc1 := 455) 0 d_law_454 rfl rfl rfl ?_
  refine z_iload_n C (pc1 := 456) 3 d_law_455 rfl rfl rfl ?_
  refine z_iconst C (pc1 := 457) (v := 1) d_law_456 rfl (by decide) ?_
  refine z_iadd C (pc1 := 458) d_law_457 rfl ?_
  obtain ⟨g1, h⟩ := gdn h
  refine z_sld C (pc1 := 459) d_law_458 rfl g1 ?_
  obtain ⟨r3, M4, hq2, h⟩ := bnd2 h
  refine z_callV C (E' := (0, 0, 447)) (pc1 := 462) (As := [.int (xs ((i + 1) : Int32).toNatClampNeg)]) (rest := []) d_law_459 rfl mo_Law0_53 mi_Main_cook mv_Main_cook sh_0 (by decide) rfl ⟨Nat.le_of_ble_eq_true rfl, Nat.le_of_ble_eq_true rfl⟩ rfl rfl (Nat.le_of_ble_eq_true rfl) ⟨Nat.le_of_ble_eq_true rfl, Nat.le_of_ble_eq_true rfl⟩ rfl ?_
  refine f_Main_cook hld hq2 ?_
  show Zw l p e s m below meth c bs Lx xs D cA 447 23912 462 [(0, .ref bs), (1, .ref (s.heap.size + 0)), (2, .ref (s.heap.size + 401)), (3, .int i)] [.int r3] M4 L (rf ld)
  refine z_pop C (pc1 := 463) d_law_462 rfl rfl ?_
  refine z_aload_n C (pc1 := 464) 2 d_law_463 rfl rfl rfl ?_
  refine z_aload_n C (pc1 := 465) 0 d_law_464 rfl rfl rfl ?_
  refine z_iload_n C (pc1 := 466) 3 d_law_465 rfl rfl rfl ?_
  refine z_iconst C (pc1 := 467) (v := 1) d_law_466 rfl (by decide) ?_
  refine z_iadd C (pc1 := 468) d_law_467 rfl ?_
  obtain ⟨g5, h⟩ := gdn h
  refine z_sld C (pc1 := 469) d_law_468 rfl g5 ?_
  obtain ⟨r7, M8, hq6, h⟩ := bnd2 h
  refine z_callV C (E' := (0, 0, 447)) (pc1 := 472) (As := [.int (xs ((i + 1) : Int32).toNatClampNeg)]) (rest := []) d_law_469 rfl mo_Law0_56 mi_Mod_cook mv_Mod_cook sh_401 (by decide) rfl ⟨Nat.le_of_ble_eq_true rfl, Nat.le_of_ble_eq_true rfl⟩ rfl rfl (Nat.le_of_ble_eq_true rfl) ⟨Nat.le_of_ble_eq_true rfl, Nat.le_of_ble_eq_true rfl⟩ rfl ?_
  refine f_Mod_cook hld hq6 ?_
  show Zw l p e s m below meth c bs Lx xs D cA 447 23912 472 [(0, .ref bs), (1, .ref (s.heap.size + 0)), (2, .ref (s.heap.size + 401)), (3, .int i)] [.int r7] M8 L (rf ld)
  refine z_pop C (pc1 := 473) d_law_472 rfl rfl ?_
  refine z_goto C (tgt := 1142) d_law_473 (by decide) ?_
  obtain ⟨x9, ex9, h⟩ := ltI h
  refine z_iinc C (pc1 := 1145) (v := x9) (lv' := [(0, .ref bs), (1, .ref (s.heap.size + 0)), (2, .ref (s.heap.size + 401)), (3, .int x9)]) d_law_1142 rfl 3 rfl (by rw [ex9]; rfl) (by decide) [1, 2, 3, 0] rfl ?_
  refine z_goto C (tgt := 18) d_law_1145 (by decide) ?_
  exact hK _ _ _ _ hld h
def C_law_10 (xs : Nat → Int32) (Lx : Nat) (K : Int32 → gM → gL → Nat → Option Int32) (i : Int32) (M : gM) (L : gL) (ld : Nat) : Option Int32 :=
  (if ((i + 1) : Int32) < 0 ∨ Lx ≤ ((i + 1) : Int32).toNatClampNeg then none else bI2 (F_Main_eat ld (xs ((i + 1) : Int32).toNatClampNeg) M) (fun r3 M4 => (if ((i + 1) : Int32) < 0 ∨ Lx ≤ ((i + 1) : Int32).toNatClampNeg then none else bI2 (F_Mod_eat (xs ((i + 1) : Int32).toNatClampNeg) M4) (fun r7 M8 => nmI (i + 6) (fun x9 => K x9 M8 L ld)))))
set_option maxHeartbeats 4000000 in
set_option maxRecDepth 20000 in
theorem c_law_10 {l : Launch} {p : Program} {e : Env} {s : State} {m : MethodId} {below : List Frame} {meth : Method} {c : Code} {bs Lx : Nat} {xs : Nat → Int32} {D : va_G} {cA : Nat → ClassId} (C : ZC p s m meth c bs Lx xs D cA) (K : Int32 → gM → gL → Nat → Option Int32) (hK : ∀ (i : Int32) (M : gM) (L : gL) (ld : Nat), isLa ld → K i M L ld = some 1 → Zw l p e s m below meth c bs Lx xs D cA 447 23912 18 [(0, .ref bs), (1, .ref (s.heap.size + 0)), (2, .ref (s.heap.size + 401)), (3, .int i)] [] M L (rf ld)) {i : Int32} {M : gM} {L : gL} {ld : Nat} (hld : isLa ld) (h : C_law_10 xs Lx K i M L ld = some 1) : Zw l p e s m below meth c bs Lx xs D cA 447 23912 476 [(0, .ref bs), (1, .ref (s.heap.size + 0)), (2, .ref (s.heap.size + 401)), (3, .int i)] [] M L (rf ld) := by
  unfold C_law_10 at h
  refine z_aload_n C (pc1 := 477) 1 d_law_476 rfl rfl rfl ?_
  refine z_aload_n C (pc1 := 478) 0 d_law_477 rfl rfl rfl ?_
  refine z_iload_n C (pc1 := 479) 3 d_law_478 rfl rfl rfl ?_
  refine z_iconst C (pc1 := 480) (v := 1) d_law_479 rfl (by decide) ?_
  refine z_iadd C (pc1 := 481) d_law_480 rfl ?_
  obtain ⟨g1, h⟩ := gdn h
  refine z_sld C (pc1 := 482) d_law_481 rfl g1 ?_
  obtain ⟨r3, M4, hq2, h⟩ := bnd2 h
  refine z_callV C (E' := (0, 0, 447)) (pc1 := 485) (As := [.int (xs ((i + 1) : Int32).toNatClampNeg)]) (rest := []) d_law_482 rfl mo_Law0_57 mi_Main_eat mv_Main_eat sh_0 (by decide) rfl ⟨Nat.le_of_ble_eq_true rfl, Nat.le_of_ble_eq_true rfl⟩ rfl rfl (Nat.le_of_ble_eq_true rfl) ⟨Nat.le_of_ble_eq_true rfl, Nat.le_of_ble_eq_true rfl⟩ rfl ?_
  refine f_Main_eat hld hq2 ?_
  show Zw l p e s m below meth c bs Lx xs D cA 447 23912 485 [(0, .ref bs), (1, .ref (s.heap.size + 0)), (2, .ref (s.heap.size + 401)), (3, .int i)] [.int r3] M4 L (rf ld)
  refine z_pop C (pc1 := 486) d_law_485 rfl rfl ?_
  refine z_aload_n C (pc1 := 487) 2 d_law_486 rfl rfl rfl ?_
  refine z_aload_n C (pc1 := 488) 0 d_law_487 rfl rfl rfl ?_
  refine z_iload_n C (pc1 := 489) 3 d_law_488 rfl rfl rfl ?_
  refine z_iconst C (pc1 := 490) (v := 1) d_law_489 rfl (by decide) ?_
  refine z_iadd C (pc1 := 491) d_law_490 rfl ?_
  obtain ⟨g5, h⟩ := gdn h
  refine z_sld C (pc1 := 492) d_law_491 rfl g5 ?_
  obtain ⟨r7, M8, hq6, h⟩ := bnd2 h
  refine z_callV C (E' := (0, 0, 447)) (pc1 := 495) (As := [.int (xs ((i + 1) : Int32).toNatClampNeg)]) (rest := []) d_law_492 rfl mo_Law0_60 mi_Mod_eat mv_Mod_eat sh_401 (by decide) rfl ⟨Nat.le_of_ble_eq_true rfl, Nat.le_of_ble_eq_true rfl⟩ rfl rfl (Nat.le_of_ble_eq_true rfl) ⟨Nat.le_of_ble_eq_true rfl, Nat.le_of_ble_eq_true rfl⟩ rfl ?_
  refine f_Mod_eat hld hq6 ?_
  show Zw l p e s m below meth c bs Lx xs D cA 447 23912 495 [(0, .ref bs), (1, .ref (s.heap.size + 0)), (2, .ref (s.heap.size + 401)), (3, .int i)] [.int r7] M8 L (rf ld)
  refine z_pop C (pc1 := 496) d_law_495 rfl rfl ?_
  refine z_goto C (tgt := 1142) d_law_496 (by decide) ?_
  obtain ⟨x9, ex9, h⟩ := ltI h
  refine z_iinc C (pc1 := 1145) (v := x9) (lv' := [(0, .ref bs), (1, .ref (s.heap.size + 0)), (2, .ref (s.heap.size + 401)), (3, .int x9)]) d_law_1142 rfl 3 rfl (by rw [ex9]; rfl) (by decide) [1, 2, 3, 0] rfl ?_
  refine z_goto C (tgt := 18) d_law_1145 (by decide) ?_
  exact hK _ _ _ _ hld h
def C_law_11 (xs : Nat → Int32) (Lx : Nat) (K : Int32 → gM → gL → Nat → Option Int32) (i : Int32) (M : gM) (L : gL) (ld : Nat) : Option Int32 :=
  (if ((i + 1) : Int32) < 0 ∨ Lx ≤ ((i + 1) : Int32).toNatClampNeg then none else bI2 (F_Main_days ld (xs ((i + 1) : Int32).toNatClampNeg) M) (fun r3 M4 => (if ((i + 1) : Int32) < 0 ∨ Lx ≤ ((i + 1) : Int32).toNatClampNeg then none else bI2 (F_Mod_days (xs ((i + 1) : Int32).toNatClampNeg) M4) (fun r7 M8 => nmI (i + 6) (fun x9 => K x9 M8 L ld)))))
set_option maxHeartbeats 4000000 in
set_option maxRecDepth 20000 in
theorem c_law_11 {l : Launch} {p : Program} {e : Env} {s : State} {m : MethodId} {below : List Frame} {meth : Method} {c : Code} {bs Lx : Nat} {xs : Nat → Int32} {D : va_G} {cA : Nat → ClassId} (C : ZC p s m meth c bs Lx xs D cA) (K : Int32 → gM → gL → Nat → Option Int32) (hK : ∀ (i : Int32) (M : gM) (L : gL) (ld : Nat), isLa ld → K i M L ld = some 1 → Zw l p e s m below meth c bs Lx xs D cA 447 23912 18 [(0, .ref bs), (1, .ref (s.heap.size + 0)), (2, .ref (s.heap.size + 401)), (3, .int i)] [] M L (rf ld)) {i : Int32} {M : gM} {L : gL} {ld : Nat} (hld : isLa ld) (h : C_law_11 xs Lx K i M L ld = some 1) : Zw l p e s m below meth c bs Lx xs D cA 447 23912 499 [(0, .ref bs), (1, .ref (s.heap.size + 0)), (2, .ref (s.heap.size + 401)), (3, .int i)] [] M L (rf ld) := by
  unfold C_law_11 at h
  refine z_aload_n C (pc1 := 500) 1 d_law_499 rfl rfl rfl ?_
  refine z_aload_n C (pc1 := 501) 0 d_law_500 rfl rfl rfl ?_
  refine z_iload_n C (pc1 := 502) 3 d_law_501 rfl rfl rfl ?_
  refine z_iconst C (pc1 := 503) (v := 1) d_law_502 rfl (by decide) ?_
  refine z_iadd C (pc1 := 504) d_law_503 rfl ?_
  obtain ⟨g1, h⟩ := gdn h
  refine z_sld C (pc1 := 505) d_law_504 rfl g1 ?_
  obtain ⟨r3, M4, hq2, h⟩ := bnd2 h
  refine z_callV C (E' := (0, 0, 447)) (pc1 := 508) (As := [.int (xs ((i + 1) : Int32).toNatClampNeg)]) (rest := []) d_law_505 rfl mo_Law0_61 mi_Main_days mv_Main_days sh_0 (by decide) rfl ⟨Nat.le_of_ble_eq_true rfl, Nat.le_of_ble_eq_true rfl⟩ rfl rfl (Nat.le_of_ble_eq_true rfl) ⟨Nat.le_of_ble_eq_true rfl, Nat.le_of_ble_eq_true rfl⟩ rfl ?_
  refine f_Main_days hld hq2 ?_
  show Zw l p e s m below meth c bs Lx xs D cA 447 23912 508 [(0, .ref bs), (1, .ref (s.heap.size + 0)), (2, .ref (s.heap.size + 401)), (3, .int i)] [.int r3] M4 L (rf ld)
  refine z_pop C (pc1 := 509) d_law_508 rfl rfl ?_
  refine z_aload_n C (pc1 := 510) 2 d_law_509 rfl rfl rfl ?_
  refine z_aload_n C (pc1 := 511) 0 d_law_510 rfl rfl rfl ?_
  refine z_iload_n C (pc1 := 512) 3 d_law_511 rfl rfl rfl ?_
  refine z_iconst C (pc1 := 513) (v := 1) d_law_512 rfl (by decide) ?_
  refine z_iadd C (pc1 := 514) d_law_513 rfl ?_
  obtain ⟨g5, h⟩ := gdn h
  refine z_sld C (pc1 := 515) d_law_514 rfl g5 ?_
  obtain ⟨r7, M8, hq6, h⟩ := bnd2 h
  refine z_callV C (E' := (0, 0, 447)) (pc1 := 518) (As := [.int (xs ((i + 1) : Int32).toNatClampNeg)]) (rest := []) d_law_515 rfl mo_Law0_64 mi_Mod_days mv_Mod_days sh_401 (by decide) rfl ⟨Nat.le_of_ble_eq_true rfl, Nat.le_of_ble_eq_true rfl⟩ rfl rfl (Nat.le_of_ble_eq_true rfl) ⟨Nat.le_of_ble_eq_true rfl, Nat.le_of_ble_eq_true rfl⟩ rfl ?_
  refine f_Mod_days hld hq6 ?_
  show Zw l p e s m below meth c bs Lx xs D cA 447 23912 518 [(0, .ref bs), (1, .ref (s.heap.size + 0)), (2, .ref (s.heap.size + 401)), (3, .int i)] [.int r7] M8 L (rf ld)
  refine z_pop C (pc1 := 519) d_law_518 rfl rfl ?_
  refine z_goto C (tgt := 1142) d_law_519 (by decide) ?_
  obtain ⟨x9, ex9, h⟩ := ltI h
  refine z_iinc C (pc1 := 1145) (v := x9) (lv' := [(0, .ref bs), (1, .ref (s.heap.size + 0)), (2, .ref (s.heap.size + 401)), (3, .int x9)]) d_law_1142 rfl 3 rfl (by rw [ex9]; rfl) (by decide) [1, 2, 3, 0] rfl ?_
  refine z_goto C (tgt := 18) d_law_1145 (by decide) ?_
  exact hK _ _ _ _ hld h
def C_law_12 (xs : Nat → Int32) (Lx : Nat) (K : Int32 → gM → gL → Nat → Option Int32) (i : Int32) (M : gM) (L : gL) (ld : Nat) : Option Int32 :=
  bI2 (F_Main_undo M) (fun r2 M3 => bI2 (F_Mod_undo M3) (fun r5 M6 => nmI (i + 6) (fun x7 => K x7 M6 L ld)))
set_option maxHeartbeats 4000000 in
set_option maxRecDepth 20000 in
theorem c_law_12 {l : Launch} {p : Program} {e : Env} {s : State} {m : MethodId} {below : List Frame} {meth : Method} {c : Code} {bs Lx : Nat} {xs : Nat → Int32} {D : va_G} {cA : Nat → ClassId} (C : ZC p s m meth c bs Lx xs D cA) (K : Int32 → gM → gL → Nat → Option Int32) (hK : ∀ (i : Int32) (M : gM) (L : gL) (ld : Nat), isLa ld → K i M L ld = some 1 → Zw l p e s m below meth c bs Lx xs D cA 447 23912 18 [(0, .ref bs), (1, .ref (s.heap.size + 0)), (2, .ref (s.heap.size + 401)), (3, .int i)] [] M L (rf ld)) {i : Int32} {M : gM} {L : gL} {ld : Nat} (hld : isLa ld) (h : C_law_12 xs Lx K i M L ld = some 1) : Zw l p e s m below meth c bs Lx xs D cA 447 23912 522 [(0, .ref bs), (1, .ref (s.heap.size + 0)), (2, .ref (s.heap.size + 401)), (3, .int i)] [] M L (rf ld) := by
  unfold C_law_12 at h
  refine z_aload_n C (pc1 := 523) 1 d_law_522 rfl rfl rfl ?_
  obtain ⟨r2, M3, hq1, h⟩ := bnd2 h
  refine z_callV C (E' := (0, 0, 447)) (pc1 := 526) (As := []) (rest := []) d_law_523 rfl mo_Law0_65 mi_Main_undo mv_Main_undo sh_0 (by decide) rfl ⟨Nat.le_of_ble_eq_true rfl, Nat.le_of_ble_eq_true rfl⟩ rfl rfl (Nat.le_of_ble_eq_true rfl) ⟨Nat.le_of_ble_eq_true rfl, Nat.le_of_ble_eq_true rfl⟩ rfl ?_
  refine f_Main_undo hld hq1 ?_
  show Zw l p e s m below meth c bs Lx xs D cA 447 23912 526 [(0, .ref bs), (1, .ref (s.heap.size + 0)), (2, .ref (s.heap.size + 401)), (3, .int i)] [.int r2] M3 L (rf ld)
  refine z_pop C (pc1 := 527) d_law_526 rfl rfl ?_
  refine z_aload_n C (pc1 := 528) 2 d_law_527 rfl rfl rfl ?_
  obtain ⟨r5, M6, hq4, h⟩ := bnd2 h
  refine z_callV C (E' := (0, 0, 447)) (pc1 := 531) (As := []) (rest := []) d_law_528 rfl mo_Law0_69 mi_Mod_undo mv_Mod_undo sh_401 (by decide) rfl ⟨Nat.le_of_ble_eq_true rfl, Nat.le_of_ble_eq_true rfl⟩ rfl rfl (Nat.le_of_ble_eq_true rfl) ⟨Nat.le_of_ble_eq_true rfl, Nat.le_of_ble_eq_true rfl⟩ rfl ?_
  refine f_Mod_undo hld hq4 ?_
  show Zw l p e s m below meth c bs Lx xs D cA 447 23912 531 [(0, .ref bs), (1, .ref (s.heap.size + 0)), (2, .ref (s.heap.size + 401)), (3, .int i)] [.int r5] M6 L (rf ld)
  refine z_pop C (pc1 := 532) d_law_531 rfl rfl ?_
  refine z_goto C (tgt := 1142) d_law_532 (by decide) ?_
  obtain ⟨x7, ex7, h⟩ := ltI h
  refine z_iinc C (pc1 := 1145) (v := x7) (lv' := [(0, .ref bs), (1, .ref (s.heap.size + 0)), (2, .ref (s.heap.size + 401)), (3, .int x7)]) d_law_1142 rfl 3 rfl (by rw [ex7]; rfl) (by decide) [1, 2, 3, 0] rfl ?_
  refine z_goto C (tgt := 18) d_law_1145 (by decide) ?_
  exact hK _ _ _ _ hld h
def C_law_13 (xs : Nat → Int32) (Lx : Nat) (K : Int32 → gM → gL → Nat → Option Int32) (i : Int32) (M : gM) (L : gL) (ld : Nat) : Option Int32 :=
  (if ((i + 1) : Int32) < 0 ∨ Lx ≤ ((i + 1) : Int32).toNatClampNeg then none else (if ((i + 2) : Int32) < 0 ∨ Lx ≤ ((i + 2) : Int32).toNatClampNeg then none else (if ((i + 3) : Int32) < 0 ∨ Lx ≤ ((i + 3) : Int32).toNatClampNeg then none else (if ((i + 4) : Int32) < 0 ∨ Lx ≤ ((i + 4) : Int32).toNatClampNeg then none else bI2 (F_Main_pot ld (xs ((i + 1) : Int32).toNatClampNeg) (xs ((i + 2) : Int32).toNatClampNeg) (xs ((i + 3) : Int32).toNatClampNeg) (xs ((i + 4) : Int32).toNatClampNeg) M) (fun r6 M7 => (if ((i + 1) : Int32) < 0 ∨ Lx ≤ ((i + 1) : Int32).toNatClampNeg then none else (if ((i + 2) : Int32) < 0 ∨ Lx ≤ ((i + 2) : Int32).toNatClampNeg then none else (if ((i + 3) : Int32) < 0 ∨ Lx ≤ ((i + 3) : Int32).toNatClampNeg then none else (if ((i + 4) : Int32) < 0 ∨ Lx ≤ ((i + 4) : Int32).toNatClampNeg then none else bI2 (F_Mod_pot (xs ((i + 1) : Int32).toNatClampNeg) (xs ((i + 2) : Int32).toNatClampNeg) (xs ((i + 3) : Int32).toNatClampNeg) (xs ((i + 4) : Int32).toNatClampNeg) M7) (fun r13 M14 => nmI (i + 6) (fun x15 => K x15 M14 L ld)))))))))))
set_option maxHeartbeats 4000000 in
set_option maxRecDepth 20000 in
theorem c_law_13 {l : Launch} {p : Program} {e : Env} {s : State} {m : MethodId} {below : List Frame} {meth : Method} {c : Code} {bs Lx : Nat} {xs : Nat → Int32} {D : va_G} {cA : Nat → ClassId} (C : ZC p s m meth c bs Lx xs D cA) (K : Int32 → gM → gL → Nat → Option Int32) (hK : ∀ (i : Int32) (M : gM) (L : gL) (ld : Nat), isLa ld → K i M L ld = some 1 → Zw l p e s m below meth c bs Lx xs D cA 447 23912 18 [(0, .ref bs), (1, .ref (s.heap.size + 0)), (2, .ref (s.heap.size + 401)), (3, .int i)] [] M L (rf ld)) {i : Int32} {M : gM} {L : gL} {ld : Nat} (hld : isLa ld) (h : C_law_13 xs Lx K i M L ld = some 1) : Zw l p e s m below meth c bs Lx xs D cA 447 23912 535 [(0, .ref bs), (1, .ref (s.heap.size + 0)), (2, .ref (s.heap.size + 401)), (3, .int i)] [] M L (rf ld) := by
  unfold C_law_13 at h
  refine z_aload_n C (pc1 := 536) 1 d_law_535 rfl rfl rfl ?_
  refine z_aload_n C (pc1 := 537) 0 d_law_536 rfl rfl rfl ?_
  refine z_iload_n C (pc1 := 538) 3 d_law_537 rfl rfl rfl ?_
  refine z_iconst C (pc1 := 539) (v := 1) d_law_538 rfl (by decide) ?_
  refine z_iadd C (pc1 := 540) d_law_539 rfl ?_
  obtain ⟨g1, h⟩ := gdn h
  refine z_sld C (pc1 := 541) d_law_540 rfl g1 ?_
  refine z_aload_n C (pc1 := 542) 0 d_law_541 rfl rfl rfl ?_
  refine z_iload_n C (pc1 := 543) 3 d_law_542 rfl rfl rfl ?_
  refine z_iconst C (pc1 := 544) (v := 2) d_law_543 rfl (by decide) ?_
  refine z_iadd C (pc1 := 545) d_law_544 rfl ?_
  obtain ⟨g2, h⟩ := gdn h
  refine z_sld C (pc1 := 546) d_law_545 rfl g2 ?_
  refine z_aload_n C (pc1 := 547) 0 d_law_546 rfl rfl rfl ?_
  refine z_iload_n C (pc1 := 548) 3 d_law_547 rfl rfl rfl ?_
  refine z_iconst C (pc1 := 549) (v := 3) d_law_548 rfl (by decide) ?_
  refine z_iadd C (pc1 := 550) d_law_549 rfl ?_
  obtain ⟨g3, h⟩ := gdn h
  refine z_sld C (pc1 := 551) d_law_550 rfl g3 ?_
  refine z_aload_n C (pc1 := 552) 0 d_law_551 rfl rfl rfl ?_
  refine z_iload_n C (pc1 := 553) 3 d_law_552 rfl rfl rfl ?_
  refine z_iconst C (pc1 := 554) (v := 4) d_law_553 rfl (by decide) ?_
  refine z_iadd C (pc1 := 555) d_law_554 rfl ?_
  obtain ⟨g4, h⟩ := gdn h
  refine z_sld C (pc1 := 556) d_law_555 rfl g4 ?_
  obtain ⟨r6, M7, hq5, h⟩ := bnd2 h
  refine z_callV C (E' := (0, 0, 447)) (pc1 := 559) (As := [.int (xs ((i + 1) : Int32).toNatClampNeg), .int (xs ((i + 2) : Int32).toNatClampNeg), .int (xs ((i + 3) : Int32).toNatClampNeg), .int (xs ((i + 4) : Int32).toNatClampNeg)]) (rest := []) d_law_556 rfl mo_Law0_70 mi_Main_pot mv_Main_pot sh_0 (by decide) rfl ⟨Nat.le_of_ble_eq_true rfl, Nat.le_of_ble_eq_true rfl⟩ rfl rfl (Nat.le_of_ble_eq_true rfl) ⟨Nat.le_of_ble_eq_true rfl, Nat.le_of_ble_eq_true rfl⟩ rfl ?_
  refine f_Main_pot hld hq5 ?_
  show Zw l p e s m below meth c bs Lx xs D cA 447 23912 559 [(0, .ref bs), (1, .ref (s.heap.size + 0)), (2, .ref (s.heap.size + 401)), (3, .int i)] [.int r6] M7 L (rf ld)
  refine z_pop C (pc1 := 560) d_law_559 rfl rfl ?_
  refine z_aload_n C (pc1 := 561) 2 d_law_560 rfl rfl rfl ?_
  refine z_aload_n C (pc1 := 562) 0 d_law_561 rfl rfl rfl ?_
  refine z_iload_n C (pc1 := 563) 3 d_law_562 rfl rfl rfl ?_
  refine z_iconst C (pc1 := 564) (v := 1) d_law_563 rfl (by decide) ?_
  refine z_iadd C (pc1 := 565) d_law_564 rfl ?_
  obtain ⟨g8, h⟩ := gdn h
  refine z_sld C (pc1 := 566) d_law_565 rfl g8 ?_
  refine z_aload_n C (pc1 := 567) 0 d_law_566 rfl rfl rfl ?_
  refine z_iload_n C (pc1 := 568) 3 d_law_567 rfl rfl rfl ?_
  refine z_iconst C (pc1 := 569) (v := 2) d_law_568 rfl (by decide) ?_
  refine z_iadd C (pc1 := 570) d_law_569 rfl ?_
  obtain ⟨g9, h⟩ := gdn h
  refine z_sld C (pc1 := 571) d_law_570 rfl g9 ?_
  refine z_aload_n C (pc1 := 572) 0 d_law_571 rfl rfl rfl ?_
  refine z_iload_n C (pc1 := 573) 3 d_law_572 rfl rfl rfl ?_
  refine z_iconst C (pc1 := 574) (v := 3) d_law_573 rfl (by decide) ?_
  refine z_iadd C (pc1 := 575) d_law_574 rfl ?_
  obtain ⟨g10, h⟩ := gdn h
  refine z_sld C (pc1 := 576) d_law_575 rfl g10 ?_
  refine z_aload_n C (pc1 := 577) 0 d_law_576 rfl rfl rfl ?_
  refine z_iload_n C (pc1 := 578) 3 d_law_577 rfl rfl rfl ?_
  refine z_iconst C (pc1 := 579) (v := 4) d_law_578 rfl (by decide) ?_
  refine z_iadd C (pc1 := 580) d_law_579 rfl ?_
  obtain ⟨g11, h⟩ := gdn h
  refine z_sld C (pc1 := 581) d_law_580 rfl g11 ?_
  obtain ⟨r13, M14, hq12, h⟩ := bnd2 h
  refine z_callV C (E' := (0, 0, 447)) (pc1 := 584) (As := [.int (xs ((i + 1) : Int32).toNatClampNeg), .int (xs ((i + 2) : Int32).toNatClampNeg), .int (xs ((i + 3) : Int32).toNatClampNeg), .int (xs ((i + 4) : Int32).toNatClampNeg)]) (rest := []) d_law_581 rfl mo_Law0_74 mi_Mod_pot mv_Mod_pot sh_401 (by decide) rfl ⟨Nat.le_of_ble_eq_true rfl, Nat.le_of_ble_eq_true rfl⟩ rfl rfl (Nat.le_of_ble_eq_true rfl) ⟨Nat.le_of_ble_eq_true rfl, Nat.le_of_ble_eq_true rfl⟩ rfl ?_
  refine f_Mod_pot hld hq12 ?_
  show Zw l p e s m below meth c bs Lx xs D cA 447 23912 584 [(0, .ref bs), (1, .ref (s.heap.size + 0)), (2, .ref (s.heap.size + 401)), (3, .int i)] [.int r13] M14 L (rf ld)
  refine z_pop C (pc1 := 585) d_law_584 rfl rfl ?_
  refine z_goto C (tgt := 1142) d_law_585 (by decide) ?_
  obtain ⟨x15, ex15, h⟩ := ltI h
  refine z_iinc C (pc1 := 1145) (v := x15) (lv' := [(0, .ref bs), (1, .ref (s.heap.size + 0)), (2, .ref (s.heap.size + 401)), (3, .int x15)]) d_law_1142 rfl 3 rfl (by rw [ex15]; rfl) (by decide) [1, 2, 3, 0] rfl ?_
  refine z_goto C (tgt := 18) d_law_1145 (by decide) ?_
  exact hK _ _ _ _ hld h
def C_law_14 (xs : Nat → Int32) (Lx : Nat) (K : Int32 → gM → gL → Nat → Option Int32) (i : Int32) (M : gM) (L : gL) (ld : Nat) : Option Int32 :=
  (if ((i + 1) : Int32) < 0 ∨ Lx ≤ ((i + 1) : Int32).toNatClampNeg then none else (if ((i + 2) : Int32) < 0 ∨ Lx ≤ ((i + 2) : Int32).toNatClampNeg then none else bI2 (F_Main_pinch ld (xs ((i + 1) : Int32).toNatClampNeg) (xs ((i + 2) : Int32).toNatClampNeg) M) (fun r4 M5 => (if ((i + 1) : Int32) < 0 ∨ Lx ≤ ((i + 1) : Int32).toNatClampNeg then none else (if ((i + 2) : Int32) < 0 ∨ Lx ≤ ((i + 2) : Int32).toNatClampNeg then none else bI2 (F_Mod_pinch (xs ((i + 1) : Int32).toNatClampNeg) (xs ((i + 2) : Int32).toNatClampNeg) M5) (fun r9 M10 => nmI (i + 6) (fun x11 => K x11 M10 L ld)))))))
set_option maxHeartbeats 4000000 in
set_option maxRecDepth 20000 in
theorem c_law_14 {l : Launch} {p : Program} {e : Env} {s : State} {m : MethodId} {below : List Frame} {meth : Method} {c : Code} {bs Lx : Nat} {xs : Nat → Int32} {D : va_G} {cA : Nat → ClassId} (C : ZC p s m meth c bs Lx xs D cA) (K : Int32 → gM → gL → Nat → Option Int32) (hK : ∀ (i : Int32) (M : gM) (L : gL) (ld : Nat), isLa ld → K i M L ld = some 1 → Zw l p e s m below meth c bs Lx xs D cA 447 23912 18 [(0, .ref bs), (1, .ref (s.heap.size + 0)), (2, .ref (s.heap.size + 401)), (3, .int i)] [] M L (rf ld)) {i : Int32} {M : gM} {L : gL} {ld : Nat} (hld : isLa ld) (h : C_law_14 xs Lx K i M L ld = some 1) : Zw l p e s m below meth c bs Lx xs D cA 447 23912 588 [(0, .ref bs), (1, .ref (s.heap.size + 0)), (2, .ref (s.heap.size + 401)), (3, .int i)] [] M L (rf ld) := by
  unfold C_law_14 at h
  refine z_aload_n C (pc1 := 589) 1 d_law_588 rfl rfl rfl ?_
  refine z_aload_n C (pc1 := 590) 0 d_law_589 rfl rfl rfl ?_
  refine z_iload_n C (pc1 := 591) 3 d_law_590 rfl rfl rfl ?_
  refine z_iconst C (pc1 := 592) (v := 1) d_law_591 rfl (by decide) ?_
  refine z_iadd C (pc1 := 593) d_law_592 rfl ?_
  obtain ⟨g1, h⟩ := gdn h
  refine z_sld C (pc1 := 594) d_law_593 rfl g1 ?_
  refine z_aload_n C (pc1 := 595) 0 d_law_594 rfl rfl rfl ?_
  refine z_iload_n C (pc1 := 596) 3 d_law_595 rfl rfl rfl ?_
  refine z_iconst C (pc1 := 597) (v := 2) d_law_596 rfl (by decide) ?_
  refine z_iadd C (pc1 := 598) d_law_597 rfl ?_
  obtain ⟨g2, h⟩ := gdn h
  refine z_sld C (pc1 := 599) d_law_598 rfl g2 ?_
  obtain ⟨r4, M5, hq3, h⟩ := bnd2 h
  refine z_callV C (E' := (0, 0, 447)) (pc1 := 602) (As := [.int (xs ((i + 1) : Int32).toNatClampNeg), .int (xs ((i + 2) : Int32).toNatClampNeg)]) (rest := []) d_law_599 rfl mo_Law0_75 mi_Main_pinch mv_Main_pinch sh_0 (by decide) rfl ⟨Nat.le_of_ble_eq_true rfl, Nat.le_of_ble_eq_true rfl⟩ rfl rfl (Nat.le_of_ble_eq_true rfl) ⟨Nat.le_of_ble_eq_true rfl, Nat.le_of_ble_eq_true rfl⟩ rfl ?_
  refine f_Main_pinch hld hq3 ?_
  show Zw l p e s m below meth c bs Lx xs D cA 447 23912 602 [(0, .ref bs), (1, .ref (s.heap.size + 0)), (2, .ref (s.heap.size + 401)), (3, .int i)] [.int r4] M5 L (rf ld)
  refine z_pop C (pc1 := 603) d_law_602 rfl rfl ?_
  refine z_aload_n C (pc1 := 604) 2 d_law_603 rfl rfl rfl ?_
  refine z_aload_n C (pc1 := 605) 0 d_law_604 rfl rfl rfl ?_
  refine z_iload_n C (pc1 := 606) 3 d_law_605 rfl rfl rfl ?_
  refine z_iconst C (pc1 := 607) (v := 1) d_law_606 rfl (by decide) ?_
  refine z_iadd C (pc1 := 608) d_law_607 rfl ?_
  obtain ⟨g6, h⟩ := gdn h
  refine z_sld C (pc1 := 609) d_law_608 rfl g6 ?_
  refine z_aload_n C (pc1 := 610) 0 d_law_609 rfl rfl rfl ?_
  refine z_iload_n C (pc1 := 611) 3 d_law_610 rfl rfl rfl ?_
  refine z_iconst C (pc1 := 612) (v := 2) d_law_611 rfl (by decide) ?_
  refine z_iadd C (pc1 := 613) d_law_612 rfl ?_
  obtain ⟨g7, h⟩ := gdn h
  refine z_sld C (pc1 := 614) d_law_613 rfl g7 ?_
  obtain ⟨r9, M10, hq8, h⟩ := bnd2 h
  refine z_callV C (E' := (0, 0, 447)) (pc1 := 617) (As := [.int (xs ((i + 1) : Int32).toNatClampNeg), .int (xs ((i + 2) : Int32).toNatClampNeg)]) (rest := []) d_law_614 rfl mo_Law0_78 mi_Mod_pinch mv_Mod_pinch sh_401 (by decide) rfl ⟨Nat.le_of_ble_eq_true rfl, Nat.le_of_ble_eq_true rfl⟩ rfl rfl (Nat.le_of_ble_eq_true rfl) ⟨Nat.le_of_ble_eq_true rfl, Nat.le_of_ble_eq_true rfl⟩ rfl ?_
  refine f_Mod_pinch hld hq8 ?_
  show Zw l p e s m below meth c bs Lx xs D cA 447 23912 617 [(0, .ref bs), (1, .ref (s.heap.size + 0)), (2, .ref (s.heap.size + 401)), (3, .int i)] [.int r9] M10 L (rf ld)
  refine z_pop C (pc1 := 618) d_law_617 rfl rfl ?_
  refine z_goto C (tgt := 1142) d_law_618 (by decide) ?_
  obtain ⟨x11, ex11, h⟩ := ltI h
  refine z_iinc C (pc1 := 1145) (v := x11) (lv' := [(0, .ref bs), (1, .ref (s.heap.size + 0)), (2, .ref (s.heap.size + 401)), (3, .int x11)]) d_law_1142 rfl 3 rfl (by rw [ex11]; rfl) (by decide) [1, 2, 3, 0] rfl ?_
  refine z_goto C (tgt := 18) d_law_1145 (by decide) ?_
  exact hK _ _ _ _ hld h
def C_law_15 (xs : Nat → Int32) (Lx : Nat) (K : Int32 → gM → gL → Nat → Option Int32) (i : Int32) (M : gM) (L : gL) (ld : Nat) : Option Int32 :=
  (if ((i + 1) : Int32) < 0 ∨ Lx ≤ ((i + 1) : Int32).toNatClampNeg then none else (if ((i + 2) : Int32) < 0 ∨ Lx ≤ ((i + 2) : Int32).toNatClampNeg then none else bI2 (F_Main_freest ld (xs ((i + 1) : Int32).toNatClampNeg) (xs ((i + 2) : Int32).toNatClampNeg) M) (fun r4 M5 => (if ((i + 1) : Int32) < 0 ∨ Lx ≤ ((i + 1) : Int32).toNatClampNeg then none else (if ((i + 2) : Int32) < 0 ∨ Lx ≤ ((i + 2) : Int32).toNatClampNeg then none else bI2 (F_Mod_freest (xs ((i + 1) : Int32).toNatClampNeg) (xs ((i + 2) : Int32).toNatClampNeg) M5) (fun r9 M10 => nmI (i + 6) (fun x11 => K x11 M10 L ld)))))))
set_option maxHeartbeats 4000000 in
set_option maxRecDepth 20000 in
theorem c_law_15 {l : Launch} {p : Program} {e : Env} {s : State} {m : MethodId} {below : List Frame} {meth : Method} {c : Code} {bs Lx : Nat} {xs : Nat → Int32} {D : va_G} {cA : Nat → ClassId} (C : ZC p s m meth c bs Lx xs D cA) (K : Int32 → gM → gL → Nat → Option Int32) (hK : ∀ (i : Int32) (M : gM) (L : gL) (ld : Nat), isLa ld → K i M L ld = some 1 → Zw l p e s m below meth c bs Lx xs D cA 447 23912 18 [(0, .ref bs), (1, .ref (s.heap.size + 0)), (2, .ref (s.heap.size + 401)), (3, .int i)] [] M L (rf ld)) {i : Int32} {M : gM} {L : gL} {ld : Nat} (hld : isLa ld) (h : C_law_15 xs Lx K i M L ld = some 1) : Zw l p e s m below meth c bs Lx xs D cA 447 23912 621 [(0, .ref bs), (1, .ref (s.heap.size + 0)), (2, .ref (s.heap.size + 401)), (3, .int i)] [] M L (rf ld) := by
  unfold C_law_15 at h
  refine z_aload_n C (pc1 := 622) 1 d_law_621 rfl rfl rfl ?_
  refine z_aload_n C (pc1 := 623) 0 d_law_622 rfl rfl rfl ?_
  refine z_iload_n C (pc1 := 624) 3 d_law_623 rfl rfl rfl ?_
  refine z_iconst C (pc1 := 625) (v := 1) d_law_624 rfl (by decide) ?_
  refine z_iadd C (pc1 := 626) d_law_625 rfl ?_
  obtain ⟨g1, h⟩ := gdn h
  refine z_sld C (pc1 := 627) d_law_626 rfl g1 ?_
  refine z_aload_n C (pc1 := 628) 0 d_law_627 rfl rfl rfl ?_
  refine z_iload_n C (pc1 := 629) 3 d_law_628 rfl rfl rfl ?_
  refine z_iconst C (pc1 := 630) (v := 2) d_law_629 rfl (by decide) ?_
  refine z_iadd C (pc1 := 631) d_law_630 rfl ?_
  obtain ⟨g2, h⟩ := gdn h
  refine z_sld C (pc1 := 632) d_law_631 rfl g2 ?_
  obtain ⟨r4, M5, hq3, h⟩ := bnd2 h
  refine z_callV C (E' := (0, 0, 447)) (pc1 := 635) (As := [.int (xs ((i + 1) : Int32).toNatClampNeg), .int (xs ((i + 2) : Int32).toNatClampNeg)]) (rest := []) d_law_632 rfl mo_Law0_79 mi_Main_freest mv_Main_freest sh_0 (by decide) rfl ⟨Nat.le_of_ble_eq_true rfl, Nat.le_of_ble_eq_true rfl⟩ rfl rfl (Nat.le_of_ble_eq_true rfl) ⟨Nat.le_of_ble_eq_true rfl, Nat.le_of_ble_eq_true rfl⟩ rfl ?_
  refine f_Main_freest hld hq3 ?_
  show Zw l p e s m below meth c bs Lx xs D cA 447 23912 635 [(0, .ref bs), (1, .ref (s.heap.size + 0)), (2, .ref (s.heap.size + 401)), (3, .int i)] [.int r4] M5 L (rf ld)
  refine z_pop C (pc1 := 636) d_law_635 rfl rfl ?_
  refine z_aload_n C (pc1 := 637) 2 d_law_636 rfl rfl rfl ?_
  refine z_aload_n C (pc1 := 638) 0 d_law_637 rfl rfl rfl ?_
  refine z_iload_n C (pc1 := 639) 3 d_law_638 rfl rfl rfl ?_
  refine z_iconst C (pc1 := 640) (v := 1) d_law_639 rfl (by decide) ?_
  refine z_iadd C (pc1 := 641) d_law_640 rfl ?_
  obtain ⟨g6, h⟩ := gdn h
  refine z_sld C (pc1 := 642) d_law_641 rfl g6 ?_
  refine z_aload_n C (pc1 := 643) 0 d_law_642 rfl rfl rfl ?_
  refine z_iload_n C (pc1 := 644) 3 d_law_643 rfl rfl rfl ?_
  refine z_iconst C (pc1 := 645) (v := 2) d_law_644 rfl (by decide) ?_
  refine z_iadd C (pc1 := 646) d_law_645 rfl ?_
  obtain ⟨g7, h⟩ := gdn h
  refine z_sld C (pc1 := 647) d_law_646 rfl g7 ?_
  obtain ⟨r9, M10, hq8, h⟩ := bnd2 h
  refine z_callV C (E' := (0, 0, 447)) (pc1 := 650) (As := [.int (xs ((i + 1) : Int32).toNatClampNeg), .int (xs ((i + 2) : Int32).toNatClampNeg)]) (rest := []) d_law_647 rfl mo_Law0_82 mi_Mod_freest mv_Mod_freest sh_401 (by decide) rfl ⟨Nat.le_of_ble_eq_true rfl, Nat.le_of_ble_eq_true rfl⟩ rfl rfl (Nat.le_of_ble_eq_true rfl) ⟨Nat.le_of_ble_eq_true rfl, Nat.le_of_ble_eq_true rfl⟩ rfl ?_
  refine f_Mod_freest hld hq8 ?_
  show Zw l p e s m below meth c bs Lx xs D cA 447 23912 650 [(0, .ref bs), (1, .ref (s.heap.size + 0)), (2, .ref (s.heap.size + 401)), (3, .int i)] [.int r9] M10 L (rf ld)
  refine z_pop C (pc1 := 651) d_law_650 rfl rfl ?_
  refine z_goto C (tgt := 1142) d_law_651 (by decide) ?_
  obtain ⟨x11, ex11, h⟩ := ltI h
  refine z_iinc C (pc1 := 1145) (v := x11) (lv' := [(0, .ref bs), (1, .ref (s.heap.size + 0)), (2, .ref (s.heap.size + 401)), (3, .int x11)]) d_law_1142 rfl 3 rfl (by rw [ex11]; rfl) (by decide) [1, 2, 3, 0] rfl ?_
  refine z_goto C (tgt := 18) d_law_1145 (by decide) ?_
  exact hK _ _ _ _ hld h
def C_law_16 (xs : Nat → Int32) (Lx : Nat) (K : Int32 → gM → gL → Nat → Option Int32) (i : Int32) (M : gM) (L : gL) (ld : Nat) : Option Int32 :=
  bI2 (F_Main_supper ld M) (fun r2 M3 => bI2 (F_Mod_supper M3) (fun r5 M6 => nmI (i + 6) (fun x7 => K x7 M6 L ld)))
set_option maxHeartbeats 4000000 in
set_option maxRecDepth 20000 in
theorem c_law_16 {l : Launch} {p : Program} {e : Env} {s : State} {m : MethodId} {below : List Frame} {meth : Method} {c : Code} {bs Lx : Nat} {xs : Nat → Int32} {D : va_G} {cA : Nat → ClassId} (C : ZC p s m meth c bs Lx xs D cA) (K : Int32 → gM → gL → Nat → Option Int32) (hK : ∀ (i : Int32) (M : gM) (L : gL) (ld : Nat), isLa ld → K i M L ld = some 1 → Zw l p e s m below meth c bs Lx xs D cA 447 23912 18 [(0, .ref bs), (1, .ref (s.heap.size + 0)), (2, .ref (s.heap.size + 401)), (3, .int i)] [] M L (rf ld)) {i : Int32} {M : gM} {L : gL} {ld : Nat} (hld : isLa ld) (h : C_law_16 xs Lx K i M L ld = some 1) : Zw l p e s m below meth c bs Lx xs D cA 447 23912 654 [(0, .ref bs), (1, .ref (s.heap.size + 0)), (2, .ref (s.heap.size + 401)), (3, .int i)] [] M L (rf ld) := by
  unfold C_law_16 at h
  refine z_aload_n C (pc1 := 655) 1 d_law_654 rfl rfl rfl ?_
  obtain ⟨r2, M3, hq1, h⟩ := bnd2 h
  refine z_callV C (E' := (0, 0, 447)) (pc1 := 658) (As := []) (rest := []) d_law_655 rfl mo_Law0_83 mi_Main_supper mv_Main_supper sh_0 (by decide) rfl ⟨Nat.le_of_ble_eq_true rfl, Nat.le_of_ble_eq_true rfl⟩ rfl rfl (Nat.le_of_ble_eq_true rfl) ⟨Nat.le_of_ble_eq_true rfl, Nat.le_of_ble_eq_true rfl⟩ rfl ?_
  refine f_Main_supper hld hq1 ?_
  show Zw l p e s m below meth c bs Lx xs D cA 447 23912 658 [(0, .ref bs), (1, .ref (s.heap.size + 0)), (2, .ref (s.heap.size + 401)), (3, .int i)] [.int r2] M3 L (rf ld)
  refine z_pop C (pc1 := 659) d_law_658 rfl rfl ?_
  refine z_aload_n C (pc1 := 660) 2 d_law_659 rfl rfl rfl ?_
  obtain ⟨r5, M6, hq4, h⟩ := bnd2 h
  refine z_callV C (E' := (0, 0, 447)) (pc1 := 663) (As := []) (rest := []) d_law_660 rfl mo_Law0_86 mi_Mod_supper mv_Mod_supper sh_401 (by decide) rfl ⟨Nat.le_of_ble_eq_true rfl, Nat.le_of_ble_eq_true rfl⟩ rfl rfl (Nat.le_of_ble_eq_true rfl) ⟨Nat.le_of_ble_eq_true rfl, Nat.le_of_ble_eq_true rfl⟩ rfl ?_
  refine f_Mod_supper hld hq4 ?_
  show Zw l p e s m below meth c bs Lx xs D cA 447 23912 663 [(0, .ref bs), (1, .ref (s.heap.size + 0)), (2, .ref (s.heap.size + 401)), (3, .int i)] [.int r5] M6 L (rf ld)
  refine z_pop C (pc1 := 664) d_law_663 rfl rfl ?_
  refine z_goto C (tgt := 1142) d_law_664 (by decide) ?_
  obtain ⟨x7, ex7, h⟩ := ltI h
  refine z_iinc C (pc1 := 1145) (v := x7) (lv' := [(0, .ref bs), (1, .ref (s.heap.size + 0)), (2, .ref (s.heap.size + 401)), (3, .int x7)]) d_law_1142 rfl 3 rfl (by rw [ex7]; rfl) (by decide) [1, 2, 3, 0] rfl ?_
  refine z_goto C (tgt := 18) d_law_1145 (by decide) ?_
  exact hK _ _ _ _ hld h
def C_law_17 (xs : Nat → Int32) (Lx : Nat) (K : Int32 → gM → gL → Nat → Option Int32) (i : Int32) (M : gM) (L : gL) (ld : Nat) : Option Int32 :=
  (if ((i + 1) : Int32) < 0 ∨ Lx ≤ ((i + 1) : Int32).toNatClampNeg then none else (if ((i + 2) : Int32) < 0 ∨ Lx ≤ ((i + 2) : Int32).toNatClampNeg then none else (if ((i + 3) : Int32) < 0 ∨ Lx ≤ ((i + 3) : Int32).toNatClampNeg then none else bI2 (F_Main_feud ld (xs ((i + 1) : Int32).toNatClampNeg) (xs ((i + 2) : Int32).toNatClampNeg) (xs ((i + 3) : Int32).toNatClampNeg) M) (fun r5 M6 => (if ((i + 1) : Int32) < 0 ∨ Lx ≤ ((i + 1) : Int32).toNatClampNeg then none else (if ((i + 2) : Int32) < 0 ∨ Lx ≤ ((i + 2) : Int32).toNatClampNeg then none else (if ((i + 3) : Int32) < 0 ∨ Lx ≤ ((i + 3) : Int32).toNatClampNeg then none else bI2 (F_Mod_feud (xs ((i + 1) : Int32).toNatClampNeg) (xs ((i + 2) : Int32).toNatClampNeg) (xs ((i + 3) : Int32).toNatClampNeg) M6) (fun r11 M12 => nmI (i + 6) (fun x13 => K x13 M12 L ld)))))))))
set_option maxHeartbeats 4000000 in
set_option maxRecDepth 20000 in
theorem c_law_17 {l : Launch} {p : Program} {e : Env} {s : State} {m : MethodId} {below : List Frame} {meth : Method} {c : Code} {bs Lx : Nat} {xs : Nat → Int32} {D : va_G} {cA : Nat → ClassId} (C : ZC p s m meth c bs Lx xs D cA) (K : Int32 → gM → gL → Nat → Option Int32) (hK : ∀ (i : Int32) (M : gM) (L : gL) (ld : Nat), isLa ld → K i M L ld = some 1 → Zw l p e s m below meth c bs Lx xs D cA 447 23912 18 [(0, .ref bs), (1, .ref (s.heap.size + 0)), (2, .ref (s.heap.size + 401)), (3, .int i)] [] M L (rf ld)) {i : Int32} {M : gM} {L : gL} {ld : Nat} (hld : isLa ld) (h : C_law_17 xs Lx K i M L ld = some 1) : Zw l p e s m below meth c bs Lx xs D cA 447 23912 667 [(0, .ref bs), (1, .ref (s.heap.size + 0)), (2, .ref (s.heap.size + 401)), (3, .int i)] [] M L (rf ld) := by
  unfold C_law_17 at h
  refine z_aload_n C (pc1 := 668) 1 d_law_667 rfl rfl rfl ?_
  refine z_aload_n C (pc1 := 669) 0 d_law_668 rfl rfl rfl ?_
  refine z_iload_n C (pc1 := 670) 3 d_law_669 rfl rfl rfl ?_
  refine z_iconst C (pc1 := 671) (v := 1) d_law_670 rfl (by decide) ?_
  refine z_iadd C (pc1 := 672) d_law_671 rfl ?_
  obtain ⟨g1, h⟩ := gdn h
  refine z_sld C (pc1 := 673) d_law_672 rfl g1 ?_
  refine z_aload_n C (pc1 := 674) 0 d_law_673 rfl rfl rfl ?_
  refine z_iload_n C (pc1 := 675) 3 d_law_674 rfl rfl rfl ?_
  refine z_iconst C (pc1 := 676) (v := 2) d_law_675 rfl (by decide) ?_
  refine z_iadd C (pc1 := 677) d_law_676 rfl ?_
  obtain ⟨g2, h⟩ := gdn h
  refine z_sld C (pc1 := 678) d_law_677 rfl g2 ?_
  refine z_aload_n C (pc1 := 679) 0 d_law_678 rfl rfl rfl ?_
  refine z_iload_n C (pc1 := 680) 3 d_law_679 rfl rfl rfl ?_
  refine z_iconst C (pc1 := 681) (v := 3) d_law_680 rfl (by decide) ?_
  refine z_iadd C (pc1 := 682) d_law_681 rfl ?_
  obtain ⟨g3, h⟩ := gdn h
  refine z_sld C (pc1 := 683) d_law_682 rfl g3 ?_
  obtain ⟨r5, M6, hq4, h⟩ := bnd2 h
  refine z_callV C (E' := (0, 0, 447)) (pc1 := 686) (As := [.int (xs ((i + 1) : Int32).toNatClampNeg), .int (xs ((i + 2) : Int32).toNatClampNeg), .int (xs ((i + 3) : Int32).toNatClampNeg)]) (rest := []) d_law_683 rfl mo_Law0_87 mi_Main_feud mv_Main_feud sh_0 (by decide) rfl ⟨Nat.le_of_ble_eq_true rfl, Nat.le_of_ble_eq_true rfl⟩ rfl rfl (Nat.le_of_ble_eq_true rfl) ⟨Nat.le_of_ble_eq_true rfl, Nat.le_of_ble_eq_true rfl⟩ rfl ?_
  refine f_Main_feud hld hq4 ?_
  show Zw l p e s m below meth c bs Lx xs D cA 447 23912 686 [(0, .ref bs), (1, .ref (s.heap.size + 0)), (2, .ref (s.heap.size + 401)), (3, .int i)] [.int r5] M6 L (rf ld)
  refine z_pop C (pc1 := 687) d_law_686 rfl rfl ?_
  refine z_aload_n C (pc1 := 688) 2 d_law_687 rfl rfl rfl ?_
  refine z_aload_n C (pc1 := 689) 0 d_law_688 rfl rfl rfl ?_
  refine z_iload_n C (pc1 := 690) 3 d_law_689 rfl rfl rfl ?_
  refine z_iconst C (pc1 := 691) (v := 1) d_law_690 rfl (by decide) ?_
  refine z_iadd C (pc1 := 692) d_law_691 rfl ?_
  obtain ⟨g7, h⟩ := gdn h
  refine z_sld C (pc1 := 693) d_law_692 rfl g7 ?_
  refine z_aload_n C (pc1 := 694) 0 d_law_693 rfl rfl rfl ?_
  refine z_iload_n C (pc1 := 695) 3 d_law_694 rfl rfl rfl ?_
  refine z_iconst C (pc1 := 696) (v := 2) d_law_695 rfl (by decide) ?_
  refine z_iadd C (pc1 := 697) d_law_696 rfl ?_
  obtain ⟨g8, h⟩ := gdn h
  refine z_sld C (pc1 := 698) d_law_697 rfl g8 ?_
  refine z_aload_n C (pc1 := 699) 0 d_law_698 rfl rfl rfl ?_
  refine z_iload_n C (pc1 := 700) 3 d_law_699 rfl rfl rfl ?_
  refine z_iconst C (pc1 := 701) (v := 3) d_law_700 rfl (by decide) ?_
  refine z_iadd C (pc1 := 702) d_law_701 rfl ?_
  obtain ⟨g9, h⟩ := gdn h
  refine z_sld C (pc1 := 703) d_law_702 rfl g9 ?_
  obtain ⟨r11, M12, hq10, h⟩ := bnd2 h
  refine z_callV C (E' := (0, 0, 447)) (pc1 := 706) (As := [.int (xs ((i + 1) : Int32).toNatClampNeg), .int (xs ((i + 2) : Int32).toNatClampNeg), .int (xs ((i + 3) : Int32).toNatClampNeg)]) (rest := []) d_law_703 rfl mo_Law0_91 mi_Mod_feud mv_Mod_feud sh_401 (by decide) rfl ⟨Nat.le_of_ble_eq_true rfl, Nat.le_of_ble_eq_true rfl⟩ rfl rfl (Nat.le_of_ble_eq_true rfl) ⟨Nat.le_of_ble_eq_true rfl, Nat.le_of_ble_eq_true rfl⟩ rfl ?_
  refine f_Mod_feud hld hq10 ?_
  show Zw l p e s m below meth c bs Lx xs D cA 447 23912 706 [(0, .ref bs), (1, .ref (s.heap.size + 0)), (2, .ref (s.heap.size + 401)), (3, .int i)] [.int r11] M12 L (rf ld)
  refine z_pop C (pc1 := 707) d_law_706 rfl rfl ?_
  refine z_goto C (tgt := 1142) d_law_707 (by decide) ?_
  obtain ⟨x13, ex13, h⟩ := ltI h
  refine z_iinc C (pc1 := 1145) (v := x13) (lv' := [(0, .ref bs), (1, .ref (s.heap.size + 0)), (2, .ref (s.heap.size + 401)), (3, .int x13)]) d_law_1142 rfl 3 rfl (by rw [ex13]; rfl) (by decide) [1, 2, 3, 0] rfl ?_
  refine z_goto C (tgt := 18) d_law_1145 (by decide) ?_
  exact hK _ _ _ _ hld h
def C_law_18 (xs : Nat → Int32) (Lx : Nat) (K : Int32 → gM → gL → Nat → Option Int32) (i : Int32) (M : gM) (L : gL) (ld : Nat) : Option Int32 :=
  (if ((i + 1) : Int32) < 0 ∨ Lx ≤ ((i + 1) : Int32).toNatClampNeg then none else (if ((i + 2) : Int32) < 0 ∨ Lx ≤ ((i + 2) : Int32).toNatClampNeg then none else (if ((i + 3) : Int32) < 0 ∨ Lx ≤ ((i + 3) : Int32).toNatClampNeg then none else (if ((i + 4) : Int32) < 0 ∨ Lx ≤ ((i + 4) : Int32).toNatClampNeg then none else bI2 (F_Main_menu ld (xs ((i + 1) : Int32).toNatClampNeg) (xs ((i + 2) : Int32).toNatClampNeg) (xs ((i + 3) : Int32).toNatClampNeg) (xs ((i + 4) : Int32).toNatClampNeg) M) (fun r6 M7 => (if ((i + 1) : Int32) < 0 ∨ Lx ≤ ((i + 1) : Int32).toNatClampNeg then none else (if ((i + 2) : Int32) < 0 ∨ Lx ≤ ((i + 2) : Int32).toNatClampNeg then none else (if ((i + 3) : Int32) < 0 ∨ Lx ≤ ((i + 3) : Int32).toNatClampNeg then none else (if ((i + 4) : Int32) < 0 ∨ Lx ≤ ((i + 4) : Int32).toNatClampNeg then none else bI2 (F_Mod_menu (xs ((i + 1) : Int32).toNatClampNeg) (xs ((i + 2) : Int32).toNatClampNeg) (xs ((i + 3) : Int32).toNatClampNeg) (xs ((i + 4) : Int32).toNatClampNeg) M7) (fun r13 M14 => nmI (i + 6) (fun x15 => K x15 M14 L ld)))))))))))
set_option maxHeartbeats 4000000 in
set_option maxRecDepth 20000 in
theorem c_law_18 {l : Launch} {p : Program} {e : Env} {s : State} {m : MethodId} {below : List Frame} {meth : Method} {c : Code} {bs Lx : Nat} {xs : Nat → Int32} {D : va_G} {cA : Nat → ClassId} (C : ZC p s m meth c bs Lx xs D cA) (K : Int32 → gM → gL → Nat → Option Int32) (hK : ∀ (i : Int32) (M : gM) (L : gL) (ld : Nat), isLa ld → K i M L ld = some 1 → Zw l p e s m below meth c bs Lx xs D cA 447 23912 18 [(0, .ref bs), (1, .ref (s.heap.size + 0)), (2, .ref (s.heap.size + 401)), (3, .int i)] [] M L (rf ld)) {i : Int32} {M : gM} {L : gL} {ld : Nat} (hld : isLa ld) (h : C_law_18 xs Lx K i M L ld = some 1) : Zw l p e s m below meth c bs Lx xs D cA 447 23912 710 [(0, .ref bs), (1, .ref (s.heap.size + 0)), (2, .ref (s.heap.size + 401)), (3, .int i)] [] M L (rf ld) := by
  unfold C_law_18 at h
  refine z_aload_n C (pc1 := 711) 1 d_law_710 rfl rfl rfl ?_
  refine z_aload_n C (pc1 := 712) 0 d_law_711 rfl rfl rfl ?_
  refine z_iload_n C (pc1 := 713) 3 d_law_712 rfl rfl rfl ?_
  refine z_iconst C (pc1 := 714) (v := 1) d_law_713 rfl (by decide) ?_
  refine z_iadd C (pc1 := 715) d_law_714 rfl ?_
  obtain ⟨g1, h⟩ := gdn h
  refine z_sld C (pc1 := 716) d_law_715 rfl g1 ?_
  refine z_aload_n C (pc1 := 717) 0 d_law_716 rfl rfl rfl ?_
  refine z_iload_n C (pc1 := 718) 3 d_law_717 rfl rfl rfl ?_
  refine z_iconst C (pc1 := 719) (v := 2) d_law_718 rfl (by decide) ?_
  refine z_iadd C (pc1 := 720) d_law_719 rfl ?_
  obtain ⟨g2, h⟩ := gdn h
  refine z_sld C (pc1 := 721) d_law_720 rfl g2 ?_
  refine z_aload_n C (pc1 := 722) 0 d_law_721 rfl rfl rfl ?_
  refine z_iload_n C (pc1 := 723) 3 d_law_722 rfl rfl rfl ?_
  refine z_iconst C (pc1 := 724) (v := 3) d_law_723 rfl (by decide) ?_
  refine z_iadd C (pc1 := 725) d_law_724 rfl ?_
  obtain ⟨g3, h⟩ := gdn h
  refine z_sld C (pc1 := 726) d_law_725 rfl g3 ?_
  refine z_aload_n C (pc1 := 727) 0 d_law_726 rfl rfl rfl ?_
  refine z_iload_n C (pc1 := 728) 3 d_law_727 rfl rfl rfl ?_
  refine z_iconst C (pc1 := 729) (v := 4) d_law_728 rfl (by decide) ?_
  refine z_iadd C (pc1 := 730) d_law_729 rfl ?_
  obtain ⟨g4, h⟩ := gdn h
  refine z_sld C (pc1 := 731) d_law_730 rfl g4 ?_
  obtain ⟨r6, M7, hq5, h⟩ := bnd2 h
  refine z_callV C (E' := (0, 0, 447)) (pc1 := 734) (As := [.int (xs ((i + 1) : Int32).toNatClampNeg), .int (xs ((i + 2) : Int32).toNatClampNeg), .int (xs ((i + 3) : Int32).toNatClampNeg), .int (xs ((i + 4) : Int32).toNatClampNeg)]) (rest := []) d_law_731 rfl mo_Law0_92 mi_Main_menu mv_Main_menu sh_0 (by decide) rfl ⟨Nat.le_of_ble_eq_true rfl, Nat.le_of_ble_eq_true rfl⟩ rfl rfl (Nat.le_of_ble_eq_true rfl) ⟨Nat.le_of_ble_eq_true rfl, Nat.le_of_ble_eq_true rfl⟩ rfl ?_
  refine f_Main_menu hld hq5 ?_
  show Zw l p e s m below meth c bs Lx xs D cA 447 23912 734 [(0, .ref bs), (1, .ref (s.heap.size + 0)), (2, .ref (s.heap.size + 401)), (3, .int i)] [.int r6] M7 L (rf ld)
  refine z_pop C (pc1 := 735) d_law_734 rfl rfl ?_
  refine z_aload_n C (pc1 := 736) 2 d_law_735 rfl rfl rfl ?_
  refine z_aload_n C (pc1 := 737) 0 d_law_736 rfl rfl rfl ?_
  refine z_iload_n C (pc1 := 738) 3 d_law_737 rfl rfl rfl ?_
  refine z_iconst C (pc1 := 739) (v := 1) d_law_738 rfl (by decide) ?_
  refine z_iadd C (pc1 := 740) d_law_739 rfl ?_
  obtain ⟨g8, h⟩ := gdn h
  refine z_sld C (pc1 := 741) d_law_740 rfl g8 ?_
  refine z_aload_n C (pc1 := 742) 0 d_law_741 rfl rfl rfl ?_
  refine z_iload_n C (pc1 := 743) 3 d_law_742 rfl rfl rfl ?_
  refine z_iconst C (pc1 := 744) (v := 2) d_law_743 rfl (by decide) ?_
  refine z_iadd C (pc1 := 745) d_law_744 rfl ?_
  obtain ⟨g9, h⟩ := gdn h
  refine z_sld C (pc1 := 746) d_law_745 rfl g9 ?_
  refine z_aload_n C (pc1 := 747) 0 d_law_746 rfl rfl rfl ?_
  refine z_iload_n C (pc1 := 748) 3 d_law_747 rfl rfl rfl ?_
  refine z_iconst C (pc1 := 749) (v := 3) d_law_748 rfl (by decide) ?_
  refine z_iadd C (pc1 := 750) d_law_749 rfl ?_
  obtain ⟨g10, h⟩ := gdn h
  refine z_sld C (pc1 := 751) d_law_750 rfl g10 ?_
  refine z_aload_n C (pc1 := 752) 0 d_law_751 rfl rfl rfl ?_
  refine z_iload_n C (pc1 := 753) 3 d_law_752 rfl rfl rfl ?_
  refine z_iconst C (pc1 := 754) (v := 4) d_law_753 rfl (by decide) ?_
  refine z_iadd C (pc1 := 755) d_law_754 rfl ?_
  obtain ⟨g11, h⟩ := gdn h
  refine z_sld C (pc1 := 756) d_law_755 rfl g11 ?_
  obtain ⟨r13, M14, hq12, h⟩ := bnd2 h
  refine z_callV C (E' := (0, 0, 447)) (pc1 := 759) (As := [.int (xs ((i + 1) : Int32).toNatClampNeg), .int (xs ((i + 2) : Int32).toNatClampNeg), .int (xs ((i + 3) : Int32).toNatClampNeg), .int (xs ((i + 4) : Int32).toNatClampNeg)]) (rest := []) d_law_756 rfl mo_Law0_95 mi_Mod_menu mv_Mod_menu sh_401 (by decide) rfl ⟨Nat.le_of_ble_eq_true rfl, Nat.le_of_ble_eq_true rfl⟩ rfl rfl (Nat.le_of_ble_eq_true rfl) ⟨Nat.le_of_ble_eq_true rfl, Nat.le_of_ble_eq_true rfl⟩ rfl ?_
  refine f_Mod_menu hld hq12 ?_
  show Zw l p e s m below meth c bs Lx xs D cA 447 23912 759 [(0, .ref bs), (1, .ref (s.heap.size + 0)), (2, .ref (s.heap.size + 401)), (3, .int i)] [.int r13] M14 L (rf ld)
  refine z_pop C (pc1 := 760) d_law_759 rfl rfl ?_
  refine z_goto C (tgt := 1142) d_law_760 (by decide) ?_
  obtain ⟨x15, ex15, h⟩ := ltI h
  refine z_iinc C (pc1 := 1145) (v := x15) (lv' := [(0, .ref bs), (1, .ref (s.heap.size + 0)), (2, .ref (s.heap.size + 401)), (3, .int x15)]) d_law_1142 rfl 3 rfl (by rw [ex15]; rfl) (by decide) [1, 2, 3, 0] rfl ?_
  refine z_goto C (tgt := 18) d_law_1145 (by decide) ?_
  exact hK _ _ _ _ hld h
def C_law_19 (xs : Nat → Int32) (Lx : Nat) (K : Int32 → gM → gL → Nat → Option Int32) (i : Int32) (M : gM) (L : gL) (ld : Nat) : Option Int32 :=
  (if ((i + 1) : Int32) < 0 ∨ Lx ≤ ((i + 1) : Int32).toNatClampNeg then none else bI2 (F_Main_often ld (xs ((i + 1) : Int32).toNatClampNeg) M) (fun r3 M4 => (if ((i + 1) : Int32) < 0 ∨ Lx ≤ ((i + 1) : Int32).toNatClampNeg then none else bI2 (F_Mod_often (xs ((i + 1) : Int32).toNatClampNeg) M4) (fun r7 M8 => nmI (i + 6) (fun x9 => K x9 M8 L ld)))))
set_option maxHeartbeats 4000000 in
set_option maxRecDepth 20000 in
theorem c_law_19 {l : Launch} {p : Program} {e : Env} {s : State} {m : MethodId} {below : List Frame} {meth : Method} {c : Code} {bs Lx : Nat} {xs : Nat → Int32} {D : va_G} {cA : Nat → ClassId} (C : ZC p s m meth c bs Lx xs D cA) (K : Int32 → gM → gL → Nat → Option Int32) (hK : ∀ (i : Int32) (M : gM) (L : gL) (ld : Nat), isLa ld → K i M L ld = some 1 → Zw l p e s m below meth c bs Lx xs D cA 447 23912 18 [(0, .ref bs), (1, .ref (s.heap.size + 0)), (2, .ref (s.heap.size + 401)), (3, .int i)] [] M L (rf ld)) {i : Int32} {M : gM} {L : gL} {ld : Nat} (hld : isLa ld) (h : C_law_19 xs Lx K i M L ld = some 1) : Zw l p e s m below meth c bs Lx xs D cA 447 23912 763 [(0, .ref bs), (1, .ref (s.heap.size + 0)), (2, .ref (s.heap.size + 401)), (3, .int i)] [] M L (rf ld) := by
  unfold C_law_19 at h
  refine z_aload_n C (pc1 := 764) 1 d_law_763 rfl rfl rfl ?_
  refine z_aload_n C (pc1 := 765) 0 d_law_764 rfl rfl rfl ?_
  refine z_iload_n C (pc1 := 766) 3 d_law_765 rfl rfl rfl ?_
  refine z_iconst C (pc1 := 767) (v := 1) d_law_766 rfl (by decide) ?_
  refine z_iadd C (pc1 := 768) d_law_767 rfl ?_
  obtain ⟨g1, h⟩ := gdn h
  refine z_sld C (pc1 := 769) d_law_768 rfl g1 ?_
  obtain ⟨r3, M4, hq2, h⟩ := bnd2 h
  refine z_callV C (E' := (0, 0, 447)) (pc1 := 772) (As := [.int (xs ((i + 1) : Int32).toNatClampNeg)]) (rest := []) d_law_769 rfl mo_Law0_96 mi_Main_often mv_Main_often sh_0 (by decide) rfl ⟨Nat.le_of_ble_eq_true rfl, Nat.le_of_ble_eq_true rfl⟩ rfl rfl (Nat.le_of_ble_eq_true rfl) ⟨Nat.le_of_ble_eq_true rfl, Nat.le_of_ble_eq_true rfl⟩ rfl ?_
  refine f_Main_often hld hq2 ?_
  show Zw l p e s m below meth c bs Lx xs D cA 447 23912 772 [(0, .ref bs), (1, .ref (s.heap.size + 0)), (2, .ref (s.heap.size + 401)), (3, .int i)] [.int r3] M4 L (rf ld)
  refine z_pop C (pc1 := 773) d_law_772 rfl rfl ?_
  refine z_aload_n C (pc1 := 774) 2 d_law_773 rfl rfl rfl ?_
  refine z_aload_n C (pc1 := 775) 0 d_law_774 rfl rfl rfl ?_
  refine z_iload_n C (pc1 := 776) 3 d_law_775 rfl rfl rfl ?_
  refine z_iconst C (pc1 := 777) (v := 1) d_law_776 rfl (by decide) ?_
  refine z_iadd C (pc1 := 778) d_law_777 rfl ?_
  obtain ⟨g5, h⟩ := gdn h
  refine z_sld C (pc1 := 779) d_law_778 rfl g5 ?_
  obtain ⟨r7, M8, hq6, h⟩ := bnd2 h
  refine z_callV C (E' := (0, 0, 447)) (pc1 := 782) (As := [.int (xs ((i + 1) : Int32).toNatClampNeg)]) (rest := []) d_law_779 rfl mo_Law0_99 mi_Mod_often mv_Mod_often sh_401 (by decide) rfl ⟨Nat.le_of_ble_eq_true rfl, Nat.le_of_ble_eq_true rfl⟩ rfl rfl (Nat.le_of_ble_eq_true rfl) ⟨Nat.le_of_ble_eq_true rfl, Nat.le_of_ble_eq_true rfl⟩ rfl ?_
  refine f_Mod_often hld hq6 ?_
  show Zw l p e s m below meth c bs Lx xs D cA 447 23912 782 [(0, .ref bs), (1, .ref (s.heap.size + 0)), (2, .ref (s.heap.size + 401)), (3, .int i)] [.int r7] M8 L (rf ld)
  refine z_pop C (pc1 := 783) d_law_782 rfl rfl ?_
  refine z_goto C (tgt := 1142) d_law_783 (by decide) ?_
  obtain ⟨x9, ex9, h⟩ := ltI h
  refine z_iinc C (pc1 := 1145) (v := x9) (lv' := [(0, .ref bs), (1, .ref (s.heap.size + 0)), (2, .ref (s.heap.size + 401)), (3, .int x9)]) d_law_1142 rfl 3 rfl (by rw [ex9]; rfl) (by decide) [1, 2, 3, 0] rfl ?_
  refine z_goto C (tgt := 18) d_law_1145 (by decide) ?_
  exact hK _ _ _ _ hld h
def C_law_20 (xs : Nat → Int32) (Lx : Nat) (K : Int32 → gM → gL → Nat → Option Int32) (i : Int32) (M : gM) (L : gL) (ld : Nat) : Option Int32 :=
  (if ((i + 1) : Int32) < 0 ∨ Lx ≤ ((i + 1) : Int32).toNatClampNeg then none else (if ((i + 2) : Int32) < 0 ∨ Lx ≤ ((i + 2) : Int32).toNatClampNeg then none else bI2 (F_Main_hunger ld (xs ((i + 1) : Int32).toNatClampNeg) (xs ((i + 2) : Int32).toNatClampNeg) M) (fun r4 M5 => (if ((i + 1) : Int32) < 0 ∨ Lx ≤ ((i + 1) : Int32).toNatClampNeg then none else (if ((i + 2) : Int32) < 0 ∨ Lx ≤ ((i + 2) : Int32).toNatClampNeg then none else bI2 (F_Mod_hunger (xs ((i + 1) : Int32).toNatClampNeg) (xs ((i + 2) : Int32).toNatClampNeg) M5) (fun r9 M10 => nmI (i + 6) (fun x11 => K x11 M10 L ld)))))))
set_option maxHeartbeats 4000000 in
set_option maxRecDepth 20000 in
theorem c_law_20 {l : Launch} {p : Program} {e : Env} {s : State} {m : MethodId} {below : List Frame} {meth : Method} {c : Code} {bs Lx : Nat} {xs : Nat → Int32} {D : va_G} {cA : Nat → ClassId} (C : ZC p s m meth c bs Lx xs D cA) (K : Int32 → gM → gL → Nat → Option Int32) (hK : ∀ (i : Int32) (M : gM) (L : gL) (ld : Nat), isLa ld → K i M L ld = some 1 → Zw l p e s m below meth c bs Lx xs D cA 447 23912 18 [(0, .ref bs), (1, .ref (s.heap.size + 0)), (2, .ref (s.heap.size + 401)), (3, .int i)] [] M L (rf ld)) {i : Int32} {M : gM} {L : gL} {ld : Nat} (hld : isLa ld) (h : C_law_20 xs Lx K i M L ld = some 1) : Zw l p e s m below meth c bs Lx xs D cA 447 23912 786 [(0, .ref bs), (1, .ref (s.heap.size + 0)), (2, .ref (s.heap.size + 401)), (3, .int i)] [] M L (rf ld) := by
  unfold C_law_20 at h
  refine z_aload_n C (pc1 := 787) 1 d_law_786 rfl rfl rfl ?_
  refine z_aload_n C (pc1 := 788) 0 d_law_787 rfl rfl rfl ?_
  refine z_iload_n C (pc1 := 789) 3 d_law_788 rfl rfl rfl ?_
  refine z_iconst C (pc1 := 790) (v := 1) d_law_789 rfl (by decide) ?_
  refine z_iadd C (pc1 := 791) d_law_790 rfl ?_
  obtain ⟨g1, h⟩ := gdn h
  refine z_sld C (pc1 := 792) d_law_791 rfl g1 ?_
  refine z_aload_n C (pc1 := 793) 0 d_law_792 rfl rfl rfl ?_
  refine z_iload_n C (pc1 := 794) 3 d_law_793 rfl rfl rfl ?_
  refine z_iconst C (pc1 := 795) (v := 2) d_law_794 rfl (by decide) ?_
  refine z_iadd C (pc1 := 796) d_law_795 rfl ?_
  obtain ⟨g2, h⟩ := gdn h
  refine z_sld C (pc1 := 797) d_law_796 rfl g2 ?_
  obtain ⟨r4, M5, hq3, h⟩ := bnd2 h
  refine z_callV C (E' := (0, 0, 447)) (pc1 := 800) (As := [.int (xs ((i + 1) : Int32).toNatClampNeg), .int (xs ((i + 2) : Int32).toNatClampNeg)]) (rest := []) d_law_797 rfl mo_Law0_100 mi_Main_hunger mv_Main_hunger sh_0 (by decide) rfl ⟨Nat.le_of_ble_eq_true rfl, Nat.le_of_ble_eq_true rfl⟩ rfl rfl (Nat.le_of_ble_eq_true rfl) ⟨Nat.le_of_ble_eq_true rfl, Nat.le_of_ble_eq_true rfl⟩ rfl ?_
  refine f_Main_hunger hld hq3 ?_
  show Zw l p e s m below meth c bs Lx xs D cA 447 23912 800 [(0, .ref bs), (1, .ref (s.heap.size + 0)), (2, .ref (s.heap.size + 401)), (3, .int i)] [.int r4] M5 L (rf ld)
  refine z_pop C (pc1 := 801) d_law_800 rfl rfl ?_
  refine z_aload_n C (pc1 := 802) 2 d_law_801 rfl rfl rfl ?_
  refine z_aload_n C (pc1 := 803) 0 d_law_802 rfl rfl rfl ?_
  refine z_iload_n C (pc1 := 804) 3 d_law_803 rfl rfl rfl ?_
  refine z_iconst C (pc1 := 805) (v := 1) d_law_804 rfl (by decide) ?_
  refine z_iadd C (pc1 := 806) d_law_805 rfl ?_
  obtain ⟨g6, h⟩ := gdn h
  refine z_sld C (pc1 := 807) d_law_806 rfl g6 ?_
  refine z_aload_n C (pc1 := 808) 0 d_law_807 rfl rfl rfl ?_
  refine z_iload_n C (pc1 := 809) 3 d_law_808 rfl rfl rfl ?_
  refine z_iconst C (pc1 := 810) (v := 2) d_law_809 rfl (by decide) ?_
  refine z_iadd C (pc1 := 811) d_law_810 rfl ?_
  obtain ⟨g7, h⟩ := gdn h
  refine z_sld C (pc1 := 812) d_law_811 rfl g7 ?_
  obtain ⟨r9, M10, hq8, h⟩ := bnd2 h
  refine z_callV C (E' := (0, 0, 447)) (pc1 := 815) (As := [.int (xs ((i + 1) : Int32).toNatClampNeg), .int (xs ((i + 2) : Int32).toNatClampNeg)]) (rest := []) d_law_812 rfl mo_Law0_103 mi_Mod_hunger mv_Mod_hunger sh_401 (by decide) rfl ⟨Nat.le_of_ble_eq_true rfl, Nat.le_of_ble_eq_true rfl⟩ rfl rfl (Nat.le_of_ble_eq_true rfl) ⟨Nat.le_of_ble_eq_true rfl, Nat.le_of_ble_eq_true rfl⟩ rfl ?_
  refine f_Mod_hunger hld hq8 ?_
  show Zw l p e s m below meth c bs Lx xs D cA 447 23912 815 [(0, .ref bs), (1, .ref (s.heap.size + 0)), (2, .ref (s.heap.size + 401)), (3, .int i)] [.int r9] M10 L (rf ld)
  refine z_pop C (pc1 := 816) d_law_815 rfl rfl ?_
  refine z_goto C (tgt := 1142) d_law_816 (by decide) ?_
  obtain ⟨x11, ex11, h⟩ := ltI h
  refine z_iinc C (pc1 := 1145) (v := x11) (lv' := [(0, .ref bs), (1, .ref (s.heap.size + 0)), (2, .ref (s.heap.size + 401)), (3, .int x11)]) d_law_1142 rfl 3 rfl (by rw [ex11]; rfl) (by decide) [1, 2, 3, 0] rfl ?_
  refine z_goto C (tgt := 18) d_law_1145 (by decide) ?_
  exact hK _ _ _ _ hld h
def C_law_21 (xs : Nat → Int32) (Lx : Nat) (K : Int32 → gM → gL → Nat → Option Int32) (i : Int32) (M : gM) (L : gL) (ld : Nat) : Option Int32 :=
  (if ((i + 1) : Int32) < 0 ∨ Lx ≤ ((i + 1) : Int32).toNatClampNeg then none else (if ((i + 2) : Int32) < 0 ∨ Lx ≤ ((i + 2) : Int32).toNatClampNeg then none else bI2 (F_Main_stockIn ld (xs ((i + 1) : Int32).toNatClampNeg) (xs ((i + 2) : Int32).toNatClampNeg) M) (fun r4 M5 => (if ((i + 1) : Int32) < 0 ∨ Lx ≤ ((i + 1) : Int32).toNatClampNeg then none else (if ((i + 2) : Int32) < 0 ∨ Lx ≤ ((i + 2) : Int32).toNatClampNeg then none else bI2 (F_Mod_stockIn (xs ((i + 1) : Int32).toNatClampNeg) (xs ((i + 2) : Int32).toNatClampNeg) M5) (fun r9 M10 => nmI (i + 6) (fun x11 => K x11 M10 L ld)))))))
set_option maxHeartbeats 4000000 in
set_option maxRecDepth 20000 in
theorem c_law_21 {l : Launch} {p : Program} {e : Env} {s : State} {m : MethodId} {below : List Frame} {meth : Method} {c : Code} {bs Lx : Nat} {xs : Nat → Int32} {D : va_G} {cA : Nat → ClassId} (C : ZC p s m meth c bs Lx xs D cA) (K : Int32 → gM → gL → Nat → Option Int32) (hK : ∀ (i : Int32) (M : gM) (L : gL) (ld : Nat), isLa ld → K i M L ld = some 1 → Zw l p e s m below meth c bs Lx xs D cA 447 23912 18 [(0, .ref bs), (1, .ref (s.heap.size + 0)), (2, .ref (s.heap.size + 401)), (3, .int i)] [] M L (rf ld)) {i : Int32} {M : gM} {L : gL} {ld : Nat} (hld : isLa ld) (h : C_law_21 xs Lx K i M L ld = some 1) : Zw l p e s m below meth c bs Lx xs D cA 447 23912 819 [(0, .ref bs), (1, .ref (s.heap.size + 0)), (2, .ref (s.heap.size + 401)), (3, .int i)] [] M L (rf ld) := by
  unfold C_law_21 at h
  refine z_aload_n C (pc1 := 820) 1 d_law_819 rfl rfl rfl ?_
  refine z_aload_n C (pc1 := 821) 0 d_law_820 rfl rfl rfl ?_
  refine z_iload_n C (pc1 := 822) 3 d_law_821 rfl rfl rfl ?_
  refine z_iconst C (pc1 := 823) (v := 1) d_law_822 rfl (by decide) ?_
  refine z_iadd C (pc1 := 824) d_law_823 rfl ?_
  obtain ⟨g1, h⟩ := gdn h
  refine z_sld C (pc1 := 825) d_law_824 rfl g1 ?_
  refine z_aload_n C (pc1 := 826) 0 d_law_825 rfl rfl rfl ?_
  refine z_iload_n C (pc1 := 827) 3 d_law_826 rfl rfl rfl ?_
  refine z_iconst C (pc1 := 828) (v := 2) d_law_827 rfl (by decide) ?_
  refine z_iadd C (pc1 := 829) d_law_828 rfl ?_
  obtain ⟨g2, h⟩ := gdn h
  refine z_sld C (pc1 := 830) d_law_829 rfl g2 ?_
  obtain ⟨r4, M5, hq3, h⟩ := bnd2 h
  refine z_callV C (E' := (0, 0, 447)) (pc1 := 833) (As := [.int (xs ((i + 1) : Int32).toNatClampNeg), .int (xs ((i + 2) : Int32).toNatClampNeg)]) (rest := []) d_law_830 rfl mo_Law0_104 mi_Main_stockIn mv_Main_stockIn sh_0 (by decide) rfl ⟨Nat.le_of_ble_eq_true rfl, Nat.le_of_ble_eq_true rfl⟩ rfl rfl (Nat.le_of_ble_eq_true rfl) ⟨Nat.le_of_ble_eq_true rfl, Nat.le_of_ble_eq_true rfl⟩ rfl ?_
  refine f_Main_stockIn hld hq3 ?_
  show Zw l p e s m below meth c bs Lx xs D cA 447 23912 833 [(0, .ref bs), (1, .ref (s.heap.size + 0)), (2, .ref (s.heap.size + 401)), (3, .int i)] [.int r4] M5 L (rf ld)
  refine z_pop C (pc1 := 834) d_law_833 rfl rfl ?_
  refine z_aload_n C (pc1 := 835) 2 d_law_834 rfl rfl rfl ?_
  refine z_aload_n C (pc1 := 836) 0 d_law_835 rfl rfl rfl ?_
  refine z_iload_n C (pc1 := 837) 3 d_law_836 rfl rfl rfl ?_
  refine z_iconst C (pc1 := 838) (v := 1) d_law_837 rfl (by decide) ?_
  refine z_iadd C (pc1 := 839) d_law_838 rfl ?_
  obtain ⟨g6, h⟩ := gdn h
  refine z_sld C (pc1 := 840) d_law_839 rfl g6 ?_
  refine z_aload_n C (pc1 := 841) 0 d_law_840 rfl rfl rfl ?_
  refine z_iload_n C (pc1 := 842) 3 d_law_841 rfl rfl rfl ?_
  refine z_iconst C (pc1 := 843) (v := 2) d_law_842 rfl (by decide) ?_
  refine z_iadd C (pc1 := 844) d_law_843 rfl ?_
  obtain ⟨g7, h⟩ := gdn h
  refine z_sld C (pc1 := 845) d_law_844 rfl g7 ?_
  obtain ⟨r9, M10, hq8, h⟩ := bnd2 h
  refine z_callV C (E' := (0, 0, 447)) (pc1 := 848) (As := [.int (xs ((i + 1) : Int32).toNatClampNeg), .int (xs ((i + 2) : Int32).toNatClampNeg)]) (rest := []) d_law_845 rfl mo_Law0_107 mi_Mod_stockIn mv_Mod_stockIn sh_401 (by decide) rfl ⟨Nat.le_of_ble_eq_true rfl, Nat.le_of_ble_eq_true rfl⟩ rfl rfl (Nat.le_of_ble_eq_true rfl) ⟨Nat.le_of_ble_eq_true rfl, Nat.le_of_ble_eq_true rfl⟩ rfl ?_
  refine f_Mod_stockIn hld hq8 ?_
  show Zw l p e s m below meth c bs Lx xs D cA 447 23912 848 [(0, .ref bs), (1, .ref (s.heap.size + 0)), (2, .ref (s.heap.size + 401)), (3, .int i)] [.int r9] M10 L (rf ld)
  refine z_pop C (pc1 := 849) d_law_848 rfl rfl ?_
  refine z_goto C (tgt := 1142) d_law_849 (by decide) ?_
  obtain ⟨x11, ex11, h⟩ := ltI h
  refine z_iinc C (pc1 := 1145) (v := x11) (lv' := [(0, .ref bs), (1, .ref (s.heap.size + 0)), (2, .ref (s.heap.size + 401)), (3, .int x11)]) d_law_1142 rfl 3 rfl (by rw [ex11]; rfl) (by decide) [1, 2, 3, 0] rfl ?_
  refine z_goto C (tgt := 18) d_law_1145 (by decide) ?_
  exact hK _ _ _ _ hld h
def C_law_22 (xs : Nat → Int32) (Lx : Nat) (K : Int32 → gM → gL → Nat → Option Int32) (i : Int32) (M : gM) (L : gL) (ld : Nat) : Option Int32 :=
  (if ((i + 1) : Int32) < 0 ∨ Lx ≤ ((i + 1) : Int32).toNatClampNeg then none else (if ((i + 2) : Int32) < 0 ∨ Lx ≤ ((i + 2) : Int32).toNatClampNeg then none else (if ((i + 3) : Int32) < 0 ∨ Lx ≤ ((i + 3) : Int32).toNatClampNeg then none else bI2 (F_Main_boundIn ld (xs ((i + 1) : Int32).toNatClampNeg) (xs ((i + 2) : Int32).toNatClampNeg) (xs ((i + 3) : Int32).toNatClampNeg) M) (fun r5 M6 => (if ((i + 1) : Int32) < 0 ∨ Lx ≤ ((i + 1) : Int32).toNatClampNeg then none else (if ((i + 2) : Int32) < 0 ∨ Lx ≤ ((i + 2) : Int32).toNatClampNeg then none else (if ((i + 3) : Int32) < 0 ∨ Lx ≤ ((i + 3) : Int32).toNatClampNeg then none else bI2 (F_Mod_boundIn (xs ((i + 1) : Int32).toNatClampNeg) (xs ((i + 2) : Int32).toNatClampNeg) (xs ((i + 3) : Int32).toNatClampNeg) M6) (fun r11 M12 => nmI (i + 6) (fun x13 => K x13 M12 L ld)))))))))
set_option maxHeartbeats 4000000 in
set_option maxRecDepth 20000 in
theorem c_law_22 {l : Launch} {p : Program} {e : Env} {s : State} {m : MethodId} {below : List Frame} {meth : Method} {c : Code} {bs Lx : Nat} {xs : Nat → Int32} {D : va_G} {cA : Nat → ClassId} (C : ZC p s m meth c bs Lx xs D cA) (K : Int32 → gM → gL → Nat → Option Int32) (hK : ∀ (i : Int32) (M : gM) (L : gL) (ld : Nat), isLa ld → K i M L ld = some 1 → Zw l p e s m below meth c bs Lx xs D cA 447 23912 18 [(0, .ref bs), (1, .ref (s.heap.size + 0)), (2, .ref (s.heap.size + 401)), (3, .int i)] [] M L (rf ld)) {i : Int32} {M : gM} {L : gL} {ld : Nat} (hld : isLa ld) (h : C_law_22 xs Lx K i M L ld = some 1) : Zw l p e s m below meth c bs Lx xs D cA 447 23912 852 [(0, .ref bs), (1, .ref (s.heap.size + 0)), (2, .ref (s.heap.size + 401)), (3, .int i)] [] M L (rf ld) := by
  unfold C_law_22 at h
  refine z_aload_n C (pc1 := 853) 1 d_law_852 rfl rfl rfl ?_
  refine z_aload_n C (pc1 := 854) 0 d_law_853 rfl rfl rfl ?_
  refine z_iload_n C (pc1 := 855) 3 d_law_854 rfl rfl rfl ?_
  refine z_iconst C (pc1 := 856) (v := 1) d_law_855 rfl (by decide) ?_
  refine z_iadd C (pc1 := 857) d_law_856 rfl ?_
  obtain ⟨g1, h⟩ := gdn h
  refine z_sld C (pc1 := 858) d_law_857 rfl g1 ?_
  refine z_aload_n C (pc1 := 859) 0 d_law_858 rfl rfl rfl ?_
  refine z_iload_n C (pc1 := 860) 3 d_law_859 rfl rfl rfl ?_
  refine z_iconst C (pc1 := 861) (v := 2) d_law_860 rfl (by decide) ?_
  refine z_iadd C (pc1 := 862) d_law_861 rfl ?_
  obtain ⟨g2, h⟩ := gdn h
  refine z_sld C (pc1 := 863) d_law_862 rfl g2 ?_
  refine z_aload_n C (pc1 := 864) 0 d_law_863 rfl rfl rfl ?_
  refine z_iload_n C (pc1 := 865) 3 d_law_864 rfl rfl rfl ?_
  refine z_iconst C (pc1 := 866) (v := 3) d_law_865 rfl (by decide) ?_
  refine z_iadd C (pc1 := 867) d_law_866 rfl ?_
  obtain ⟨g3, h⟩ := gdn h
  refine z_sld C (pc1 := 868) d_law_867 rfl g3 ?_
  obtain ⟨r5, M6, hq4, h⟩ := bnd2 h
  refine z_callV C (E' := (0, 0, 447)) (pc1 := 871) (As := [.int (xs ((i + 1) : Int32).toNatClampNeg), .int (xs ((i + 2) : Int32).toNatClampNeg), .int (xs ((i + 3) : Int32).toNatClampNeg)]) (rest := []) d_law_868 rfl mo_Law0_108 mi_Main_boundIn mv_Main_boundIn sh_0 (by decide) rfl ⟨Nat.le_of_ble_eq_true rfl, Nat.le_of_ble_eq_true rfl⟩ rfl rfl (Nat.le_of_ble_eq_true rfl) ⟨Nat.le_of_ble_eq_true rfl, Nat.le_of_ble_eq_true rfl⟩ rfl ?_
  refine f_Main_boundIn hld hq4 ?_
  show Zw l p e s m below meth c bs Lx xs D cA 447 23912 871 [(0, .ref bs), (1, .ref (s.heap.size + 0)), (2, .ref (s.heap.size + 401)), (3, .int i)] [.int r5] M6 L (rf ld)
  refine z_pop C (pc1 := 872) d_law_871 rfl rfl ?_
  refine z_aload_n C (pc1 := 873) 2 d_law_872 rfl rfl rfl ?_
  refine z_aload_n C (pc1 := 874) 0 d_law_873 rfl rfl rfl ?_
  refine z_iload_n C (pc1 := 875) 3 d_law_874 rfl rfl rfl ?_
  refine z_iconst C (pc1 := 876) (v := 1) d_law_875 rfl (by decide) ?_
  refine z_iadd C (pc1 := 877) d_law_876 rfl ?_
  obtain ⟨g7, h⟩ := gdn h
  refine z_sld C (pc1 := 878) d_law_877 rfl g7 ?_
  refine z_aload_n C (pc1 := 879) 0 d_law_878 rfl rfl rfl ?_
  refine z_iload_n C (pc1 := 880) 3 d_law_879 rfl rfl rfl ?_
  refine z_iconst C (pc1 := 881) (v := 2) d_law_880 rfl (by decide) ?_
  refine z_iadd C (pc1 := 882) d_law_881 rfl ?_
  obtain ⟨g8, h⟩ := gdn h
  refine z_sld C (pc1 := 883) d_law_882 rfl g8 ?_
  refine z_aload_n C (pc1 := 884) 0 d_law_883 rfl rfl rfl ?_
  refine z_iload_n C (pc1 := 885) 3 d_law_884 rfl rfl rfl ?_
  refine z_iconst C (pc1 := 886) (v := 3) d_law_885 rfl (by decide) ?_
  refine z_iadd C (pc1 := 887) d_law_886 rfl ?_
  obtain ⟨g9, h⟩ := gdn h
  refine z_sld C (pc1 := 888) d_law_887 rfl g9 ?_
  obtain ⟨r11, M12, hq10, h⟩ := bnd2 h
  refine z_callV C (E' := (0, 0, 447)) (pc1 := 891) (As := [.int (xs ((i + 1) : Int32).toNatClampNeg), .int (xs ((i + 2) : Int32).toNatClampNeg), .int (xs ((i + 3) : Int32).toNatClampNeg)]) (rest := []) d_law_888 rfl mo_Law0_111 mi_Mod_boundIn mv_Mod_boundIn sh_401 (by decide) rfl ⟨Nat.le_of_ble_eq_true rfl, Nat.le_of_ble_eq_true rfl⟩ rfl rfl (Nat.le_of_ble_eq_true rfl) ⟨Nat.le_of_ble_eq_true rfl, Nat.le_of_ble_eq_true rfl⟩ rfl ?_
  refine f_Mod_boundIn hld hq10 ?_
  show Zw l p e s m below meth c bs Lx xs D cA 447 23912 891 [(0, .ref bs), (1, .ref (s.heap.size + 0)), (2, .ref (s.heap.size + 401)), (3, .int i)] [.int r11] M12 L (rf ld)
  refine z_pop C (pc1 := 892) d_law_891 rfl rfl ?_
  refine z_goto C (tgt := 1142) d_law_892 (by decide) ?_
  obtain ⟨x13, ex13, h⟩ := ltI h
  refine z_iinc C (pc1 := 1145) (v := x13) (lv' := [(0, .ref bs), (1, .ref (s.heap.size + 0)), (2, .ref (s.heap.size + 401)), (3, .int x13)]) d_law_1142 rfl 3 rfl (by rw [ex13]; rfl) (by decide) [1, 2, 3, 0] rfl ?_
  refine z_goto C (tgt := 18) d_law_1145 (by decide) ?_
  exact hK _ _ _ _ hld h
def C_law_23 (xs : Nat → Int32) (Lx : Nat) (K : Int32 → gM → gL → Nat → Option Int32) (i : Int32) (M : gM) (L : gL) (ld : Nat) : Option Int32 :=
  (if ((i + 1) : Int32) < 0 ∨ Lx ≤ ((i + 1) : Int32).toNatClampNeg then none else (if ((i + 2) : Int32) < 0 ∨ Lx ≤ ((i + 2) : Int32).toNatClampNeg then none else (if ((i + 3) : Int32) < 0 ∨ Lx ≤ ((i + 3) : Int32).toNatClampNeg then none else (if ((i + 4) : Int32) < 0 ∨ Lx ≤ ((i + 4) : Int32).toNatClampNeg then none else bI2 (F_Main_year ld (xs ((i + 1) : Int32).toNatClampNeg) (xs ((i + 2) : Int32).toNatClampNeg) (xs ((i + 3) : Int32).toNatClampNeg) (xs ((i + 4) : Int32).toNatClampNeg) M) (fun r6 M7 => (if ((i + 1) : Int32) < 0 ∨ Lx ≤ ((i + 1) : Int32).toNatClampNeg then none else (if ((i + 2) : Int32) < 0 ∨ Lx ≤ ((i + 2) : Int32).toNatClampNeg then none else (if ((i + 3) : Int32) < 0 ∨ Lx ≤ ((i + 3) : Int32).toNatClampNeg then none else (if ((i + 4) : Int32) < 0 ∨ Lx ≤ ((i + 4) : Int32).toNatClampNeg then none else bI2 (F_Mod_year (xs ((i + 1) : Int32).toNatClampNeg) (xs ((i + 2) : Int32).toNatClampNeg) (xs ((i + 3) : Int32).toNatClampNeg) (xs ((i + 4) : Int32).toNatClampNeg) M7) (fun r13 M14 => nmI (i + 6) (fun x15 => K x15 M14 L ld)))))))))))
set_option maxHeartbeats 4000000 in
set_option maxRecDepth 20000 in
theorem c_law_23 {l : Launch} {p : Program} {e : Env} {s : State} {m : MethodId} {below : List Frame} {meth : Method} {c : Code} {bs Lx : Nat} {xs : Nat → Int32} {D : va_G} {cA : Nat → ClassId} (C : ZC p s m meth c bs Lx xs D cA) (K : Int32 → gM → gL → Nat → Option Int32) (hK : ∀ (i : Int32) (M : gM) (L : gL) (ld : Nat), isLa ld → K i M L ld = some 1 → Zw l p e s m below meth c bs Lx xs D cA 447 23912 18 [(0, .ref bs), (1, .ref (s.heap.size + 0)), (2, .ref (s.heap.size + 401)), (3, .int i)] [] M L (rf ld)) {i : Int32} {M : gM} {L : gL} {ld : Nat} (hld : isLa ld) (h : C_law_23 xs Lx K i M L ld = some 1) : Zw l p e s m below meth c bs Lx xs D cA 447 23912 895 [(0, .ref bs), (1, .ref (s.heap.size + 0)), (2, .ref (s.heap.size + 401)), (3, .int i)] [] M L (rf ld) := by
  unfold C_law_23 at h
  refine z_aload_n C (pc1 := 896) 1 d_law_895 rfl rfl rfl ?_
  refine z_aload_n C (pc1 := 897) 0 d_law_896 rfl rfl rfl ?_
  refine z_iload_n C (pc1 := 898) 3 d_law_897 rfl rfl rfl ?_
  refine z_iconst C (pc1 := 899) (v := 1) d_law_898 rfl (by decide) ?_
  refine z_iadd C (pc1 := 900) d_law_899 rfl ?_
  obtain ⟨g1, h⟩ := gdn h
  refine z_sld C (pc1 := 901) d_law_900 rfl g1 ?_
  refine z_aload_n C (pc1 := 902) 0 d_law_901 rfl rfl rfl ?_
  refine z_iload_n C (pc1 := 903) 3 d_law_902 rfl rfl rfl ?_
  refine z_iconst C (pc1 := 904) (v := 2) d_law_903 rfl (by decide) ?_
  refine z_iadd C (pc1 := 905) d_law_904 rfl ?_
  obtain ⟨g2, h⟩ := gdn h
  refine z_sld C (pc1 := 906) d_law_905 rfl g2 ?_
  refine z_aload_n C (pc1 := 907) 0 d_law_906 rfl rfl rfl ?_
  refine z_iload_n C (pc1 := 908) 3 d_law_907 rfl rfl rfl ?_
  refine z_iconst C (pc1 := 909) (v := 3) d_law_908 rfl (by decide) ?_
  refine z_iadd C (pc1 := 910) d_law_909 rfl ?_
  obtain ⟨g3, h⟩ := gdn h
  refine z_sld C (pc1 := 911) d_law_910 rfl g3 ?_
  refine z_aload_n C (pc1 := 912) 0 d_law_911 rfl rfl rfl ?_
  refine z_iload_n C (pc1 := 913) 3 d_law_912 rfl rfl rfl ?_
  refine z_iconst C (pc1 := 914) (v := 4) d_law_913 rfl (by decide) ?_
  refine z_iadd C (pc1 := 915) d_law_914 rfl ?_
  obtain ⟨g4, h⟩ := gdn h
  refine z_sld C (pc1 := 916) d_law_915 rfl g4 ?_
  obtain ⟨r6, M7, hq5, h⟩ := bnd2 h
  refine z_callV C (E' := (0, 0, 447)) (pc1 := 919) (As := [.int (xs ((i + 1) : Int32).toNatClampNeg), .int (xs ((i + 2) : Int32).toNatClampNeg), .int (xs ((i + 3) : Int32).toNatClampNeg), .int (xs ((i + 4) : Int32).toNatClampNeg)]) (rest := []) d_law_916 rfl mo_Law0_112 mi_Main_year mv_Main_year sh_0 (by decide) rfl ⟨Nat.le_of_ble_eq_true rfl, Nat.le_of_ble_eq_true rfl⟩ rfl rfl (Nat.le_of_ble_eq_true rfl) ⟨Nat.le_of_ble_eq_true rfl, Nat.le_of_ble_eq_true rfl⟩ rfl ?_
  refine f_Main_year hld hq5 ?_
  show Zw l p e s m below meth c bs Lx xs D cA 447 23912 919 [(0, .ref bs), (1, .ref (s.heap.size + 0)), (2, .ref (s.heap.size + 401)), (3, .int i)] [.int r6] M7 L (rf ld)
  refine z_pop C (pc1 := 920) d_law_919 rfl rfl ?_
  refine z_aload_n C (pc1 := 921) 2 d_law_920 rfl rfl rfl ?_
  refine z_aload_n C (pc1 := 922) 0 d_law_921 rfl rfl rfl ?_
  refine z_iload_n C (pc1 := 923) 3 d_law_922 rfl rfl rfl ?_
  refine z_iconst C (pc1 := 924) (v := 1) d_law_923 rfl (by decide) ?_
  refine z_iadd C (pc1 := 925) d_law_924 rfl ?_
  obtain ⟨g8, h⟩ := gdn h
  refine z_sld C (pc1 := 926) d_law_925 rfl g8 ?_
  refine z_aload_n C (pc1 := 927) 0 d_law_926 rfl rfl rfl ?_
  refine z_iload_n C (pc1 := 928) 3 d_law_927 rfl rfl rfl ?_
  refine z_iconst C (pc1 := 929) (v := 2) d_law_928 rfl (by decide) ?_
  refine z_iadd C (pc1 := 930) d_law_929 rfl ?_
  obtain ⟨g9, h⟩ := gdn h
  refine z_sld C (pc1 := 931) d_law_930 rfl g9 ?_
  refine z_aload_n C (pc1 := 932) 0 d_law_931 rfl rfl rfl ?_
  refine z_iload_n C (pc1 := 933) 3 d_law_932 rfl rfl rfl ?_
  refine z_iconst C (pc1 := 934) (v := 3) d_law_933 rfl (by decide) ?_
  refine z_iadd C (pc1 := 935) d_law_934 rfl ?_
  obtain ⟨g10, h⟩ := gdn h
  refine z_sld C (pc1 := 936) d_law_935 rfl g10 ?_
  refine z_aload_n C (pc1 := 937) 0 d_law_936 rfl rfl rfl ?_
  refine z_iload_n C (pc1 := 938) 3 d_law_937 rfl rfl rfl ?_
  refine z_iconst C (pc1 := 939) (v := 4) d_law_938 rfl (by decide) ?_
  refine z_iadd C (pc1 := 940) d_law_939 rfl ?_
  obtain ⟨g11, h⟩ := gdn h
  refine z_sld C (pc1 := 941) d_law_940 rfl g11 ?_
  obtain ⟨r13, M14, hq12, h⟩ := bnd2 h
  refine z_callV C (E' := (0, 0, 447)) (pc1 := 944) (As := [.int (xs ((i + 1) : Int32).toNatClampNeg), .int (xs ((i + 2) : Int32).toNatClampNeg), .int (xs ((i + 3) : Int32).toNatClampNeg), .int (xs ((i + 4) : Int32).toNatClampNeg)]) (rest := []) d_law_941 rfl mo_Law0_115 mi_Mod_year mv_Mod_year sh_401 (by decide) rfl ⟨Nat.le_of_ble_eq_true rfl, Nat.le_of_ble_eq_true rfl⟩ rfl rfl (Nat.le_of_ble_eq_true rfl) ⟨Nat.le_of_ble_eq_true rfl, Nat.le_of_ble_eq_true rfl⟩ rfl ?_
  refine f_Mod_year hld hq12 ?_
  show Zw l p e s m below meth c bs Lx xs D cA 447 23912 944 [(0, .ref bs), (1, .ref (s.heap.size + 0)), (2, .ref (s.heap.size + 401)), (3, .int i)] [.int r13] M14 L (rf ld)
  refine z_pop C (pc1 := 945) d_law_944 rfl rfl ?_
  refine z_goto C (tgt := 1142) d_law_945 (by decide) ?_
  obtain ⟨x15, ex15, h⟩ := ltI h
  refine z_iinc C (pc1 := 1145) (v := x15) (lv' := [(0, .ref bs), (1, .ref (s.heap.size + 0)), (2, .ref (s.heap.size + 401)), (3, .int x15)]) d_law_1142 rfl 3 rfl (by rw [ex15]; rfl) (by decide) [1, 2, 3, 0] rfl ?_
  refine z_goto C (tgt := 18) d_law_1145 (by decide) ?_
  exact hK _ _ _ _ hld h
def C_law_24 (xs : Nat → Int32) (Lx : Nat) (K : Int32 → gM → gL → Nat → Option Int32) (i : Int32) (M : gM) (L : gL) (ld : Nat) : Option Int32 :=
  (if ((i + 1) : Int32) < 0 ∨ Lx ≤ ((i + 1) : Int32).toNatClampNeg then none else (if ((i + 2) : Int32) < 0 ∨ Lx ≤ ((i + 2) : Int32).toNatClampNeg then none else (if ((i + 3) : Int32) < 0 ∨ Lx ≤ ((i + 3) : Int32).toNatClampNeg then none else bI2 (F_Main_tell (xs ((i + 1) : Int32).toNatClampNeg) (xs ((i + 2) : Int32).toNatClampNeg) (xs ((i + 3) : Int32).toNatClampNeg) M) (fun r5 M6 => (if ((i + 1) : Int32) < 0 ∨ Lx ≤ ((i + 1) : Int32).toNatClampNeg then none else (if ((i + 2) : Int32) < 0 ∨ Lx ≤ ((i + 2) : Int32).toNatClampNeg then none else (if ((i + 3) : Int32) < 0 ∨ Lx ≤ ((i + 3) : Int32).toNatClampNeg then none else bI2 (F_Mod_tell (xs ((i + 1) : Int32).toNatClampNeg) (xs ((i + 2) : Int32).toNatClampNeg) (xs ((i + 3) : Int32).toNatClampNeg) M6) (fun r11 M12 => nmI (i + 6) (fun x13 => K x13 M12 L ld)))))))))
set_option maxHeartbeats 4000000 in
set_option maxRecDepth 20000 in
theorem c_law_24 {l : Launch} {p : Program} {e : Env} {s : State} {m : MethodId} {below : List Frame} {meth : Method} {c : Code} {bs Lx : Nat} {xs : Nat → Int32} {D : va_G} {cA : Nat → ClassId} (C : ZC p s m meth c bs Lx xs D cA) (K : Int32 → gM → gL → Nat → Option Int32) (hK : ∀ (i : Int32) (M : gM) (L : gL) (ld : Nat), isLa ld → K i M L ld = some 1 → Zw l p e s m below meth c bs Lx xs D cA 447 23912 18 [(0, .ref bs), (1, .ref (s.heap.size + 0)), (2, .ref (s.heap.size + 401)), (3, .int i)] [] M L (rf ld)) {i : Int32} {M : gM} {L : gL} {ld : Nat} (hld : isLa ld) (h : C_law_24 xs Lx K i M L ld = some 1) : Zw l p e s m below meth c bs Lx xs D cA 447 23912 948 [(0, .ref bs), (1, .ref (s.heap.size + 0)), (2, .ref (s.heap.size + 401)), (3, .int i)] [] M L (rf ld) := by
  unfold C_law_24 at h
  refine z_aload_n C (pc1 := 949) 1 d_law_948 rfl rfl rfl ?_
  refine z_aload_n C (pc1 := 950) 0 d_law_949 rfl rfl rfl ?_
  refine z_iload_n C (pc1 := 951) 3 d_law_950 rfl rfl rfl ?_
  refine z_iconst C (pc1 := 952) (v := 1) d_law_951 rfl (by decide) ?_
  refine z_iadd C (pc1 := 953) d_law_952 rfl ?_
  obtain ⟨g1, h⟩ := gdn h
  refine z_sld C (pc1 := 954) d_law_953 rfl g1 ?_
  refine z_aload_n C (pc1 := 955) 0 d_law_954 rfl rfl rfl ?_
  refine z_iload_n C (pc1 := 956) 3 d_law_955 rfl rfl rfl ?_
  refine z_iconst C (pc1 := 957) (v := 2) d_law_956 rfl (by decide) ?_
  refine z_iadd C (pc1 := 958) d_law_957 rfl ?_
  obtain ⟨g2, h⟩ := gdn h
  refine z_sld C (pc1 := 959) d_law_958 rfl g2 ?_
  refine z_aload_n C (pc1 := 960) 0 d_law_959 rfl rfl rfl ?_
  refine z_iload_n C (pc1 := 961) 3 d_law_960 rfl rfl rfl ?_
  refine z_iconst C (pc1 := 962) (v := 3) d_law_961 rfl (by decide) ?_
  refine z_iadd C (pc1 := 963) d_law_962 rfl ?_
  obtain ⟨g3, h⟩ := gdn h
  refine z_sld C (pc1 := 964) d_law_963 rfl g3 ?_
  obtain ⟨r5, M6, hq4, h⟩ := bnd2 h
  refine z_callV C (E' := (0, 0, 447)) (pc1 := 967) (As := [.int (xs ((i + 1) : Int32).toNatClampNeg), .int (xs ((i + 2) : Int32).toNatClampNeg), .int (xs ((i + 3) : Int32).toNatClampNeg)]) (rest := []) d_law_964 rfl mo_Law0_116 mi_Main_tell mv_Main_tell sh_0 (by decide) rfl ⟨Nat.le_of_ble_eq_true rfl, Nat.le_of_ble_eq_true rfl⟩ rfl rfl (Nat.le_of_ble_eq_true rfl) ⟨Nat.le_of_ble_eq_true rfl, Nat.le_of_ble_eq_true rfl⟩ rfl ?_
  refine f_Main_tell hld hq4 ?_
  show Zw l p e s m below meth c bs Lx xs D cA 447 23912 967 [(0, .ref bs), (1, .ref (s.heap.size + 0)), (2, .ref (s.heap.size + 401)), (3, .int i)] [.int r5] M6 L (rf ld)
  refine z_pop C (pc1 := 968) d_law_967 rfl rfl ?_
  refine z_aload_n C (pc1 := 969) 2 d_law_968 rfl rfl rfl ?_
  refine z_aload_n C (pc1 := 970) 0 d_law_969 rfl rfl rfl ?_
  refine z_iload_n C (pc1 := 971) 3 d_law_970 rfl rfl rfl ?_
  refine z_iconst C (pc1 := 972) (v := 1) d_law_971 rfl (by decide) ?_
  refine z_iadd C (pc1 := 973) d_law_972 rfl ?_
  obtain ⟨g7, h⟩ := gdn h
  refine z_sld C (pc1 := 974) d_law_973 rfl g7 ?_
  refine z_aload_n C (pc1 := 975) 0 d_law_974 rfl rfl rfl ?_
  refine z_iload_n C (pc1 := 976) 3 d_law_975 rfl rfl rfl ?_
  refine z_iconst C (pc1 := 977) (v := 2) d_law_976 rfl (by decide) ?_
  refine z_iadd C (pc1 := 978) d_law_977 rfl ?_
  obtain ⟨g8, h⟩ := gdn h
  refine z_sld C (pc1 := 979) d_law_978 rfl g8 ?_
  refine z_aload_n C (pc1 := 980) 0 d_law_979 rfl rfl rfl ?_
  refine z_iload_n C (pc1 := 981) 3 d_law_980 rfl rfl rfl ?_
  refine z_iconst C (pc1 := 982) (v := 3) d_law_981 rfl (by decide) ?_
  refine z_iadd C (pc1 := 983) d_law_982 rfl ?_
  obtain ⟨g9, h⟩ := gdn h
  refine z_sld C (pc1 := 984) d_law_983 rfl g9 ?_
  obtain ⟨r11, M12, hq10, h⟩ := bnd2 h
  refine z_callV C (E' := (0, 0, 447)) (pc1 := 987) (As := [.int (xs ((i + 1) : Int32).toNatClampNeg), .int (xs ((i + 2) : Int32).toNatClampNeg), .int (xs ((i + 3) : Int32).toNatClampNeg)]) (rest := []) d_law_984 rfl mo_Law0_119 mi_Mod_tell mv_Mod_tell sh_401 (by decide) rfl ⟨Nat.le_of_ble_eq_true rfl, Nat.le_of_ble_eq_true rfl⟩ rfl rfl (Nat.le_of_ble_eq_true rfl) ⟨Nat.le_of_ble_eq_true rfl, Nat.le_of_ble_eq_true rfl⟩ rfl ?_
  refine f_Mod_tell hld hq10 ?_
  show Zw l p e s m below meth c bs Lx xs D cA 447 23912 987 [(0, .ref bs), (1, .ref (s.heap.size + 0)), (2, .ref (s.heap.size + 401)), (3, .int i)] [.int r11] M12 L (rf ld)
  refine z_pop C (pc1 := 988) d_law_987 rfl rfl ?_
  refine z_goto C (tgt := 1142) d_law_988 (by decide) ?_
  obtain ⟨x13, ex13, h⟩ := ltI h
  refine z_iinc C (pc1 := 1145) (v := x13) (lv' := [(0, .ref bs), (1, .ref (s.heap.size + 0)), (2, .ref (s.heap.size + 401)), (3, .int x13)]) d_law_1142 rfl 3 rfl (by rw [ex13]; rfl) (by decide) [1, 2, 3, 0] rfl ?_
  refine z_goto C (tgt := 18) d_law_1145 (by decide) ?_
  exact hK _ _ _ _ hld h
def C_law_25 (xs : Nat → Int32) (Lx : Nat) (K : Int32 → gM → gL → Nat → Option Int32) (i : Int32) (M : gM) (L : gL) (ld : Nat) : Option Int32 :=
  bI2 (F_Main_forget M) (fun r2 M3 => bI2 (F_Mod_forget M3) (fun r5 M6 => nmI (i + 6) (fun x7 => K x7 M6 L ld)))
set_option maxHeartbeats 4000000 in
set_option maxRecDepth 20000 in
theorem c_law_25 {l : Launch} {p : Program} {e : Env} {s : State} {m : MethodId} {below : List Frame} {meth : Method} {c : Code} {bs Lx : Nat} {xs : Nat → Int32} {D : va_G} {cA : Nat → ClassId} (C : ZC p s m meth c bs Lx xs D cA) (K : Int32 → gM → gL → Nat → Option Int32) (hK : ∀ (i : Int32) (M : gM) (L : gL) (ld : Nat), isLa ld → K i M L ld = some 1 → Zw l p e s m below meth c bs Lx xs D cA 447 23912 18 [(0, .ref bs), (1, .ref (s.heap.size + 0)), (2, .ref (s.heap.size + 401)), (3, .int i)] [] M L (rf ld)) {i : Int32} {M : gM} {L : gL} {ld : Nat} (hld : isLa ld) (h : C_law_25 xs Lx K i M L ld = some 1) : Zw l p e s m below meth c bs Lx xs D cA 447 23912 991 [(0, .ref bs), (1, .ref (s.heap.size + 0)), (2, .ref (s.heap.size + 401)), (3, .int i)] [] M L (rf ld) := by
  unfold C_law_25 at h
  refine z_aload_n C (pc1 := 992) 1 d_law_991 rfl rfl rfl ?_
  obtain ⟨r2, M3, hq1, h⟩ := bnd2 h
  refine z_callV C (E' := (0, 0, 447)) (pc1 := 995) (As := []) (rest := []) d_law_992 rfl mo_Law0_120 mi_Main_forget mv_Main_forget sh_0 (by decide) rfl ⟨Nat.le_of_ble_eq_true rfl, Nat.le_of_ble_eq_true rfl⟩ rfl rfl (Nat.le_of_ble_eq_true rfl) ⟨Nat.le_of_ble_eq_true rfl, Nat.le_of_ble_eq_true rfl⟩ rfl ?_
  refine f_Main_forget hld hq1 ?_
  show Zw l p e s m below meth c bs Lx xs D cA 447 23912 995 [(0, .ref bs), (1, .ref (s.heap.size + 0)), (2, .ref (s.heap.size + 401)), (3, .int i)] [.int r2] M3 L (rf ld)
  refine z_pop C (pc1 := 996) d_law_995 rfl rfl ?_
  refine z_aload_n C (pc1 := 997) 2 d_law_996 rfl rfl rfl ?_
  obtain ⟨r5, M6, hq4, h⟩ := bnd2 h
  refine z_callV C (E' := (0, 0, 447)) (pc1 := 1000) (As := []) (rest := []) d_law_997 rfl mo_Law0_123 mi_Mod_forget mv_Mod_forget sh_401 (by decide) rfl ⟨Nat.le_of_ble_eq_true rfl, Nat.le_of_ble_eq_true rfl⟩ rfl rfl (Nat.le_of_ble_eq_true rfl) ⟨Nat.le_of_ble_eq_true rfl, Nat.le_of_ble_eq_true rfl⟩ rfl ?_
  refine f_Mod_forget hld hq4 ?_
  show Zw l p e s m below meth c bs Lx xs D cA 447 23912 1000 [(0, .ref bs), (1, .ref (s.heap.size + 0)), (2, .ref (s.heap.size + 401)), (3, .int i)] [.int r5] M6 L (rf ld)
  refine z_pop C (pc1 := 1001) d_law_1000 rfl rfl ?_
  refine z_goto C (tgt := 1142) d_law_1001 (by decide) ?_
  obtain ⟨x7, ex7, h⟩ := ltI h
  refine z_iinc C (pc1 := 1145) (v := x7) (lv' := [(0, .ref bs), (1, .ref (s.heap.size + 0)), (2, .ref (s.heap.size + 401)), (3, .int x7)]) d_law_1142 rfl 3 rfl (by rw [ex7]; rfl) (by decide) [1, 2, 3, 0] rfl ?_
  refine z_goto C (tgt := 18) d_law_1145 (by decide) ?_
  exact hK _ _ _ _ hld h
def C_law_26 (xs : Nat → Int32) (Lx : Nat) (K : Int32 → gM → gL → Nat → Option Int32) (i : Int32) (M : gM) (L : gL) (ld : Nat) : Option Int32 :=
  (if ((i + 1) : Int32) < 0 ∨ Lx ≤ ((i + 1) : Int32).toNatClampNeg then none else bI2 (F_Main_blame ld (xs ((i + 1) : Int32).toNatClampNeg) M) (fun r3 M4 => (if ((i + 1) : Int32) < 0 ∨ Lx ≤ ((i + 1) : Int32).toNatClampNeg then none else bI2 (F_Mod_blame (xs ((i + 1) : Int32).toNatClampNeg) M4) (fun r7 M8 => nmI (i + 6) (fun x9 => K x9 M8 L ld)))))
set_option maxHeartbeats 4000000 in
set_option maxRecDepth 20000 in
theorem c_law_26 {l : Launch} {p : Program} {e : Env} {s : State} {m : MethodId} {below : List Frame} {meth : Method} {c : Code} {bs Lx : Nat} {xs : Nat → Int32} {D : va_G} {cA : Nat → ClassId} (C : ZC p s m meth c bs Lx xs D cA) (K : Int32 → gM → gL → Nat → Option Int32) (hK : ∀ (i : Int32) (M : gM) (L : gL) (ld : Nat), isLa ld → K i M L ld = some 1 → Zw l p e s m below meth c bs Lx xs D cA 447 23912 18 [(0, .ref bs), (1, .ref (s.heap.size + 0)), (2, .ref (s.heap.size + 401)), (3, .int i)] [] M L (rf ld)) {i : Int32} {M : gM} {L : gL} {ld : Nat} (hld : isLa ld) (h : C_law_26 xs Lx K i M L ld = some 1) : Zw l p e s m below meth c bs Lx xs D cA 447 23912 1004 [(0, .ref bs), (1, .ref (s.heap.size + 0)), (2, .ref (s.heap.size + 401)), (3, .int i)] [] M L (rf ld) := by
  unfold C_law_26 at h
  refine z_aload_n C (pc1 := 1005) 1 d_law_1004 rfl rfl rfl ?_
  refine z_aload_n C (pc1 := 1006) 0 d_law_1005 rfl rfl rfl ?_
  refine z_iload_n C (pc1 := 1007) 3 d_law_1006 rfl rfl rfl ?_
  refine z_iconst C (pc1 := 1008) (v := 1) d_law_1007 rfl (by decide) ?_
  refine z_iadd C (pc1 := 1009) d_law_1008 rfl ?_
  obtain ⟨g1, h⟩ := gdn h
  refine z_sld C (pc1 := 1010) d_law_1009 rfl g1 ?_
  obtain ⟨r3, M4, hq2, h⟩ := bnd2 h
  refine z_callV C (E' := (0, 0, 447)) (pc1 := 1013) (As := [.int (xs ((i + 1) : Int32).toNatClampNeg)]) (rest := []) d_law_1010 rfl mo_Law0_124 mi_Main_blame mv_Main_blame sh_0 (by decide) rfl ⟨Nat.le_of_ble_eq_true rfl, Nat.le_of_ble_eq_true rfl⟩ rfl rfl (Nat.le_of_ble_eq_true rfl) ⟨Nat.le_of_ble_eq_true rfl, Nat.le_of_ble_eq_true rfl⟩ rfl ?_
  refine f_Main_blame hld hq2 ?_
  show Zw l p e s m below meth c bs Lx xs D cA 447 23912 1013 [(0, .ref bs), (1, .ref (s.heap.size + 0)), (2, .ref (s.heap.size + 401)), (3, .int i)] [.int r3] M4 L (rf ld)
  refine z_pop C (pc1 := 1014) d_law_1013 rfl rfl ?_
  refine z_aload_n C (pc1 := 1015) 2 d_law_1014 rfl rfl rfl ?_
  refine z_aload_n C (pc1 := 1016) 0 d_law_1015 rfl rfl rfl ?_
  refine z_iload_n C (pc1 := 1017) 3 d_law_1016 rfl rfl rfl ?_
  refine z_iconst C (pc1 := 1018) (v := 1) d_law_1017 rfl (by decide) ?_
  refine z_iadd C (pc1 := 1019) d_law_1018 rfl ?_
  obtain ⟨g5, h⟩ := gdn h
  refine z_sld C (pc1 := 1020) d_law_1019 rfl g5 ?_
  obtain ⟨r7, M8, hq6, h⟩ := bnd2 h
  refine z_callV C (E' := (0, 0, 447)) (pc1 := 1023) (As := [.int (xs ((i + 1) : Int32).toNatClampNeg)]) (rest := []) d_law_1020 rfl mo_Law0_127 mi_Mod_blame mv_Mod_blame sh_401 (by decide) rfl ⟨Nat.le_of_ble_eq_true rfl, Nat.le_of_ble_eq_true rfl⟩ rfl rfl (Nat.le_of_ble_eq_true rfl) ⟨Nat.le_of_ble_eq_true rfl, Nat.le_of_ble_eq_true rfl⟩ rfl ?_
  refine f_Mod_blame hld hq6 ?_
  show Zw l p e s m below meth c bs Lx xs D cA 447 23912 1023 [(0, .ref bs), (1, .ref (s.heap.size + 0)), (2, .ref (s.heap.size + 401)), (3, .int i)] [.int r7] M8 L (rf ld)
  refine z_pop C (pc1 := 1024) d_law_1023 rfl rfl ?_
  refine z_goto C (tgt := 1142) d_law_1024 (by decide) ?_
  obtain ⟨x9, ex9, h⟩ := ltI h
  refine z_iinc C (pc1 := 1145) (v := x9) (lv' := [(0, .ref bs), (1, .ref (s.heap.size + 0)), (2, .ref (s.heap.size + 401)), (3, .int x9)]) d_law_1142 rfl 3 rfl (by rw [ex9]; rfl) (by decide) [1, 2, 3, 0] rfl ?_
  refine z_goto C (tgt := 18) d_law_1145 (by decide) ?_
  exact hK _ _ _ _ hld h
def C_law_27 (xs : Nat → Int32) (Lx : Nat) (K : Int32 → gM → gL → Nat → Option Int32) (i : Int32) (M : gM) (L : gL) (ld : Nat) : Option Int32 :=
  (if ((i + 1) : Int32) < 0 ∨ Lx ≤ ((i + 1) : Int32).toNatClampNeg then none else bI2 (F_Main_sure ld (xs ((i + 1) : Int32).toNatClampNeg) M) (fun r3 M4 => (if ((i + 1) : Int32) < 0 ∨ Lx ≤ ((i + 1) : Int32).toNatClampNeg then none else bI2 (F_Mod_sure (xs ((i + 1) : Int32).toNatClampNeg) M4) (fun r7 M8 => nmI (i + 6) (fun x9 => K x9 M8 L ld)))))
set_option maxHeartbeats 4000000 in
set_option maxRecDepth 20000 in
theorem c_law_27 {l : Launch} {p : Program} {e : Env} {s : State} {m : MethodId} {below : List Frame} {meth : Method} {c : Code} {bs Lx : Nat} {xs : Nat → Int32} {D : va_G} {cA : Nat → ClassId} (C : ZC p s m meth c bs Lx xs D cA) (K : Int32 → gM → gL → Nat → Option Int32) (hK : ∀ (i : Int32) (M : gM) (L : gL) (ld : Nat), isLa ld → K i M L ld = some 1 → Zw l p e s m below meth c bs Lx xs D cA 447 23912 18 [(0, .ref bs), (1, .ref (s.heap.size + 0)), (2, .ref (s.heap.size + 401)), (3, .int i)] [] M L (rf ld)) {i : Int32} {M : gM} {L : gL} {ld : Nat} (hld : isLa ld) (h : C_law_27 xs Lx K i M L ld = some 1) : Zw l p e s m below meth c bs Lx xs D cA 447 23912 1027 [(0, .ref bs), (1, .ref (s.heap.size + 0)), (2, .ref (s.heap.size + 401)), (3, .int i)] [] M L (rf ld) := by
  unfold C_law_27 at h
  refine z_aload_n C (pc1 := 1028) 1 d_law_1027 rfl rfl rfl ?_
  refine z_aload_n C (pc1 := 1029) 0 d_law_1028 rfl rfl rfl ?_
  refine z_iload_n C (pc1 := 1030) 3 d_law_1029 rfl rfl rfl ?_
  refine z_iconst C (pc1 := 1031) (v := 1) d_law_1030 rfl (by decide) ?_
  refine z_iadd C (pc1 := 1032) d_law_1031 rfl ?_
  obtain ⟨g1, h⟩ := gdn h
  refine z_sld C (pc1 := 1033) d_law_1032 rfl g1 ?_
  obtain ⟨r3, M4, hq2, h⟩ := bnd2 h
  refine z_callV C (E' := (0, 0, 447)) (pc1 := 1036) (As := [.int (xs ((i + 1) : Int32).toNatClampNeg)]) (rest := []) d_law_1033 rfl mo_Law0_128 mi_Main_sure mv_Main_sure sh_0 (by decide) rfl ⟨Nat.le_of_ble_eq_true rfl, Nat.le_of_ble_eq_true rfl⟩ rfl rfl (Nat.le_of_ble_eq_true rfl) ⟨Nat.le_of_ble_eq_true rfl, Nat.le_of_ble_eq_true rfl⟩ rfl ?_
  refine f_Main_sure hld hq2 ?_
  show Zw l p e s m below meth c bs Lx xs D cA 447 23912 1036 [(0, .ref bs), (1, .ref (s.heap.size + 0)), (2, .ref (s.heap.size + 401)), (3, .int i)] [.int r3] M4 L (rf ld)
  refine z_pop C (pc1 := 1037) d_law_1036 rfl rfl ?_
  refine z_aload_n C (pc1 := 1038) 2 d_law_1037 rfl rfl rfl ?_
  refine z_aload_n C (pc1 := 1039) 0 d_law_1038 rfl rfl rfl ?_
  refine z_iload_n C (pc1 := 1040) 3 d_law_1039 rfl rfl rfl ?_
  refine z_iconst C (pc1 := 1041) (v := 1) d_law_1040 rfl (by decide) ?_
  refine z_iadd C (pc1 := 1042) d_law_1041 rfl ?_
  obtain ⟨g5, h⟩ := gdn h
  refine z_sld C (pc1 := 1043) d_law_1042 rfl g5 ?_
  obtain ⟨r7, M8, hq6, h⟩ := bnd2 h
  refine z_callV C (E' := (0, 0, 447)) (pc1 := 1046) (As := [.int (xs ((i + 1) : Int32).toNatClampNeg)]) (rest := []) d_law_1043 rfl mo_Law0_131 mi_Mod_sure mv_Mod_sure sh_401 (by decide) rfl ⟨Nat.le_of_ble_eq_true rfl, Nat.le_of_ble_eq_true rfl⟩ rfl rfl (Nat.le_of_ble_eq_true rfl) ⟨Nat.le_of_ble_eq_true rfl, Nat.le_of_ble_eq_true rfl⟩ rfl ?_
  refine f_Mod_sure hld hq6 ?_
  show Zw l p e s m below meth c bs Lx xs D cA 447 23912 1046 [(0, .ref bs), (1, .ref (s.heap.size + 0)), (2, .ref (s.heap.size + 401)), (3, .int i)] [.int r7] M8 L (rf ld)
  refine z_pop C (pc1 := 1047) d_law_1046 rfl rfl ?_
  refine z_goto C (tgt := 1142) d_law_1047 (by decide) ?_
  obtain ⟨x9, ex9, h⟩ := ltI h
  refine z_iinc C (pc1 := 1145) (v := x9) (lv' := [(0, .ref bs), (1, .ref (s.heap.size + 0)), (2, .ref (s.heap.size + 401)), (3, .int x9)]) d_law_1142 rfl 3 rfl (by rw [ex9]; rfl) (by decide) [1, 2, 3, 0] rfl ?_
  refine z_goto C (tgt := 18) d_law_1145 (by decide) ?_
  exact hK _ _ _ _ hld h
def C_law_28 (xs : Nat → Int32) (Lx : Nat) (K : Int32 → gM → gL → Nat → Option Int32) (i : Int32) (M : gM) (L : gL) (ld : Nat) : Option Int32 :=
  (if ((i + 1) : Int32) < 0 ∨ Lx ≤ ((i + 1) : Int32).toNatClampNeg then none else bI2 (F_Main_taste ld (xs ((i + 1) : Int32).toNatClampNeg) M) (fun r3 M4 => (if ((i + 1) : Int32) < 0 ∨ Lx ≤ ((i + 1) : Int32).toNatClampNeg then none else bI2 (F_Mod_taste (xs ((i + 1) : Int32).toNatClampNeg) M4) (fun r7 M8 => nmI (i + 6) (fun x9 => K x9 M8 L ld)))))
set_option maxHeartbeats 4000000 in
set_option maxRecDepth 20000 in
theorem c_law_28 {l : Launch} {p : Program} {e : Env} {s : State} {m : MethodId} {below : List Frame} {meth : Method} {c : Code} {bs Lx : Nat} {xs : Nat → Int32} {D : va_G} {cA : Nat → ClassId} (C : ZC p s m meth c bs Lx xs D cA) (K : Int32 → gM → gL → Nat → Option Int32) (hK : ∀ (i : Int32) (M : gM) (L : gL) (ld : Nat), isLa ld → K i M L ld = some 1 → Zw l p e s m below meth c bs Lx xs D cA 447 23912 18 [(0, .ref bs), (1, .ref (s.heap.size + 0)), (2, .ref (s.heap.size + 401)), (3, .int i)] [] M L (rf ld)) {i : Int32} {M : gM} {L : gL} {ld : Nat} (hld : isLa ld) (h : C_law_28 xs Lx K i M L ld = some 1) : Zw l p e s m below meth c bs Lx xs D cA 447 23912 1050 [(0, .ref bs), (1, .ref (s.heap.size + 0)), (2, .ref (s.heap.size + 401)), (3, .int i)] [] M L (rf ld) := by
  unfold C_law_28 at h
  refine z_aload_n C (pc1 := 1051) 1 d_law_1050 rfl rfl rfl ?_
  refine z_aload_n C (pc1 := 1052) 0 d_law_1051 rfl rfl rfl ?_
  refine z_iload_n C (pc1 := 1053) 3 d_law_1052 rfl rfl rfl ?_
  refine z_iconst C (pc1 := 1054) (v := 1) d_law_1053 rfl (by decide) ?_
  refine z_iadd C (pc1 := 1055) d_law_1054 rfl ?_
  obtain ⟨g1, h⟩ := gdn h
  refine z_sld C (pc1 := 1056) d_law_1055 rfl g1 ?_
  obtain ⟨r3, M4, hq2, h⟩ := bnd2 h
  refine z_callV C (E' := (0, 0, 447)) (pc1 := 1059) (As := [.int (xs ((i + 1) : Int32).toNatClampNeg)]) (rest := []) d_law_1056 rfl mo_Law0_132 mi_Main_taste mv_Main_taste sh_0 (by decide) rfl ⟨Nat.le_of_ble_eq_true rfl, Nat.le_of_ble_eq_true rfl⟩ rfl rfl (Nat.le_of_ble_eq_true rfl) ⟨Nat.le_of_ble_eq_true rfl, Nat.le_of_ble_eq_true rfl⟩ rfl ?_
  refine f_Main_taste hld hq2 ?_
  show Zw l p e s m below meth c bs Lx xs D cA 447 23912 1059 [(0, .ref bs), (1, .ref (s.heap.size + 0)), (2, .ref (s.heap.size + 401)), (3, .int i)] [.int r3] M4 L (rf ld)
  refine z_pop C (pc1 := 1060) d_law_1059 rfl rfl ?_
  refine z_aload_n C (pc1 := 1061) 2 d_law_1060 rfl rfl rfl ?_
  refine z_aload_n C (pc1 := 1062) 0 d_law_1061 rfl rfl rfl ?_
  refine z_iload_n C (pc1 := 1063) 3 d_law_1062 rfl rfl rfl ?_
  refine z_iconst C (pc1 := 1064) (v := 1) d_law_1063 rfl (by decide) ?_
  refine z_iadd C (pc1 := 1065) d_law_1064 rfl ?_
  obtain ⟨g5, h⟩ := gdn h
  refine z_sld C (pc1 := 1066) d_law_1065 rfl g5 ?_
  obtain ⟨r7, M8, hq6, h⟩ := bnd2 h
  refine z_callV C (E' := (0, 0, 447)) (pc1 := 1069) (As := [.int (xs ((i + 1) : Int32).toNatClampNeg)]) (rest := []) d_law_1066 rfl mo_Law0_135 mi_Mod_taste mv_Mod_taste sh_401 (by decide) rfl ⟨Nat.le_of_ble_eq_true rfl, Nat.le_of_ble_eq_true rfl⟩ rfl rfl (Nat.le_of_ble_eq_true rfl) ⟨Nat.le_of_ble_eq_true rfl, Nat.le_of_ble_eq_true rfl⟩ rfl ?_
  refine f_Mod_taste hld hq6 ?_
  show Zw l p e s m below meth c bs Lx xs D cA 447 23912 1069 [(0, .ref bs), (1, .ref (s.heap.size + 0)), (2, .ref (s.heap.size + 401)), (3, .int i)] [.int r7] M8 L (rf ld)
  refine z_pop C (pc1 := 1070) d_law_1069 rfl rfl ?_
  refine z_goto C (tgt := 1142) d_law_1070 (by decide) ?_
  obtain ⟨x9, ex9, h⟩ := ltI h
  refine z_iinc C (pc1 := 1145) (v := x9) (lv' := [(0, .ref bs), (1, .ref (s.heap.size + 0)), (2, .ref (s.heap.size + 401)), (3, .int x9)]) d_law_1142 rfl 3 rfl (by rw [ex9]; rfl) (by decide) [1, 2, 3, 0] rfl ?_
  refine z_goto C (tgt := 18) d_law_1145 (by decide) ?_
  exact hK _ _ _ _ hld h
def C_law_29 (xs : Nat → Int32) (Lx : Nat) (K : Int32 → gM → gL → Nat → Option Int32) (i : Int32) (M : gM) (L : gL) (ld : Nat) : Option Int32 :=
  (if ((i + 1) : Int32) < 0 ∨ Lx ≤ ((i + 1) : Int32).toNatClampNeg then none else bI2 (F_Main_hold (xs ((i + 1) : Int32).toNatClampNeg) M) (fun r3 M4 => (if ((i + 1) : Int32) < 0 ∨ Lx ≤ ((i + 1) : Int32).toNatClampNeg then none else bI2 (F_Mod_hold (xs ((i + 1) : Int32).toNatClampNeg) M4) (fun r7 M8 => nmI (i + 6) (fun x9 => K x9 M8 L ld)))))
set_option maxHeartbeats 4000000 in
set_option maxRecDepth 20000 in
theorem c_law_29 {l : Launch} {p : Program} {e : Env} {s : State} {m : MethodId} {below : List Frame} {meth : Method} {c : Code} {bs Lx : Nat} {xs : Nat → Int32} {D : va_G} {cA : Nat → ClassId} (C : ZC p s m meth c bs Lx xs D cA) (K : Int32 → gM → gL → Nat → Option Int32) (hK : ∀ (i : Int32) (M : gM) (L : gL) (ld : Nat), isLa ld → K i M L ld = some 1 → Zw l p e s m below meth c bs Lx xs D cA 447 23912 18 [(0, .ref bs), (1, .ref (s.heap.size + 0)), (2, .ref (s.heap.size + 401)), (3, .int i)] [] M L (rf ld)) {i : Int32} {M : gM} {L : gL} {ld : Nat} (hld : isLa ld) (h : C_law_29 xs Lx K i M L ld = some 1) : Zw l p e s m below meth c bs Lx xs D cA 447 23912 1073 [(0, .ref bs), (1, .ref (s.heap.size + 0)), (2, .ref (s.heap.size + 401)), (3, .int i)] [] M L (rf ld) := by
  unfold C_law_29 at h
  refine z_aload_n C (pc1 := 1074) 1 d_law_1073 rfl rfl rfl ?_
  refine z_aload_n C (pc1 := 1075) 0 d_law_1074 rfl rfl rfl ?_
  refine z_iload_n C (pc1 := 1076) 3 d_law_1075 rfl rfl rfl ?_
  refine z_iconst C (pc1 := 1077) (v := 1) d_law_1076 rfl (by decide) ?_
  refine z_iadd C (pc1 := 1078) d_law_1077 rfl ?_
  obtain ⟨g1, h⟩ := gdn h
  refine z_sld C (pc1 := 1079) d_law_1078 rfl g1 ?_
  obtain ⟨r3, M4, hq2, h⟩ := bnd2 h
  refine z_callV C (E' := (0, 0, 447)) (pc1 := 1082) (As := [.int (xs ((i + 1) : Int32).toNatClampNeg)]) (rest := []) d_law_1079 rfl mo_Law0_136 mi_Main_hold mv_Main_hold sh_0 (by decide) rfl ⟨Nat.le_of_ble_eq_true rfl, Nat.le_of_ble_eq_true rfl⟩ rfl rfl (Nat.le_of_ble_eq_true rfl) ⟨Nat.le_of_ble_eq_true rfl, Nat.le_of_ble_eq_true rfl⟩ rfl ?_
  refine f_Main_hold hld hq2 ?_
  show Zw l p e s m below meth c bs Lx xs D cA 447 23912 1082 [(0, .ref bs), (1, .ref (s.heap.size + 0)), (2, .ref (s.heap.size + 401)), (3, .int i)] [.int r3] M4 L (rf ld)
  refine z_pop C (pc1 := 1083) d_law_1082 rfl rfl ?_
  refine z_aload_n C (pc1 := 1084) 2 d_law_1083 rfl rfl rfl ?_
  refine z_aload_n C (pc1 := 1085) 0 d_law_1084 rfl rfl rfl ?_
  refine z_iload_n C (pc1 := 1086) 3 d_law_1085 rfl rfl rfl ?_
  refine z_iconst C (pc1 := 1087) (v := 1) d_law_1086 rfl (by decide) ?_
  refine z_iadd C (pc1 := 1088) d_law_1087 rfl ?_
  obtain ⟨g5, h⟩ := gdn h
  refine z_sld C (pc1 := 1089) d_law_1088 rfl g5 ?_
  obtain ⟨r7, M8, hq6, h⟩ := bnd2 h
  refine z_callV C (E' := (0, 0, 447)) (pc1 := 1092) (As := [.int (xs ((i + 1) : Int32).toNatClampNeg)]) (rest := []) d_law_1089 rfl mo_Law0_140 mi_Mod_hold mv_Mod_hold sh_401 (by decide) rfl ⟨Nat.le_of_ble_eq_true rfl, Nat.le_of_ble_eq_true rfl⟩ rfl rfl (Nat.le_of_ble_eq_true rfl) ⟨Nat.le_of_ble_eq_true rfl, Nat.le_of_ble_eq_true rfl⟩ rfl ?_
  refine f_Mod_hold hld hq6 ?_
  show Zw l p e s m below meth c bs Lx xs D cA 447 23912 1092 [(0, .ref bs), (1, .ref (s.heap.size + 0)), (2, .ref (s.heap.size + 401)), (3, .int i)] [.int r7] M8 L (rf ld)
  refine z_pop C (pc1 := 1093) d_law_1092 rfl rfl ?_
  refine z_goto C (tgt := 1142) d_law_1093 (by decide) ?_
  obtain ⟨x9, ex9, h⟩ := ltI h
  refine z_iinc C (pc1 := 1145) (v := x9) (lv' := [(0, .ref bs), (1, .ref (s.heap.size + 0)), (2, .ref (s.heap.size + 401)), (3, .int x9)]) d_law_1142 rfl 3 rfl (by rw [ex9]; rfl) (by decide) [1, 2, 3, 0] rfl ?_
  refine z_goto C (tgt := 18) d_law_1145 (by decide) ?_
  exact hK _ _ _ _ hld h
def C_law_30 (xs : Nat → Int32) (Lx : Nat) (K : Int32 → gM → gL → Nat → Option Int32) (i : Int32) (M : gM) (L : gL) (ld : Nat) : Option Int32 :=
  (if ((i + 1) : Int32) < 0 ∨ Lx ≤ ((i + 1) : Int32).toNatClampNeg then none else bI2 (F_Main_restore (xs ((i + 1) : Int32).toNatClampNeg) M) (fun r3 M4 => (if ((i + 1) : Int32) < 0 ∨ Lx ≤ ((i + 1) : Int32).toNatClampNeg then none else bI2 (F_Mod_restore (xs ((i + 1) : Int32).toNatClampNeg) M4) (fun r7 M8 => nmI (i + 6) (fun x9 => K x9 M8 L ld)))))
set_option maxHeartbeats 4000000 in
set_option maxRecDepth 20000 in
theorem c_law_30 {l : Launch} {p : Program} {e : Env} {s : State} {m : MethodId} {below : List Frame} {meth : Method} {c : Code} {bs Lx : Nat} {xs : Nat → Int32} {D : va_G} {cA : Nat → ClassId} (C : ZC p s m meth c bs Lx xs D cA) (K : Int32 → gM → gL → Nat → Option Int32) (hK : ∀ (i : Int32) (M : gM) (L : gL) (ld : Nat), isLa ld → K i M L ld = some 1 → Zw l p e s m below meth c bs Lx xs D cA 447 23912 18 [(0, .ref bs), (1, .ref (s.heap.size + 0)), (2, .ref (s.heap.size + 401)), (3, .int i)] [] M L (rf ld)) {i : Int32} {M : gM} {L : gL} {ld : Nat} (hld : isLa ld) (h : C_law_30 xs Lx K i M L ld = some 1) : Zw l p e s m below meth c bs Lx xs D cA 447 23912 1096 [(0, .ref bs), (1, .ref (s.heap.size + 0)), (2, .ref (s.heap.size + 401)), (3, .int i)] [] M L (rf ld) := by
  unfold C_law_30 at h
  refine z_aload_n C (pc1 := 1097) 1 d_law_1096 rfl rfl rfl ?_
  refine z_aload_n C (pc1 := 1098) 0 d_law_1097 rfl rfl rfl ?_
  refine z_iload_n C (pc1 := 1099) 3 d_law_1098 rfl rfl rfl ?_
  refine z_iconst C (pc1 := 1100) (v := 1) d_law_1099 rfl (by decide) ?_
  refine z_iadd C (pc1 := 1101) d_law_1100 rfl ?_
  obtain ⟨g1, h⟩ := gdn h
  refine z_sld C (pc1 := 1102) d_law_1101 rfl g1 ?_
  obtain ⟨r3, M4, hq2, h⟩ := bnd2 h
  refine z_callV C (E' := (0, 0, 447)) (pc1 := 1105) (As := [.int (xs ((i + 1) : Int32).toNatClampNeg)]) (rest := []) d_law_1102 rfl mo_Law0_141 mi_Main_restore mv_Main_restore sh_0 (by decide) rfl ⟨Nat.le_of_ble_eq_true rfl, Nat.le_of_ble_eq_true rfl⟩ rfl rfl (Nat.le_of_ble_eq_true rfl) ⟨Nat.le_of_ble_eq_true rfl, Nat.le_of_ble_eq_true rfl⟩ rfl ?_
  refine f_Main_restore hld hq2 ?_
  show Zw l p e s m below meth c bs Lx xs D cA 447 23912 1105 [(0, .ref bs), (1, .ref (s.heap.size + 0)), (2, .ref (s.heap.size + 401)), (3, .int i)] [.int r3] M4 L (rf ld)
  refine z_pop C (pc1 := 1106) d_law_1105 rfl rfl ?_
  refine z_aload_n C (pc1 := 1107) 2 d_law_1106 rfl rfl rfl ?_
  refine z_aload_n C (pc1 := 1108) 0 d_law_1107 rfl rfl rfl ?_
  refine z_iload_n C (pc1 := 1109) 3 d_law_1108 rfl rfl rfl ?_
  refine z_iconst C (pc1 := 1110) (v := 1) d_law_1109 rfl (by decide) ?_
  refine z_iadd C (pc1 := 1111) d_law_1110 rfl ?_
  obtain ⟨g5, h⟩ := gdn h
  refine z_sld C (pc1 := 1112) d_law_1111 rfl g5 ?_
  obtain ⟨r7, M8, hq6, h⟩ := bnd2 h
  refine z_callV C (E' := (0, 0, 447)) (pc1 := 1115) (As := [.int (xs ((i + 1) : Int32).toNatClampNeg)]) (rest := []) d_law_1112 rfl mo_Law0_144 mi_Mod_restore mv_Mod_restore sh_401 (by decide) rfl ⟨Nat.le_of_ble_eq_true rfl, Nat.le_of_ble_eq_true rfl⟩ rfl rfl (Nat.le_of_ble_eq_true rfl) ⟨Nat.le_of_ble_eq_true rfl, Nat.le_of_ble_eq_true rfl⟩ rfl ?_
  refine f_Mod_restore hld hq6 ?_
  show Zw l p e s m below meth c bs Lx xs D cA 447 23912 1115 [(0, .ref bs), (1, .ref (s.heap.size + 0)), (2, .ref (s.heap.size + 401)), (3, .int i)] [.int r7] M8 L (rf ld)
  refine z_pop C (pc1 := 1116) d_law_1115 rfl rfl ?_
  refine z_goto C (tgt := 1142) d_law_1116 (by decide) ?_
  obtain ⟨x9, ex9, h⟩ := ltI h
  refine z_iinc C (pc1 := 1145) (v := x9) (lv' := [(0, .ref bs), (1, .ref (s.heap.size + 0)), (2, .ref (s.heap.size + 401)), (3, .int x9)]) d_law_1142 rfl 3 rfl (by rw [ex9]; rfl) (by decide) [1, 2, 3, 0] rfl ?_
  refine z_goto C (tgt := 18) d_law_1145 (by decide) ?_
  exact hK _ _ _ _ hld h
def C_law_31 (xs : Nat → Int32) (Lx : Nat) (K : Int32 → gM → gL → Nat → Option Int32) (i : Int32) (M : gM) (L : gL) (ld : Nat) : Option Int32 :=
  (if ((i + 1) : Int32) < 0 ∨ Lx ≤ ((i + 1) : Int32).toNatClampNeg then none else bI (F_Main_count ld (xs ((i + 1) : Int32).toNatClampNeg) M) (fun r3 => (if ((i + 1) : Int32) < 0 ∨ Lx ≤ ((i + 1) : Int32).toNatClampNeg then none else bI (F_Mod_count (xs ((i + 1) : Int32).toNatClampNeg) M) (fun r6 => nmI (i + 6) (fun x7 => K x7 M L ld)))))
set_option maxHeartbeats 4000000 in
set_option maxRecDepth 20000 in
theorem c_law_31 {l : Launch} {p : Program} {e : Env} {s : State} {m : MethodId} {below : List Frame} {meth : Method} {c : Code} {bs Lx : Nat} {xs : Nat → Int32} {D : va_G} {cA : Nat → ClassId} (C : ZC p s m meth c bs Lx xs D cA) (K : Int32 → gM → gL → Nat → Option Int32) (hK : ∀ (i : Int32) (M : gM) (L : gL) (ld : Nat), isLa ld → K i M L ld = some 1 → Zw l p e s m below meth c bs Lx xs D cA 447 23912 18 [(0, .ref bs), (1, .ref (s.heap.size + 0)), (2, .ref (s.heap.size + 401)), (3, .int i)] [] M L (rf ld)) {i : Int32} {M : gM} {L : gL} {ld : Nat} (hld : isLa ld) (h : C_law_31 xs Lx K i M L ld = some 1) : Zw l p e s m below meth c bs Lx xs D cA 447 23912 1119 [(0, .ref bs), (1, .ref (s.heap.size + 0)), (2, .ref (s.heap.size + 401)), (3, .int i)] [] M L (rf ld) := by
  unfold C_law_31 at h
  refine z_aload_n C (pc1 := 1120) 1 d_law_1119 rfl rfl rfl ?_
  refine z_aload_n C (pc1 := 1121) 0 d_law_1120 rfl rfl rfl ?_
  refine z_iload_n C (pc1 := 1122) 3 d_law_1121 rfl rfl rfl ?_
  refine z_iconst C (pc1 := 1123) (v := 1) d_law_1122 rfl (by decide) ?_
  refine z_iadd C (pc1 := 1124) d_law_1123 rfl ?_
  obtain ⟨g1, h⟩ := gdn h
  refine z_sld C (pc1 := 1125) d_law_1124 rfl g1 ?_
  obtain ⟨r3, hq2, h⟩ := bnd h
  refine z_callV C (E' := (0, 0, 447)) (pc1 := 1128) (As := [.int (xs ((i + 1) : Int32).toNatClampNeg)]) (rest := []) d_law_1125 rfl mo_Law0_145 mi_Main_count mv_Main_count sh_0 (by decide) rfl ⟨Nat.le_of_ble_eq_true rfl, Nat.le_of_ble_eq_true rfl⟩ rfl rfl (Nat.le_of_ble_eq_true rfl) ⟨Nat.le_of_ble_eq_true rfl, Nat.le_of_ble_eq_true rfl⟩ rfl ?_
  refine f_Main_count hld hq2 ?_
  show Zw l p e s m below meth c bs Lx xs D cA 447 23912 1128 [(0, .ref bs), (1, .ref (s.heap.size + 0)), (2, .ref (s.heap.size + 401)), (3, .int i)] [.int r3] M L (rf ld)
  refine z_pop C (pc1 := 1129) d_law_1128 rfl rfl ?_
  refine z_aload_n C (pc1 := 1130) 2 d_law_1129 rfl rfl rfl ?_
  refine z_aload_n C (pc1 := 1131) 0 d_law_1130 rfl rfl rfl ?_
  refine z_iload_n C (pc1 := 1132) 3 d_law_1131 rfl rfl rfl ?_
  refine z_iconst C (pc1 := 1133) (v := 1) d_law_1132 rfl (by decide) ?_
  refine z_iadd C (pc1 := 1134) d_law_1133 rfl ?_
  obtain ⟨g4, h⟩ := gdn h
  refine z_sld C (pc1 := 1135) d_law_1134 rfl g4 ?_
  obtain ⟨r6, hq5, h⟩ := bnd h
  refine z_callV C (E' := (0, 0, 447)) (pc1 := 1138) (As := [.int (xs ((i + 1) : Int32).toNatClampNeg)]) (rest := []) d_law_1135 rfl mo_Law0_148 mi_Mod_count mv_Mod_count sh_401 (by decide) rfl ⟨Nat.le_of_ble_eq_true rfl, Nat.le_of_ble_eq_true rfl⟩ rfl rfl (Nat.le_of_ble_eq_true rfl) ⟨Nat.le_of_ble_eq_true rfl, Nat.le_of_ble_eq_true rfl⟩ rfl ?_
  refine f_Mod_count hld hq5 ?_
  show Zw l p e s m below meth c bs Lx xs D cA 447 23912 1138 [(0, .ref bs), (1, .ref (s.heap.size + 0)), (2, .ref (s.heap.size + 401)), (3, .int i)] [.int r6] M L (rf ld)
  refine z_pop C (pc1 := 1139) d_law_1138 rfl rfl ?_
  refine z_goto C (tgt := 1142) d_law_1139 (by decide) ?_
  obtain ⟨x7, ex7, h⟩ := ltI h
  refine z_iinc C (pc1 := 1145) (v := x7) (lv' := [(0, .ref bs), (1, .ref (s.heap.size + 0)), (2, .ref (s.heap.size + 401)), (3, .int x7)]) d_law_1142 rfl 3 rfl (by rw [ex7]; rfl) (by decide) [1, 2, 3, 0] rfl ?_
  refine z_goto C (tgt := 18) d_law_1145 (by decide) ?_
  exact hK _ _ _ _ hld h
def B_law (xs : Nat → Int32) (Lx : Nat) (K : Int32 → gM → gL → Nat → Option Int32) : Int32 → gM → gL → Nat → Option Int32 := fun i M L ld =>
  (if (Int32.ofNat Lx - 6) < i then some 1 else (if (i : Int32) < 0 ∨ Lx ≤ (i : Int32).toNatClampNeg then none else (if (xs (i : Int32).toNatClampNeg &&& 31) = 0 then C_law_0 xs Lx K i M L ld else (if (xs (i : Int32).toNatClampNeg &&& 31) = 1 then C_law_1 xs Lx K i M L ld else (if (xs (i : Int32).toNatClampNeg &&& 31) = 2 then C_law_2 xs Lx K i M L ld else (if (xs (i : Int32).toNatClampNeg &&& 31) = 3 then C_law_3 xs Lx K i M L ld else (if (xs (i : Int32).toNatClampNeg &&& 31) = 4 then C_law_4 xs Lx K i M L ld else (if (xs (i : Int32).toNatClampNeg &&& 31) = 5 then C_law_5 xs Lx K i M L ld else (if (xs (i : Int32).toNatClampNeg &&& 31) = 6 then C_law_6 xs Lx K i M L ld else (if (xs (i : Int32).toNatClampNeg &&& 31) = 7 then C_law_7 xs Lx K i M L ld else (if (xs (i : Int32).toNatClampNeg &&& 31) = 8 then C_law_8 xs Lx K i M L ld else (if (xs (i : Int32).toNatClampNeg &&& 31) = 9 then C_law_9 xs Lx K i M L ld else (if (xs (i : Int32).toNatClampNeg &&& 31) = 10 then C_law_10 xs Lx K i M L ld else (if (xs (i : Int32).toNatClampNeg &&& 31) = 11 then C_law_11 xs Lx K i M L ld else (if (xs (i : Int32).toNatClampNeg &&& 31) = 12 then C_law_12 xs Lx K i M L ld else (if (xs (i : Int32).toNatClampNeg &&& 31) = 13 then C_law_13 xs Lx K i M L ld else (if (xs (i : Int32).toNatClampNeg &&& 31) = 14 then C_law_14 xs Lx K i M L ld else (if (xs (i : Int32).toNatClampNeg &&& 31) = 15 then C_law_15 xs Lx K i M L ld else (if (xs (i : Int32).toNatClampNeg &&& 31) = 16 then C_law_16 xs Lx K i M L ld else (if (xs (i : Int32).toNatClampNeg &&& 31) = 17 then C_law_17 xs Lx K i M L ld else (if (xs (i : Int32).toNatClampNeg &&& 31) = 18 then C_law_18 xs Lx K i M L ld else (if (xs (i : Int32).toNatClampNeg &&& 31) = 19 then C_law_19 xs Lx K i M L ld else (if (xs (i : Int32).toNatClampNeg &&& 31) = 20 then C_law_20 xs Lx K i M L ld else (if (xs (i : Int32).toNatClampNeg &&& 31) = 21 then C_law_21 xs Lx K i M L ld else (if (xs (i : Int32).toNatClampNeg &&& 31) = 22 then C_law_22 xs Lx K i M L ld else (if (xs (i : Int32).toNatClampNeg &&& 31) = 23 then C_law_23 xs Lx K i M L ld else (if (xs (i : Int32).toNatClampNeg &&& 31) = 24 then C_law_24 xs Lx K i M L ld else (if (xs (i : Int32).toNatClampNeg &&& 31) = 25 then C_law_25 xs Lx K i M L ld else (if (xs (i : Int32).toNatClampNeg &&& 31) = 26 then C_law_26 xs Lx K i M L ld else (if (xs (i : Int32).toNatClampNeg &&& 31) = 27 then C_law_27 xs Lx K i M L ld else (if (xs (i : Int32).toNatClampNeg &&& 31) = 28 then C_law_28 xs Lx K i M L ld else (if (xs (i : Int32).toNatClampNeg &&& 31) = 29 then C_law_29 xs Lx K i M L ld else (if (xs (i : Int32).toNatClampNeg &&& 31) = 30 then C_law_30 xs Lx K i M L ld else (if (xs (i : Int32).toNatClampNeg &&& 31) = 31 then C_law_31 xs Lx K i M L ld else nmI (i + 6) (fun x => K x M L ld)))))))))))))))))))))))))))))))))))
def H_law (xs : Nat → Int32) (Lx : Nat) : Nat → Int32 → gM → gL → Nat → Option Int32 := lpK (B_law xs Lx) (fun _ _ _ _ => none)
set_option maxHeartbeats 4000000 in
set_option maxRecDepth 20000 in
theorem h_law {l : Launch} {p : Program} {e : Env} {s : State} {m : MethodId} {below : List Frame} {meth : Method} {c : Code} {bs Lx : Nat} {xs : Nat → Int32} {D : va_G} {cA : Nat → ClassId} (C : ZC p s m meth c bs Lx xs D cA) : ∀ (f : Nat) (i : Int32) (M : gM) (L : gL) (ld : Nat), isLa ld → H_law xs Lx f i M L ld = some 1 → Zw l p e s m below meth c bs Lx xs D cA 447 23912 18 [(0, .ref bs), (1, .ref (s.heap.size + 0)), (2, .ref (s.heap.size + 401)), (3, .int i)] [] M L (rf ld) := by
  intro f
  induction f with
  | zero => intro i M L ld hld h; cases h
  | succ f hK =>
    intro i M L ld hld h
    replace h : B_law xs Lx (H_law xs Lx f) i M L ld = some 1 := h
    unfold B_law at h
    refine z_iload_n C (pc1 := 19) 3 d_law_18 rfl rfl rfl ?_
    refine z_aload_n C (pc1 := 20) 0 d_law_19 rfl rfl rfl ?_
    refine z_slen C (pc1 := 21) d_law_20 rfl ?_
    refine z_bipush C (pc1 := 23) (v := 6) d_law_21 rfl (by decide) ?_
    refine z_isub C (pc1 := 24) d_law_23 rfl ?_
    refine z_icmp_gt C (pc1 := 27) (tgt := 1148) d_law_24 (by decide) rfl (fun hc => ?_) (fun hc => ?_)
    · refine z_iconst C (pc1 := 1149) (v := 1) d_law_1148 rfl (by decide) ?_
      exact z_end C d_law_1149 (Nat.le_of_ble_eq_true rfl) (Nat.le_of_ble_eq_true rfl)
    replace h := itn h hc
    obtain ⟨g, h⟩ := gdn h
    refine z_aload_n C (pc1 := 28) 0 d_law_27 rfl rfl rfl ?_
    refine z_iload_n C (pc1 := 29) 3 d_law_28 rfl rfl rfl ?_
    refine z_sld C (pc1 := 30) d_law_29 rfl g ?_
    refine z_bipush C (pc1 := 32) (v := 31) d_law_30 rfl (by decide) ?_
    refine z_iand C (pc1 := 33) d_law_32 rfl ?_
    by_cases c0 : (xs (i : Int32).toNatClampNeg &&& 31) = 0
    · exact z_tabK C (tgt := 176) (off := 143) d_law_33 c0 (by decide) (by decide) (by decide) (by decide) (c_law_0 C (H_law xs Lx f) hK hld (itp h c0))
    replace h := itn h c0
    by_cases c1 : (xs (i : Int32).toNatClampNeg &&& 31) = 1
    · exact z_tabK C (tgt := 239) (off := 206) d_law_33 c1 (by decide) (by decide) (by decide) (by decide) (c_law_1 C (H_law xs Lx f) hK hld (itp h c1))
    replace h := itn h c1
    by_cases c2 : (xs (i : Int32).toNatClampNeg &&& 31) = 2
    · exact z_tabK C (tgt := 262) (off := 229) d_law_33 c2 (by decide) (by decide) (by decide) (by decide) (c_law_2 C (H_law xs Lx f) hK hld (itp h c2))
    replace h := itn h c2
    by_cases c3 : (xs (i : Int32).toNatClampNeg &&& 31) = 3
    · exact z_tabK C (tgt := 275) (off := 242) d_law_33 c3 (by decide) (by decide) (by decide) (by decide) (c_law_3 C (H_law xs Lx f) hK hld (itp h c3))
    replace h := itn h c3
    by_cases c4 : (xs (i : Int32).toNatClampNeg &&& 31) = 4
    · exact z_tabK C (tgt := 288) (off := 255) d_law_33 c4 (by decide) (by decide) (by decide) (by decide) (c_law_4 C (H_law xs Lx f) hK hld (itp h c4))
    replace h := itn h c4
    by_cases c5 : (xs (i : Int32).toNatClampNeg &&& 31) = 5
    · exact z_tabK C (tgt := 321) (off := 288) d_law_33 c5 (by decide) (by decide) (by decide) (by decide) (c_law_5 C (H_law xs Lx f) hK hld (itp h c5))
    replace h := itn h c5
    by_cases c6 : (xs (i : Int32).toNatClampNeg &&& 31) = 6
    · exact z_tabK C (tgt := 354) (off := 321) d_law_33 c6 (by decide) (by decide) (by decide) (by decide) (c_law_6 C (H_law xs Lx f) hK hld (itp h c6))
    replace h := itn h c6
    by_cases c7 : (xs (i : Int32).toNatClampNeg &&& 31) = 7
    · exact z_tabK C (tgt := 387) (off := 354) d_law_33 c7 (by decide) (by decide) (by decide) (by decide) (c_law_7 C (H_law xs Lx f) hK hld (itp h c7))
    replace h := itn h c7
    by_cases c8 : (xs (i : Int32).toNatClampNeg &&& 31) = 8
    · exact z_tabK C (tgt := 420) (off := 387) d_law_33 c8 (by decide) (by decide) (by decide) (by decide) (c_law_8 C (H_law xs Lx f) hK hld (itp h c8))
    replace h := itn h c8
    by_cases c9 : (xs (i : Int32).toNatClampNeg &&& 31) = 9
    · exact z_tabK C (tgt := 453) (off := 420) d_law_33 c9 (by decide) (by decide) (by decide) (by decide) (c_law_9 C (H_law xs Lx f) hK hld (itp h c9))
    replace h := itn h c9
    by_cases c10 : (xs (i : Int32).toNatClampNeg &&& 31) = 10
    · exact z_tabK C (tgt := 476) (off := 443) d_law_33 c10 (by decide) (by decide) (by decide) (by decide) (c_law_10 C (H_law xs Lx f) hK hld (itp h c10))
    replace h := itn h c10
    by_cases c11 : (xs (i : Int32).toNatClampNeg &&& 31) = 11
    · exact z_tabK C (tgt := 499) (off := 466) d_law_33 c11 (by decide) (by decide) (by decide) (by decide) (c_law_11 C (H_law xs Lx f) hK hld (itp h c11))
    replace h := itn h c11
    by_cases c12 : (xs (i : Int32).toNatClampNeg &&& 31) = 12
    · exact z_tabK C (tgt := 522) (off := 489) d_law_33 c12 (by decide) (by decide) (by decide) (by decide) (c_law_12 C (H_law xs Lx f) hK hld (itp h c12))
    replace h := itn h c12
    by_cases c13 : (xs (i : Int32).toNatClampNeg &&& 31) = 13
    · exact z_tabK C (tgt := 535) (off := 502) d_law_33 c13 (by decide) (by decide) (by decide) (by decide) (c_law_13 C (H_law xs Lx f) hK hld (itp h c13))
    replace h := itn h c13
    by_cases c14 : (xs (i : Int32).toNatClampNeg &&& 31) = 14
    · exact z_tabK C (tgt := 588) (off := 555) d_law_33 c14 (by decide) (by decide) (by decide) (by decide) (c_law_14 C (H_law xs Lx f) hK hld (itp h c14))
    replace h := itn h c14
    by_cases c15 : (xs (i : Int32).toNatClampNeg &&& 31) = 15
    · exact z_tabK C (tgt := 621) (off := 588) d_law_33 c15 (by decide) (by decide) (by decide) (by decide) (c_law_15 C (H_law xs Lx f) hK hld (itp h c15))
    replace h := itn h c15
    by_cases c16 : (xs (i : Int32).toNatClampNeg &&& 31) = 16
    · exact z_tabK C (tgt := 654) (off := 621) d_law_33 c16 (by decide) (by decide) (by decide) (by decide) (c_law_16 C (H_law xs Lx f) hK hld (itp h c16))
    replace h := itn h c16
    by_cases c17 : (xs (i : Int32).toNatClampNeg &&& 31) = 17
    · exact z_tabK C (tgt := 667) (off := 634) d_law_33 c17 (by decide) (by decide) (by decide) (by decide) (c_law_17 C (H_law xs Lx f) hK hld (itp h c17))
    replace h := itn h c17
    by_cases c18 : (xs (i : Int32).toNatClampNeg &&& 31) = 18
    · exact z_tabK C (tgt := 710) (off := 677) d_law_33 c18 (by decide) (by decide) (by decide) (by decide) (c_law_18 C (H_law xs Lx f) hK hld (itp h c18))
    replace h := itn h c18
    by_cases c19 : (xs (i : Int32).toNatClampNeg &&& 31) = 19
    · exact z_tabK C (tgt := 763) (off := 730) d_law_33 c19 (by decide) (by decide) (by decide) (by decide) (c_law_19 C (H_law xs Lx f) hK hld (itp h c19))
    replace h := itn h c19
    by_cases c20 : (xs (i : Int32).toNatClampNeg &&& 31) = 20
    · exact z_tabK C (tgt := 786) (off := 753) d_law_33 c20 (by decide) (by decide) (by decide) (by decide) (c_law_20 C (H_law xs Lx f) hK hld (itp h c20))
    replace h := itn h c20
    by_cases c21 : (xs (i : Int32).toNatClampNeg &&& 31) = 21
    · exact z_tabK C (tgt := 819) (off := 786) d_law_33 c21 (by decide) (by decide) (by decide) (by decide) (c_law_21 C (H_law xs Lx f) hK hld (itp h c21))
    replace h := itn h c21
    by_cases c22 : (xs (i : Int32).toNatClampNeg &&& 31) = 22
    · exact z_tabK C (tgt := 852) (off := 819) d_law_33 c22 (by decide) (by decide) (by decide) (by decide) (c_law_22 C (H_law xs Lx f) hK hld (itp h c22))
    replace h := itn h c22
    by_cases c23 : (xs (i : Int32).toNatClampNeg &&& 31) = 23
    · exact z_tabK C (tgt := 895) (off := 862) d_law_33 c23 (by decide) (by decide) (by decide) (by decide) (c_law_23 C (H_law xs Lx f) hK hld (itp h c23))
    replace h := itn h c23
    by_cases c24 : (xs (i : Int32).toNatClampNeg &&& 31) = 24
    · exact z_tabK C (tgt := 948) (off := 915) d_law_33 c24 (by decide) (by decide) (by decide) (by decide) (c_law_24 C (H_law xs Lx f) hK hld (itp h c24))
    replace h := itn h c24
    by_cases c25 : (xs (i : Int32).toNatClampNeg &&& 31) = 25
    · exact z_tabK C (tgt := 991) (off := 958) d_law_33 c25 (by decide) (by decide) (by decide) (by decide) (c_law_25 C (H_law xs Lx f) hK hld (itp h c25))
    replace h := itn h c25
    by_cases c26 : (xs (i : Int32).toNatClampNeg &&& 31) = 26
    · exact z_tabK C (tgt := 1004) (off := 971) d_law_33 c26 (by decide) (by decide) (by decide) (by decide) (c_law_26 C (H_law xs Lx f) hK hld (itp h c26))
    replace h := itn h c26
    by_cases c27 : (xs (i : Int32).toNatClampNeg &&& 31) = 27
    · exact z_tabK C (tgt := 1027) (off := 994) d_law_33 c27 (by decide) (by decide) (by decide) (by decide) (c_law_27 C (H_law xs Lx f) hK hld (itp h c27))
    replace h := itn h c27
    by_cases c28 : (xs (i : Int32).toNatClampNeg &&& 31) = 28
    · exact z_tabK C (tgt := 1050) (off := 1017) d_law_33 c28 (by decide) (by decide) (by decide) (by decide) (c_law_28 C (H_law xs Lx f) hK hld (itp h c28))
    replace h := itn h c28
    by_cases c29 : (xs (i : Int32).toNatClampNeg &&& 31) = 29
    · exact z_tabK C (tgt := 1073) (off := 1040) d_law_33 c29 (by decide) (by decide) (by decide) (by decide) (c_law_29 C (H_law xs Lx f) hK hld (itp h c29))
    replace h := itn h c29
    by_cases c30 : (xs (i : Int32).toNatClampNeg &&& 31) = 30
    · exact z_tabK C (tgt := 1096) (off := 1063) d_law_33 c30 (by decide) (by decide) (by decide) (by decide) (c_law_30 C (H_law xs Lx f) hK hld (itp h c30))
    replace h := itn h c30
    by_cases c31 : (xs (i : Int32).toNatClampNeg &&& 31) = 31
    · exact z_tabK C (tgt := 1119) (off := 1086) d_law_33 c31 (by decide) (by decide) (by decide) (by decide) (c_law_31 C (H_law xs Lx f) hK hld (itp h c31))
    replace h := itn h c31
    exact absurd (op_32 (xs i.toNatClampNeg)) (by
      intro hh
      rcases hh with hh | hh | hh | hh | hh | hh | hh | hh | hh | hh | hh | hh | hh | hh | hh | hh | hh | hh | hh | hh | hh | hh | hh | hh | hh | hh | hh | hh | hh | hh | hh | hh
      · exact c0 hh
      · exact c1 hh
      · exact c2 hh
      · exact c3 hh
      · exact c4 hh
      · exact c5 hh
      · exact c6 hh
      · exact c7 hh
      · exact c8 hh
      · exact c9 hh
      · exact c10 hh
      · exact c11 hh
      · exact c12 hh
      · exact c13 hh
      · exact c14 hh
      · exact c15 hh
      · exact c16 hh
      · exact c17 hh
      · exact c18 hh
      · exact c19 hh
      · exact c20 hh
      · exact c21 hh
      · exact c22 hh
      · exact c23 hh
      · exact c24 hh
      · exact c25 hh
      · exact c26 hh
      · exact c27 hh
      · exact c28 hh
      · exact c29 hh
      · exact c30 hh
      · exact c31 hh
      )
