def J_Mod_pot_156 (v4 : Int32) (M : gM) : Option (Int32 × gM) :=
  (if 0 ≤ (M 401 59) then (if v4 = 0 then some ((M 401 60), M) else (if v4 = 1 then some ((M 401 62), M) else bI (F_Mod_sevens (7 - v4)) (fun r24 => (if r24 = 0 then none else some ((((M 401 59) / r24) - ((M 401 59) / r24) / 7 * 7), M))))) else some ((-2), M))
set_option maxHeartbeats 4000000 in
set_option maxRecDepth 20000 in
theorem j_Mod_pot_156 {l : Launch} {ld : Nat} {Q : Option Value → gM → gL → gR → Prop} (hld : isLa ld)   {q : Int32 × gM} {M : gM} {L : gL} (hQ : Q (some (.int q.1)) q.2 L (rf ld))  {v4 : Int32}  (h : J_Mod_pot_156 v4 M = some q) : Wp l y_Mod_pot (0, 0, 447) 447 0 0 156 [(0, .ref 401), (4, .int v4)] [] M L (rf ld) Q := by
  unfold J_Mod_pot_156 at h
  refine g_aload_n (pc1 := 157) d_Mod_pot_156 rfl 0 rfl ?_
  refine g_geti (pc1 := 160) d_Mod_pot_157 rfl ⟨_, fo_Mod_404⟩ sh_401 (by decide) ?_
  refine g_if_ge (pc1 := 163) (tgt := 166) d_Mod_pot_160 (by decide) rfl (fun c20 => ?_) (fun c20 => ?_)
  · replace h := itp h c20
    refine g_iload (pc1 := 168) d_Mod_pot_166 rfl 1 rfl ?_
    refine g_if_ne (pc1 := 171) (tgt := 178) d_Mod_pot_168 (by decide) rfl (fun c21 => ?_) (fun c21 => ?_)
    · replace h := itn h c21
      refine g_iload (pc1 := 180) d_Mod_pot_178 rfl 1 rfl ?_
      refine g_iconst (pc1 := 181) (v := 1) d_Mod_pot_180 rfl (by decide) ?_
      refine g_icmp_ne (pc1 := 184) (tgt := 191) d_Mod_pot_181 (by decide) rfl (fun c22 => ?_) (fun c22 => ?_)
      · replace h := itn h c22
        refine g_aload_n (pc1 := 192) d_Mod_pot_191 rfl 0 rfl ?_
        refine g_geti (pc1 := 195) d_Mod_pot_192 rfl ⟨_, fo_Mod_404⟩ sh_401 (by decide) ?_
        refine g_bipush (pc1 := 197) (v := 7) d_Mod_pot_195 rfl (by decide) ?_
        refine g_iload (pc1 := 199) d_Mod_pot_197 rfl 1 rfl ?_
        refine g_isub (pc1 := 200) d_Mod_pot_199 rfl ?_
        refine g_callS0 (pc1 := 203) (As := [.int (7 - v4)]) (rest := [.int (M 401 59)]) d_Mod_pot_200 rfl mo_Mod_401 ms_Mod_sevens (by decide) rfl rfl (Nat.le_of_ble_eq_true rfl) ?_
        obtain ⟨r24, hq23, h⟩ := bnd h
        refine f_Mod_sevens hld  hq23 ?_
        dsimp only [psh]
        obtain ⟨g25, h⟩ := gdn h
        refine g_idiv (pc1 := 204) d_Mod_pot_203 rfl g25 ?_
        refine g_bipush (pc1 := 206) (v := 7) d_Mod_pot_204 rfl (by decide) ?_
        refine g_irem (pc1 := 207) d_Mod_pot_206 rfl (by decide) ?_
        refine g_ireturn (Or.inl rfl) d_Mod_pot_207 rfl ?_
        cases h; exact hQ
      · replace h := itp h c22
        refine g_aload_n (pc1 := 185) d_Mod_pot_184 rfl 0 rfl ?_
        refine g_geti (pc1 := 188) d_Mod_pot_185 rfl ⟨_, fo_Mod_413⟩ sh_401 (by decide) ?_
        refine g_goto (tgt := 207) d_Mod_pot_188 (by decide) ?_
        refine g_ireturn (Or.inl rfl) d_Mod_pot_207 rfl ?_
        cases h; exact hQ
    · replace h := itp h c21
      refine g_aload_n (pc1 := 172) d_Mod_pot_171 rfl 0 rfl ?_
      refine g_geti (pc1 := 175) d_Mod_pot_172 rfl ⟨_, fo_Mod_407⟩ sh_401 (by decide) ?_
      refine g_goto (tgt := 207) d_Mod_pot_175 (by decide) ?_
      refine g_ireturn (Or.inl rfl) d_Mod_pot_207 rfl ?_
      cases h; exact hQ
  · replace h := itn h c20
    refine g_bipush (pc1 := 165) (v := (-2)) d_Mod_pot_163 rfl (by decide) ?_
    refine g_ireturn (Or.inl rfl) d_Mod_pot_165 rfl ?_
    cases h; exact hQ
def J_Mod_pot_150 (K61 : Int32 → gM → Option (Int32 × gM)) (v1 : Int32) (v2 : Int32) (v3 : Int32) (v4 : Int32) (v5 : Int32) (M : gM) : Option (Int32 × gM) :=
  nmI (v5 + (-1)) (fun x30 => K61 x30 M)
set_option maxHeartbeats 4000000 in
set_option maxRecDepth 20000 in
theorem j_Mod_pot_150 {l : Launch} {ld : Nat} {Q : Option Value → gM → gL → gR → Prop} (hld : isLa ld)   {q : Int32 × gM} {M : gM} {L : gL} (hQ : Q (some (.int q.1)) q.2 L (rf ld)) {K61 : Int32 → gM → Option (Int32 × gM)} {v1 : Int32} {v2 : Int32} {v3 : Int32} {v4 : Int32} {v5 : Int32} (hK61 : ∀ (w5 : Int32) (M : gM), K61 w5 M = some q → Wp l y_Mod_pot (0, 0, 447) 447 0 0 61 [(0, .ref 401), (1, .int v1), (2, .int v2), (3, .int v3), (4, .int v4), (5, .int w5)] [] M L (rf ld) Q) (h : J_Mod_pot_150 K61 v1 v2 v3 v4 v5 M = some q) : Wp l y_Mod_pot (0, 0, 447) 447 0 0 150 [(0, .ref 401), (1, .int v1), (2, .int v2), (3, .int v3), (4, .int v4), (5, .int v5)] [] M L (rf ld) Q := by
  unfold J_Mod_pot_150 at h
  obtain ⟨x30, ex30, h⟩ := ltI h
  refine g_iinc (pc1 := 153) (v := x30) (lv' := [(0, .ref 401), (1, .int v1), (2, .int v2), (3, .int v3), (4, .int v4), (5, .int x30)]) d_Mod_pot_150 rfl 5 rfl (by rw [ex30]; rfl) (by decide) [1, 2, 3, 4, 5, 0] rfl ?_
  refine g_goto (tgt := 61) d_Mod_pot_153 (by decide) ?_
  exact hK61 x30 M h
def J_Mod_pot_96 (K61 : Int32 → gM → Option (Int32 × gM)) (v1 : Int32) (v2 : Int32) (v3 : Int32) (v4 : Int32) (v5 : Int32) (M : gM) : Option (Int32 × gM) :=
  bI2 (F_Mod_potAt v1 v2 v3 M) (fun r33 M34 => (if r33 < 0 then J_Mod_pot_150 K61 v1 v2 v3 v4 v5 M34 else bI (F_Mod_isBetter r33 M34) (fun r37 => (if r37 = 0 then J_Mod_pot_150 K61 v1 v2 v3 v4 v5 M34 else nmM (uM M34 401 59 v5) (fun M39 => bI (F_Mod_potPrice M39) (fun r41 => nmM (uM M39 401 60 r41) (fun M42 => bI (F_Mod_potMany M42) (fun r44 => nmM (uM M42 401 61 r44) (fun M45 => nmM (uM M45 401 62 r33) (fun M46 => J_Mod_pot_150 K61 v1 v2 v3 v4 v5 M46))))))))))
set_option maxHeartbeats 4000000 in
set_option maxRecDepth 20000 in
theorem j_Mod_pot_96 {l : Launch} {ld : Nat} {Q : Option Value → gM → gL → gR → Prop} (hld : isLa ld)   {q : Int32 × gM} {M : gM} {L : gL} (hQ : Q (some (.int q.1)) q.2 L (rf ld)) {K61 : Int32 → gM → Option (Int32 × gM)} {v1 : Int32} {v2 : Int32} {v3 : Int32} {v4 : Int32} {v5 : Int32} (hK61 : ∀ (w5 : Int32) (M : gM), K61 w5 M = some q → Wp l y_Mod_pot (0, 0, 447) 447 0 0 61 [(0, .ref 401), (1, .int v1), (2, .int v2), (3, .int v3), (4, .int v4), (5, .int w5)] [] M L (rf ld) Q) (h : J_Mod_pot_96 K61 v1 v2 v3 v4 v5 M = some q) : Wp l y_Mod_pot (0, 0, 447) 447 0 0 96 [(0, .ref 401), (1, .int v1), (2, .int v2), (3, .int v3), (4, .int v4), (5, .int v5)] [] M L (rf ld) Q := by
  unfold J_Mod_pot_96 at h
  refine g_aload_n (pc1 := 97) d_Mod_pot_96 rfl 0 rfl ?_
  refine g_iload_n (pc1 := 98) d_Mod_pot_97 rfl 1 rfl ?_
  refine g_iload_n (pc1 := 99) d_Mod_pot_98 rfl 2 rfl ?_
  refine g_iload_n (pc1 := 100) d_Mod_pot_99 rfl 3 rfl ?_
  refine g_callV0 (pc1 := 103) (As := [.int v1, .int v2, .int v3]) (rest := []) d_Mod_pot_100 rfl mo_Mod_419 mi_Mod_potAt mv_Mod_potAt rfl sh_401 (by decide) (by decide) rfl rfl (Nat.le_of_ble_eq_true rfl) ?_
  obtain ⟨r33, M34, hq32, h⟩ := bnd2 h
  refine f_Mod_potAt hld  hq32 ?_
  dsimp only [psh]
  refine g_istore (pc1 := 105) (lv' := [(0, .ref 401), (1, .int v1), (2, .int v2), (3, .int v3), (4, .int v4), (5, .int v5), (6, .int r33)]) d_Mod_pot_103 rfl (by decide) [1, 2, 3, 4, 5, 6, 0] rfl ?_
  refine g_iload (pc1 := 107) d_Mod_pot_105 rfl 6 rfl ?_
  refine g_if_lt (pc1 := 110) (tgt := 150) d_Mod_pot_107 (by decide) rfl (fun c35 => ?_) (fun c35 => ?_)
  · replace h := itp h c35
    refine Wp.loc (lv' := [(0, .ref 401), (1, .int v1), (2, .int v2), (3, .int v3), (4, .int v4), (5, .int v5)]) [0, 1, 2, 3, 4, 5] rfl ?_
    exact j_Mod_pot_150 hld  hQ hK61 h
  · replace h := itn h c35
    refine g_aload_n (pc1 := 111) d_Mod_pot_110 rfl 0 rfl ?_
    refine g_iload (pc1 := 113) d_Mod_pot_111 rfl 6 rfl ?_
    refine g_callV0 (pc1 := 116) (As := [.int r33]) (rest := []) d_Mod_pot_113 rfl mo_Mod_422 mi_Mod_isBetter mv_Mod_isBetter rfl sh_401 (by decide) (by decide) rfl rfl (Nat.le_of_ble_eq_true rfl) ?_
    obtain ⟨r37, hq36, h⟩ := bnd h
    refine f_Mod_isBetter hld  hq36 ?_
    dsimp only [psh]
    refine g_if_ne (pc1 := 119) (tgt := 122) d_Mod_pot_116 (by decide) rfl (fun c38 => ?_) (fun c38 => ?_)
    · replace h := itn h c38
      refine g_aload_n (pc1 := 123) d_Mod_pot_122 rfl 0 rfl ?_
      refine g_iload (pc1 := 125) d_Mod_pot_123 rfl 5 rfl ?_
      refine g_puti (pc1 := 128) d_Mod_pot_125 rfl fo_Mod_404 (po_12_59 _) sh_401 (by decide) ?_
      refine Wp.lM h (fun M39 h => ?_)
      refine g_aload_n (pc1 := 129) d_Mod_pot_128 rfl 0 rfl ?_
      refine g_aload_n (pc1 := 130) d_Mod_pot_129 rfl 0 rfl ?_
      refine g_callV0 (pc1 := 133) (As := []) (rest := [.ref 401]) d_Mod_pot_130 rfl mo_Mod_362 mi_Mod_potPrice mv_Mod_potPrice rfl sh_401 (by decide) (by decide) rfl rfl (Nat.le_of_ble_eq_true rfl) ?_
      obtain ⟨r41, hq40, h⟩ := bnd h
      refine f_Mod_potPrice hld  hq40 ?_
      dsimp only [psh]
      refine g_puti (pc1 := 136) d_Mod_pot_133 rfl fo_Mod_407 (po_12_60 _) sh_401 (by decide) ?_
      refine Wp.lM h (fun M42 h => ?_)
      refine g_aload_n (pc1 := 137) d_Mod_pot_136 rfl 0 rfl ?_
      refine g_aload_n (pc1 := 138) d_Mod_pot_137 rfl 0 rfl ?_
      refine g_callV0 (pc1 := 141) (As := []) (rest := [.ref 401]) d_Mod_pot_138 rfl mo_Mod_339 mi_Mod_potMany mv_Mod_potMany rfl sh_401 (by decide) (by decide) rfl rfl (Nat.le_of_ble_eq_true rfl) ?_
      obtain ⟨r44, hq43, h⟩ := bnd h
      refine f_Mod_potMany hld  hq43 ?_
      dsimp only [psh]
      refine g_puti (pc1 := 144) d_Mod_pot_141 rfl fo_Mod_410 (po_12_61 _) sh_401 (by decide) ?_
      refine Wp.lM h (fun M45 h => ?_)
      refine g_aload_n (pc1 := 145) d_Mod_pot_144 rfl 0 rfl ?_
      refine g_iload (pc1 := 147) d_Mod_pot_145 rfl 6 rfl ?_
      refine g_puti (pc1 := 150) d_Mod_pot_147 rfl fo_Mod_413 (po_12_62 _) sh_401 (by decide) ?_
      refine Wp.lM h (fun M46 h => ?_)
      refine Wp.loc (lv' := [(0, .ref 401), (1, .int v1), (2, .int v2), (3, .int v3), (4, .int v4), (5, .int v5)]) [0, 1, 2, 3, 4, 5] rfl ?_
      exact j_Mod_pot_150 hld  hQ hK61 h
    · replace h := itp h c38
      refine g_goto (tgt := 150) d_Mod_pot_119 (by decide) ?_
      refine Wp.loc (lv' := [(0, .ref 401), (1, .int v1), (2, .int v2), (3, .int v3), (4, .int v4), (5, .int v5)]) [0, 1, 2, 3, 4, 5] rfl ?_
      exact j_Mod_pot_150 hld  hQ hK61 h
def B_Mod_pot_61 (v1 : Int32) (v2 : Int32) (v3 : Int32) (v4 : Int32) (K61 : Int32 → gM → Option (Int32 × gM)) : Int32 → gM → Option (Int32 × gM) := fun v5 M =>
  (if v5 ≤ 0 then J_Mod_pot_156 v4 M else bI2 (F_Mod_isPot v5 M) (fun r27 M28 => (if r27 = 0 then J_Mod_pot_150 K61 v1 v2 v3 v4 v5 M28 else (if (M28 401 59) < 0 then J_Mod_pot_96 K61 v1 v2 v3 v4 v5 M28 else bI (F_Mod_potPrice M28) (fun r48 => (if r48 ≤ (M28 401 60) then J_Mod_pot_96 K61 v1 v2 v3 v4 v5 M28 else J_Mod_pot_150 K61 v1 v2 v3 v4 v5 M28))))))
def H_Mod_pot_61 (v1 : Int32) (v2 : Int32) (v3 : Int32) (v4 : Int32) : Nat → Int32 → gM → Option (Int32 × gM) := lpK (B_Mod_pot_61 v1 v2 v3 v4) (fun _ _ => none)
set_option maxHeartbeats 4000000 in
set_option maxRecDepth 20000 in
theorem h_Mod_pot_61 {l : Launch} {ld : Nat} {Q : Option Value → gM → gL → gR → Prop} (hld : isLa ld)   {q : Int32 × gM} {L : gL} (hQ : Q (some (.int q.1)) q.2 L (rf ld))  {v1 : Int32} {v2 : Int32} {v3 : Int32} {v4 : Int32}  : ∀ (f : Nat) (v5 : Int32) (M : gM), H_Mod_pot_61 v1 v2 v3 v4 f v5 M = some q → Wp l y_Mod_pot (0, 0, 447) 447 0 0 61 [(0, .ref 401), (1, .int v1), (2, .int v2), (3, .int v3), (4, .int v4), (5, .int v5)] [] M L (rf ld) Q := by
  intro f
  induction f with
  | zero => intro v5 M h; cases h
  | succ f hK61 =>
    intro v5 M h
    replace h : B_Mod_pot_61 v1 v2 v3 v4 (H_Mod_pot_61 v1 v2 v3 v4 f) v5 M = some q := h
    unfold B_Mod_pot_61 at h
    refine g_iload (pc1 := 63) d_Mod_pot_61 rfl 5 rfl ?_
    refine g_if_le (pc1 := 66) (tgt := 156) d_Mod_pot_63 (by decide) rfl (fun c19 => ?_) (fun c19 => ?_)
    · replace h := itp h c19
      refine Wp.loc (lv' := [(0, .ref 401), (4, .int v4)]) [0, 4] rfl ?_
      exact j_Mod_pot_156 hld  hQ  h
    · replace h := itn h c19
      refine g_aload_n (pc1 := 67) d_Mod_pot_66 rfl 0 rfl ?_
      refine g_iload (pc1 := 69) d_Mod_pot_67 rfl 5 rfl ?_
      refine g_callV0 (pc1 := 72) (As := [.int v5]) (rest := []) d_Mod_pot_69 rfl mo_Mod_416 mi_Mod_isPot mv_Mod_isPot rfl sh_401 (by decide) (by decide) rfl rfl (Nat.le_of_ble_eq_true rfl) ?_
      obtain ⟨r27, M28, hq26, h⟩ := bnd2 h
      refine f_Mod_isPot hld  hq26 ?_
      dsimp only [psh]
      refine g_if_eq (pc1 := 75) (tgt := 150) d_Mod_pot_72 (by decide) rfl (fun c29 => ?_) (fun c29 => ?_)
      · replace h := itp h c29
        exact j_Mod_pot_150 hld  hQ hK61 h
      · replace h := itn h c29
        refine g_aload_n (pc1 := 76) d_Mod_pot_75 rfl 0 rfl ?_
        refine g_geti (pc1 := 79) d_Mod_pot_76 rfl ⟨_, fo_Mod_404⟩ sh_401 (by decide) ?_
        refine g_if_lt (pc1 := 82) (tgt := 96) d_Mod_pot_79 (by decide) rfl (fun c31 => ?_) (fun c31 => ?_)
        · replace h := itp h c31
          exact j_Mod_pot_96 hld  hQ hK61 h
        · replace h := itn h c31
          refine g_aload_n (pc1 := 83) d_Mod_pot_82 rfl 0 rfl ?_
          refine g_callV0 (pc1 := 86) (As := []) (rest := []) d_Mod_pot_83 rfl mo_Mod_362 mi_Mod_potPrice mv_Mod_potPrice rfl sh_401 (by decide) (by decide) rfl rfl (Nat.le_of_ble_eq_true rfl) ?_
          obtain ⟨r48, hq47, h⟩ := bnd h
          refine f_Mod_potPrice hld  hq47 ?_
          dsimp only [psh]
          refine g_aload_n (pc1 := 87) d_Mod_pot_86 rfl 0 rfl ?_
          refine g_geti (pc1 := 90) d_Mod_pot_87 rfl ⟨_, fo_Mod_407⟩ sh_401 (by decide) ?_
          refine g_icmp_le (pc1 := 93) (tgt := 96) d_Mod_pot_90 (by decide) rfl (fun c49 => ?_) (fun c49 => ?_)
          · replace h := itp h c49
            exact j_Mod_pot_96 hld  hQ hK61 h
          · replace h := itn h c49
            refine g_goto (tgt := 150) d_Mod_pot_93 (by decide) ?_
            exact j_Mod_pot_150 hld  hQ hK61 h
def F_Mod_pot (p1 : Int32) (p2 : Int32) (p3 : Int32) (p4 : Int32) (M : gM) : Option (Int32 × gM) :=
  bI (F_Mod_in p1 0 99) (fun r2 => (if r2 = 0 then some ((-1), M) else bI (F_Mod_in p2 0 99) (fun r5 => (if r5 = 0 then some ((-1), M) else bI (F_Mod_in p3 0 99) (fun r8 => (if r8 = 0 then some ((-1), M) else bI (F_Mod_in p4 0 7) (fun r11 => (if r11 = 0 then some ((-1), M) else bI (F_Mod_copies M) (fun M14 => nmM (uM M14 401 59 (-1)) (fun M15 => bI (F_Mod_sevens 6) (fun r17 => nmI (r17 - 1) (fun x18 => H_Mod_pot_61 p1 p2 p3 p4 FU x18 M15))))))))))))
set_option maxHeartbeats 4000000 in
set_option maxRecDepth 20000 in
theorem f_Mod_pot {l : Launch} {ld : Nat} {M : gM} {L : gL} {Q : Option Value → gM → gL → gR → Prop} (hld : isLa ld) {p1 : Int32} {p2 : Int32} {p3 : Int32} {p4 : Int32}  {q : Int32 × gM} (h : F_Mod_pot p1 p2 p3 p4 M = some q) (hQ : Q (some (.int q.1)) q.2 L (rf ld)) : Tm l y_Mod_pot (0, 0, 447) 447 [.ref 401, .int p1, .int p2, .int p3, .int p4] M L (rf ld) Q := by
  refine Tm.of (by decide) (Nat.le_of_ble_eq_true rfl) ?_
  show Wp l y_Mod_pot (0, 0, 447) 447 0 0 0 [(0, .ref 401), (1, .int p1), (2, .int p2), (3, .int p3), (4, .int p4)] [] M L (rf ld) Q
  unfold F_Mod_pot at h
  refine g_iload_n (pc1 := 1) d_Mod_pot_0 rfl 1 rfl ?_
  refine g_iconst (pc1 := 2) (v := 0) d_Mod_pot_1 rfl (by decide) ?_
  refine g_bipush (pc1 := 4) (v := 99) d_Mod_pot_2 rfl (by decide) ?_
  refine g_callS0 (pc1 := 7) (As := [.int p1, .int 0, .int 99]) (rest := []) d_Mod_pot_4 rfl mo_Mod_316 ms_Mod_in (by decide) rfl rfl (Nat.le_of_ble_eq_true rfl) ?_
  obtain ⟨r2, hq1, h⟩ := bnd h
  refine f_Mod_in hld  hq1 ?_
  dsimp only [psh]
  refine g_if_eq (pc1 := 10) (tgt := 41) d_Mod_pot_7 (by decide) rfl (fun c3 => ?_) (fun c3 => ?_)
  · replace h := itp h c3
    refine g_iconst (pc1 := 42) (v := (-1)) d_Mod_pot_41 rfl (by decide) ?_
    refine g_ireturn (Or.inl rfl) d_Mod_pot_42 rfl ?_
    cases h; exact hQ
  · replace h := itn h c3
    refine g_iload_n (pc1 := 11) d_Mod_pot_10 rfl 2 rfl ?_
    refine g_iconst (pc1 := 12) (v := 0) d_Mod_pot_11 rfl (by decide) ?_
    refine g_bipush (pc1 := 14) (v := 99) d_Mod_pot_12 rfl (by decide) ?_
    refine g_callS0 (pc1 := 17) (As := [.int p2, .int 0, .int 99]) (rest := []) d_Mod_pot_14 rfl mo_Mod_316 ms_Mod_in (by decide) rfl rfl (Nat.le_of_ble_eq_true rfl) ?_
    obtain ⟨r5, hq4, h⟩ := bnd h
    refine f_Mod_in hld  hq4 ?_
    dsimp only [psh]
    refine g_if_eq (pc1 := 20) (tgt := 41) d_Mod_pot_17 (by decide) rfl (fun c6 => ?_) (fun c6 => ?_)
    · replace h := itp h c6
      refine g_iconst (pc1 := 42) (v := (-1)) d_Mod_pot_41 rfl (by decide) ?_
      refine g_ireturn (Or.inl rfl) d_Mod_pot_42 rfl ?_
      cases h; exact hQ
    · replace h := itn h c6
      refine g_iload_n (pc1 := 21) d_Mod_pot_20 rfl 3 rfl ?_
      refine g_iconst (pc1 := 22) (v := 0) d_Mod_pot_21 rfl (by decide) ?_
      refine g_bipush (pc1 := 24) (v := 99) d_Mod_pot_22 rfl (by decide) ?_
      refine g_callS0 (pc1 := 27) (As := [.int p3, .int 0, .int 99]) (rest := []) d_Mod_pot_24 rfl mo_Mod_316 ms_Mod_in (by decide) rfl rfl (Nat.le_of_ble_eq_true rfl) ?_
      obtain ⟨r8, hq7, h⟩ := bnd h
      refine f_Mod_in hld  hq7 ?_
      dsimp only [psh]
      refine g_if_eq (pc1 := 30) (tgt := 41) d_Mod_pot_27 (by decide) rfl (fun c9 => ?_) (fun c9 => ?_)
      · replace h := itp h c9
        refine g_iconst (pc1 := 42) (v := (-1)) d_Mod_pot_41 rfl (by decide) ?_
        refine g_ireturn (Or.inl rfl) d_Mod_pot_42 rfl ?_
        cases h; exact hQ
      · replace h := itn h c9
        refine g_iload (pc1 := 32) d_Mod_pot_30 rfl 4 rfl ?_
        refine g_iconst (pc1 := 33) (v := 0) d_Mod_pot_32 rfl (by decide) ?_
        refine g_bipush (pc1 := 35) (v := 7) d_Mod_pot_33 rfl (by decide) ?_
        refine g_callS0 (pc1 := 38) (As := [.int p4, .int 0, .int 7]) (rest := []) d_Mod_pot_35 rfl mo_Mod_316 ms_Mod_in (by decide) rfl rfl (Nat.le_of_ble_eq_true rfl) ?_
        obtain ⟨r11, hq10, h⟩ := bnd h
        refine f_Mod_in hld  hq10 ?_
        dsimp only [psh]
        refine g_if_ne (pc1 := 41) (tgt := 43) d_Mod_pot_38 (by decide) rfl (fun c12 => ?_) (fun c12 => ?_)
        · replace h := itn h c12
          refine g_aload_n (pc1 := 44) d_Mod_pot_43 rfl 0 rfl ?_
          refine g_callV0 (pc1 := 47) (As := []) (rest := []) d_Mod_pot_44 rfl mo_Mod_377 mi_Mod_copies mv_Mod_copies rfl sh_401 (by decide) (by decide) rfl rfl (Nat.le_of_ble_eq_true rfl) ?_
          obtain ⟨M14, hq13, h⟩ := bnd h
          refine f_Mod_copies hld  hq13 ?_
          dsimp only [psh]
          refine g_aload_n (pc1 := 48) d_Mod_pot_47 rfl 0 rfl ?_
          refine g_iconst (pc1 := 49) (v := (-1)) d_Mod_pot_48 rfl (by decide) ?_
          refine g_puti (pc1 := 52) d_Mod_pot_49 rfl fo_Mod_404 (po_12_59 _) sh_401 (by decide) ?_
          refine Wp.lM h (fun M15 h => ?_)
          refine g_bipush (pc1 := 54) (v := 6) d_Mod_pot_52 rfl (by decide) ?_
          refine g_callS0 (pc1 := 57) (As := [.int 6]) (rest := []) d_Mod_pot_54 rfl mo_Mod_401 ms_Mod_sevens (by decide) rfl rfl (Nat.le_of_ble_eq_true rfl) ?_
          obtain ⟨r17, hq16, h⟩ := bnd h
          refine f_Mod_sevens hld  hq16 ?_
          dsimp only [psh]
          refine g_iconst (pc1 := 58) (v := 1) d_Mod_pot_57 rfl (by decide) ?_
          refine g_isub (pc1 := 59) d_Mod_pot_58 rfl ?_
          refine Wp.lI h (fun x18 h => ?_)
          refine g_istore (pc1 := 61) (lv' := [(0, .ref 401), (1, .int p1), (2, .int p2), (3, .int p3), (4, .int p4), (5, .int x18)]) d_Mod_pot_59 rfl (by decide) [1, 2, 3, 4, 5, 0] rfl ?_
          exact h_Mod_pot_61 hld  hQ  _ x18 M15 h
        · replace h := itp h c12
          refine g_iconst (pc1 := 42) (v := (-1)) d_Mod_pot_41 rfl (by decide) ?_
          refine g_ireturn (Or.inl rfl) d_Mod_pot_42 rfl ?_
          cases h; exact hQ

def F_Mod_stockIn (p1 : Int32) (p2 : Int32) (M : gM) : Option (Int32 × gM) :=
  bI (F_Mod_isFood p1 M) (fun r2 => (if r2 = 0 then some ((-1), M) else bI (F_Mod_isLong p2) (fun r5 => (if r5 = 0 then some ((-1), M) else bI (F_Mod_copies M) (fun M8 => bI (F_Mod_goes p2 M8) (fun M10 => (if (p1 : Int32) < 0 ∨ 38 ≤ (p1 : Int32).toNatClampNeg then none else some ((M10 437 (p1 : Int32).toNatClampNeg), M10))))))))
set_option maxHeartbeats 4000000 in
set_option maxRecDepth 20000 in
theorem f_Mod_stockIn {l : Launch} {ld : Nat} {M : gM} {L : gL} {Q : Option Value → gM → gL → gR → Prop} (hld : isLa ld) {p1 : Int32} {p2 : Int32}  {q : Int32 × gM} (h : F_Mod_stockIn p1 p2 M = some q) (hQ : Q (some (.int q.1)) q.2 L (rf ld)) : Tm l y_Mod_stockIn (0, 0, 447) 447 [.ref 401, .int p1, .int p2] M L (rf ld) Q := by
  refine Tm.of (by decide) (Nat.le_of_ble_eq_true rfl) ?_
  show Wp l y_Mod_stockIn (0, 0, 447) 447 0 0 0 [(0, .ref 401), (1, .int p1), (2, .int p2)] [] M L (rf ld) Q
  unfold F_Mod_stockIn at h
  refine g_aload_n (pc1 := 1) d_Mod_stockIn_0 rfl 0 rfl ?_
  refine g_iload_n (pc1 := 2) d_Mod_stockIn_1 rfl 1 rfl ?_
  refine g_callV0 (pc1 := 5) (As := [.int p1]) (rest := []) d_Mod_stockIn_2 rfl mo_Mod_371 mi_Mod_isFood mv_Mod_isFood rfl sh_401 (by decide) (by decide) rfl rfl (Nat.le_of_ble_eq_true rfl) ?_
  obtain ⟨r2, hq1, h⟩ := bnd h
  refine f_Mod_isFood hld  hq1 ?_
  dsimp only [psh]
  refine g_if_eq (pc1 := 8) (tgt := 15) d_Mod_stockIn_5 (by decide) rfl (fun c3 => ?_) (fun c3 => ?_)
  · replace h := itp h c3
    refine g_iconst (pc1 := 16) (v := (-1)) d_Mod_stockIn_15 rfl (by decide) ?_
    refine g_ireturn (Or.inl rfl) d_Mod_stockIn_16 rfl ?_
    cases h; exact hQ
  · replace h := itn h c3
    refine g_iload_n (pc1 := 9) d_Mod_stockIn_8 rfl 2 rfl ?_
    refine g_callS0 (pc1 := 12) (As := [.int p2]) (rest := []) d_Mod_stockIn_9 rfl mo_Mod_446 ms_Mod_isLong (by decide) rfl rfl (Nat.le_of_ble_eq_true rfl) ?_
    obtain ⟨r5, hq4, h⟩ := bnd h
    refine f_Mod_isLong hld  hq4 ?_
    dsimp only [psh]
    refine g_if_ne (pc1 := 15) (tgt := 17) d_Mod_stockIn_12 (by decide) rfl (fun c6 => ?_) (fun c6 => ?_)
    · replace h := itn h c6
      refine g_aload_n (pc1 := 18) d_Mod_stockIn_17 rfl 0 rfl ?_
      refine g_callV0 (pc1 := 21) (As := []) (rest := []) d_Mod_stockIn_18 rfl mo_Mod_377 mi_Mod_copies mv_Mod_copies rfl sh_401 (by decide) (by decide) rfl rfl (Nat.le_of_ble_eq_true rfl) ?_
      obtain ⟨M8, hq7, h⟩ := bnd h
      refine f_Mod_copies hld  hq7 ?_
      dsimp only [psh]
      refine g_aload_n (pc1 := 22) d_Mod_stockIn_21 rfl 0 rfl ?_
      refine g_iload_n (pc1 := 23) d_Mod_stockIn_22 rfl 2 rfl ?_
      refine g_callV0 (pc1 := 26) (As := [.int p2]) (rest := []) d_Mod_stockIn_23 rfl mo_Mod_398 mi_Mod_goes mv_Mod_goes rfl sh_401 (by decide) (by decide) rfl rfl (Nat.le_of_ble_eq_true rfl) ?_
      obtain ⟨M10, hq9, h⟩ := bnd h
      refine f_Mod_goes hld  hq9 ?_
      dsimp only [psh]
      refine g_aload_n (pc1 := 27) d_Mod_stockIn_26 rfl 0 rfl ?_
      refine g_getr (pc1 := 30) d_Mod_stockIn_27 rfl ⟨_, fo_Mod_125⟩ sh_401 (by decide) (rf_401_53 ld) ?_
      refine g_iload_n (pc1 := 31) d_Mod_stockIn_30 rfl 1 rfl ?_
      obtain ⟨g11, h⟩ := gdn h
      refine g_iald (pc1 := 32) d_Mod_stockIn_31 rfl sh_437 (by decide) g11 ?_
      refine g_ireturn (Or.inl rfl) d_Mod_stockIn_32 rfl ?_
      cases h; exact hQ
    · replace h := itp h c6
      refine g_iconst (pc1 := 16) (v := (-1)) d_Mod_stockIn_15 rfl (by decide) ?_
      refine g_ireturn (Or.inl rfl) d_Mod_stockIn_16 rfl ?_
      cases h; exact hQ

def J_Mod_tellLaw_129 (v1 : Int32) (v2 : Int32) (M : gM) : Option (gM) :=
  (if ((M 401 38) : Int32) < 0 ∨ 260 ≤ ((M 401 38) : Int32).toNatClampNeg then none else nmM (uM M 426 ((M 401 38) : Int32).toNatClampNeg (vp_nar .boolean 0)) (fun M6 => bI (F_Mod_term M6) (fun M8 => bI (F_Mod_must 4 M8) (fun M10 => (if (M10 401 13) ≤ 0 then (if (((4 * (M10 401 19)) + v1) : Int32) < 0 ∨ 8 ≤ (((4 * (M10 401 19)) + v1) : Int32).toNatClampNeg then none else nmM (uM M10 424 (((4 * (M10 401 19)) + v1) : Int32).toNatClampNeg v2) (fun M13 => (if (((4 * (M13 401 19)) + v1) : Int32) < 0 ∨ 8 ≤ (((4 * (M13 401 19)) + v1) : Int32).toNatClampNeg then none else nmM (uM M13 425 (((4 * (M13 401 19)) + v1) : Int32).toNatClampNeg (M13 401 38)) (fun M15 => some M15)))) else some M10)))))
set_option maxHeartbeats 4000000 in
set_option maxRecDepth 20000 in
theorem j_Mod_tellLaw_129 {l : Launch} {ld : Nat} {Q : Option Value → gM → gL → gR → Prop} (hld : isLa ld)   {q : gM} {M : gM} {L : gL} (hQ : Q none q L (rf ld))  {v1 : Int32} {v2 : Int32}  (h : J_Mod_tellLaw_129 v1 v2 M = some q) : Wp l y_Mod_tellLaw (0, 0, 447) 447 0 0 129 [(0, .ref 401), (1, .int v1), (2, .int v2)] [] M L (rf ld) Q := by
  unfold J_Mod_tellLaw_129 at h
  refine g_aload_n (pc1 := 130) d_Mod_tellLaw_129 rfl 0 rfl ?_
  refine g_getr (pc1 := 133) d_Mod_tellLaw_130 rfl ⟨_, fo_Mod_91⟩ sh_401 (by decide) (rf_401_39 ld) ?_
  refine g_aload_n (pc1 := 134) d_Mod_tellLaw_133 rfl 0 rfl ?_
  refine g_geti (pc1 := 137) d_Mod_tellLaw_134 rfl ⟨_, fo_Mod_245⟩ sh_401 (by decide) ?_
  refine g_iconst (pc1 := 138) (v := 0) d_Mod_tellLaw_137 rfl (by decide) ?_
  obtain ⟨g5, h⟩ := gdn h
  refine g_zast (pc1 := 139) d_Mod_tellLaw_138 rfl sh_426 (by decide) g5 ?_
  refine Wp.lM h (fun M6 h => ?_)
  refine g_aload_n (pc1 := 140) d_Mod_tellLaw_139 rfl 0 rfl ?_
  refine g_callV0 (pc1 := 143) (As := []) (rest := []) d_Mod_tellLaw_140 rfl mo_Mod_296 mi_Mod_term mv_Mod_term rfl sh_401 (by decide) (by decide) rfl rfl (Nat.le_of_ble_eq_true rfl) ?_
  obtain ⟨M8, hq7, h⟩ := bnd h
  refine f_Mod_term hld  hq7 ?_
  dsimp only [psh]
  refine g_aload_n (pc1 := 144) d_Mod_tellLaw_143 rfl 0 rfl ?_
  refine g_iconst (pc1 := 145) (v := 4) d_Mod_tellLaw_144 rfl (by decide) ?_
  refine g_callV0 (pc1 := 148) (As := [.int 4]) (rest := []) d_Mod_tellLaw_145 rfl mo_Mod_281 mi_Mod_must mv_Mod_must rfl sh_401 (by decide) (by decide) rfl rfl (Nat.le_of_ble_eq_true rfl) ?_
  obtain ⟨M10, hq9, h⟩ := bnd h
  refine f_Mod_must hld  hq9 ?_
  dsimp only [psh]
  refine g_aload_n (pc1 := 149) d_Mod_tellLaw_148 rfl 0 rfl ?_
  refine g_geti (pc1 := 152) d_Mod_tellLaw_149 rfl ⟨_, fo_Mod_206⟩ sh_401 (by decide) ?_
  refine g_if_le (pc1 := 155) (tgt := 156) d_Mod_tellLaw_152 (by decide) rfl (fun c11 => ?_) (fun c11 => ?_)
  · replace h := itp h c11
    refine g_aload_n (pc1 := 157) d_Mod_tellLaw_156 rfl 0 rfl ?_
    refine g_getr (pc1 := 160) d_Mod_tellLaw_157 rfl ⟨_, fo_Mod_85⟩ sh_401 (by decide) (rf_401_36 ld) ?_
    refine g_iconst (pc1 := 161) (v := 4) d_Mod_tellLaw_160 rfl (by decide) ?_
    refine g_aload_n (pc1 := 162) d_Mod_tellLaw_161 rfl 0 rfl ?_
    refine g_geti (pc1 := 165) d_Mod_tellLaw_162 rfl ⟨_, fo_Mod_239⟩ sh_401 (by decide) ?_
    refine g_imul (pc1 := 166) d_Mod_tellLaw_165 rfl ?_
    refine g_iload_n (pc1 := 167) d_Mod_tellLaw_166 rfl 1 rfl ?_
    refine g_iadd (pc1 := 168) d_Mod_tellLaw_167 rfl ?_
    refine g_iload_n (pc1 := 169) d_Mod_tellLaw_168 rfl 2 rfl ?_
    obtain ⟨g12, h⟩ := gdn h
    refine g_iast (pc1 := 170) d_Mod_tellLaw_169 rfl sh_424 (by decide) g12 ?_
    refine Wp.lM h (fun M13 h => ?_)
    refine g_aload_n (pc1 := 171) d_Mod_tellLaw_170 rfl 0 rfl ?_
    refine g_getr (pc1 := 174) d_Mod_tellLaw_171 rfl ⟨_, fo_Mod_88⟩ sh_401 (by decide) (rf_401_37 ld) ?_
    refine g_iconst (pc1 := 175) (v := 4) d_Mod_tellLaw_174 rfl (by decide) ?_
    refine g_aload_n (pc1 := 176) d_Mod_tellLaw_175 rfl 0 rfl ?_
    refine g_geti (pc1 := 179) d_Mod_tellLaw_176 rfl ⟨_, fo_Mod_239⟩ sh_401 (by decide) ?_
    refine g_imul (pc1 := 180) d_Mod_tellLaw_179 rfl ?_
    refine g_iload_n (pc1 := 181) d_Mod_tellLaw_180 rfl 1 rfl ?_
    refine g_iadd (pc1 := 182) d_Mod_tellLaw_181 rfl ?_
    refine g_aload_n (pc1 := 183) d_Mod_tellLaw_182 rfl 0 rfl ?_
    refine g_geti (pc1 := 186) d_Mod_tellLaw_183 rfl ⟨_, fo_Mod_245⟩ sh_401 (by decide) ?_
    obtain ⟨g14, h⟩ := gdn h
    refine g_iast (pc1 := 187) d_Mod_tellLaw_186 rfl sh_425 (by decide) g14 ?_
    refine Wp.lM h (fun M15 h => ?_)
    refine g_return rfl d_Mod_tellLaw_187 rfl ?_
    cases h; exact hQ
  · replace h := itn h c11
    refine g_return rfl d_Mod_tellLaw_155 rfl ?_
    cases h; exact hQ
def J_Mod_tellLaw_110 (K12 : Int32 → gM → Option (gM)) (v1 : Int32) (v2 : Int32) (v3 : Int32) (M : gM) : Option (gM) :=
  bI (F_Mod_must 30 M) (fun M36 => bI (F_Mod_term M36) (fun M38 => bI (F_Mod_must 31 M38) (fun M40 => K12 v3 M40)))
set_option maxHeartbeats 4000000 in
set_option maxRecDepth 20000 in
theorem j_Mod_tellLaw_110 {l : Launch} {ld : Nat} {Q : Option Value → gM → gL → gR → Prop} (hld : isLa ld)   {q : gM} {M : gM} {L : gL} (hQ : Q none q L (rf ld)) {K12 : Int32 → gM → Option (gM)} {v1 : Int32} {v2 : Int32} {v3 : Int32} (hK12 : ∀ (w3 : Int32) (M : gM), K12 w3 M = some q → Wp l y_Mod_tellLaw (0, 0, 447) 447 0 0 12 [(0, .ref 401), (1, .int v1), (2, .int v2), (3, .int w3)] [] M L (rf ld) Q) (h : J_Mod_tellLaw_110 K12 v1 v2 v3 M = some q) : Wp l y_Mod_tellLaw (0, 0, 447) 447 0 0 110 [(0, .ref 401), (1, .int v1), (2, .int v2), (3, .int v3)] [] M L (rf ld) Q := by
  unfold J_Mod_tellLaw_110 at h
  refine g_aload_n (pc1 := 111) d_Mod_tellLaw_110 rfl 0 rfl ?_
  refine g_bipush (pc1 := 113) (v := 30) d_Mod_tellLaw_111 rfl (by decide) ?_
  refine g_callV0 (pc1 := 116) (As := [.int 30]) (rest := []) d_Mod_tellLaw_113 rfl mo_Mod_281 mi_Mod_must mv_Mod_must rfl sh_401 (by decide) (by decide) rfl rfl (Nat.le_of_ble_eq_true rfl) ?_
  obtain ⟨M36, hq35, h⟩ := bnd h
  refine f_Mod_must hld  hq35 ?_
  dsimp only [psh]
  refine g_aload_n (pc1 := 117) d_Mod_tellLaw_116 rfl 0 rfl ?_
  refine g_callV0 (pc1 := 120) (As := []) (rest := []) d_Mod_tellLaw_117 rfl mo_Mod_296 mi_Mod_term mv_Mod_term rfl sh_401 (by decide) (by decide) rfl rfl (Nat.le_of_ble_eq_true rfl) ?_
  obtain ⟨M38, hq37, h⟩ := bnd h
  refine f_Mod_term hld  hq37 ?_
  dsimp only [psh]
  refine g_aload_n (pc1 := 121) d_Mod_tellLaw_120 rfl 0 rfl ?_
  refine g_bipush (pc1 := 123) (v := 31) d_Mod_tellLaw_121 rfl (by decide) ?_
  refine g_callV0 (pc1 := 126) (As := [.int 31]) (rest := []) d_Mod_tellLaw_123 rfl mo_Mod_281 mi_Mod_must mv_Mod_must rfl sh_401 (by decide) (by decide) rfl rfl (Nat.le_of_ble_eq_true rfl) ?_
  obtain ⟨M40, hq39, h⟩ := bnd h
  refine f_Mod_must hld  hq39 ?_
  dsimp only [psh]
  refine g_goto (tgt := 12) d_Mod_tellLaw_126 (by decide) ?_
  exact hK12 v3 M40 h
def J_Mod_tellLaw_38 (K12 : Int32 → gM → Option (gM)) (v1 : Int32) (v2 : Int32) (v3 : Int32) (M : gM) : Option (gM) :=
  (if (M 401 13) ≤ 0 then nmI (v3 + 1) (fun x21 => bI (F_Mod_goesOn M) (fun M23 => (if ((M23 401 38) : Int32) < 0 ∨ 260 ≤ ((M23 401 38) : Int32).toNatClampNeg then none else nmM (uM M23 426 ((M23 401 38) : Int32).toNatClampNeg (vp_nar .boolean 1)) (fun M25 => (if ((M25 401 38) : Int32) < 0 ∨ 260 ≤ ((M25 401 38) : Int32).toNatClampNeg then none else nmM (uM M25 427 ((M25 401 38) : Int32).toNatClampNeg (M25 401 44)) (fun M27 => bI (F_Mod_expression M27) (fun M29 => bI (F_Mod_must 13 M29) (fun M31 => (if ((M31 401 38) : Int32) < 0 ∨ 260 ≤ ((M31 401 38) : Int32).toNatClampNeg then none else nmM (uM M31 428 ((M31 401 38) : Int32).toNatClampNeg (M31 401 44)) (fun M33 => (if (M33 401 13) = 0 then bI (F_Mod_expression M33) (fun M42 => J_Mod_tellLaw_110 K12 v1 v2 x21 M42) else J_Mod_tellLaw_110 K12 v1 v2 x21 M33))))))))))) else some M)
set_option maxHeartbeats 4000000 in
set_option maxRecDepth 20000 in
theorem j_Mod_tellLaw_38 {l : Launch} {ld : Nat} {Q : Option Value → gM → gL → gR → Prop} (hld : isLa ld)   {q : gM} {M : gM} {L : gL} (hQ : Q none q L (rf ld)) {K12 : Int32 → gM → Option (gM)} {v1 : Int32} {v2 : Int32} {v3 : Int32} (hK12 : ∀ (w3 : Int32) (M : gM), K12 w3 M = some q → Wp l y_Mod_tellLaw (0, 0, 447) 447 0 0 12 [(0, .ref 401), (1, .int v1), (2, .int v2), (3, .int w3)] [] M L (rf ld) Q) (h : J_Mod_tellLaw_38 K12 v1 v2 v3 M = some q) : Wp l y_Mod_tellLaw (0, 0, 447) 447 0 0 38 [(0, .ref 401), (1, .int v1), (2, .int v2), (3, .int v3)] [] M L (rf ld) Q := by
  unfold J_Mod_tellLaw_38 at h
  refine g_aload_n (pc1 := 39) d_Mod_tellLaw_38 rfl 0 rfl ?_
  refine g_geti (pc1 := 42) d_Mod_tellLaw_39 rfl ⟨_, fo_Mod_206⟩ sh_401 (by decide) ?_
  refine g_if_le (pc1 := 45) (tgt := 46) d_Mod_tellLaw_42 (by decide) rfl (fun c20 => ?_) (fun c20 => ?_)
  · replace h := itp h c20
    obtain ⟨x21, ex21, h⟩ := ltI h
    refine g_iinc (pc1 := 49) (v := x21) (lv' := [(0, .ref 401), (1, .int v1), (2, .int v2), (3, .int x21)]) d_Mod_tellLaw_46 rfl 3 rfl (by rw [ex21]; rfl) (by decide) [1, 2, 3, 0] rfl ?_
    refine g_aload_n (pc1 := 50) d_Mod_tellLaw_49 rfl 0 rfl ?_
    refine g_callV0 (pc1 := 53) (As := []) (rest := []) d_Mod_tellLaw_50 rfl mo_Mod_227 mi_Mod_goesOn mv_Mod_goesOn rfl sh_401 (by decide) (by decide) rfl rfl (Nat.le_of_ble_eq_true rfl) ?_
    obtain ⟨M23, hq22, h⟩ := bnd h
    refine f_Mod_goesOn hld  hq22 ?_
    dsimp only [psh]
    refine g_aload_n (pc1 := 54) d_Mod_tellLaw_53 rfl 0 rfl ?_
    refine g_getr (pc1 := 57) d_Mod_tellLaw_54 rfl ⟨_, fo_Mod_91⟩ sh_401 (by decide) (rf_401_39 ld) ?_
    refine g_aload_n (pc1 := 58) d_Mod_tellLaw_57 rfl 0 rfl ?_
    refine g_geti (pc1 := 61) d_Mod_tellLaw_58 rfl ⟨_, fo_Mod_245⟩ sh_401 (by decide) ?_
    refine g_iconst (pc1 := 62) (v := 1) d_Mod_tellLaw_61 rfl (by decide) ?_
    obtain ⟨g24, h⟩ := gdn h
    refine g_zast (pc1 := 63) d_Mod_tellLaw_62 rfl sh_426 (by decide) g24 ?_
    refine Wp.lM h (fun M25 h => ?_)
    refine g_aload_n (pc1 := 64) d_Mod_tellLaw_63 rfl 0 rfl ?_
    refine g_getr (pc1 := 67) d_Mod_tellLaw_64 rfl ⟨_, fo_Mod_95⟩ sh_401 (by decide) (rf_401_40 ld) ?_
    refine g_aload_n (pc1 := 68) d_Mod_tellLaw_67 rfl 0 rfl ?_
    refine g_geti (pc1 := 71) d_Mod_tellLaw_68 rfl ⟨_, fo_Mod_245⟩ sh_401 (by decide) ?_
    refine g_aload_n (pc1 := 72) d_Mod_tellLaw_71 rfl 0 rfl ?_
    refine g_geti (pc1 := 75) d_Mod_tellLaw_72 rfl ⟨_, fo_Mod_248⟩ sh_401 (by decide) ?_
    obtain ⟨g26, h⟩ := gdn h
    refine g_iast (pc1 := 76) d_Mod_tellLaw_75 rfl sh_427 (by decide) g26 ?_
    refine Wp.lM h (fun M27 h => ?_)
    refine g_aload_n (pc1 := 77) d_Mod_tellLaw_76 rfl 0 rfl ?_
    refine g_callV0 (pc1 := 80) (As := []) (rest := []) d_Mod_tellLaw_77 rfl mo_Mod_293 mi_Mod_expression mv_Mod_expression rfl sh_401 (by decide) (by decide) rfl rfl (Nat.le_of_ble_eq_true rfl) ?_
    obtain ⟨M29, hq28, h⟩ := bnd h
    refine f_Mod_expression hld  hq28 ?_
    dsimp only [psh]
    refine g_aload_n (pc1 := 81) d_Mod_tellLaw_80 rfl 0 rfl ?_
    refine g_bipush (pc1 := 83) (v := 13) d_Mod_tellLaw_81 rfl (by decide) ?_
    refine g_callV0 (pc1 := 86) (As := [.int 13]) (rest := []) d_Mod_tellLaw_83 rfl mo_Mod_281 mi_Mod_must mv_Mod_must rfl sh_401 (by decide) (by decide) rfl rfl (Nat.le_of_ble_eq_true rfl) ?_
    obtain ⟨M31, hq30, h⟩ := bnd h
    refine f_Mod_must hld  hq30 ?_
    dsimp only [psh]
    refine g_aload_n (pc1 := 87) d_Mod_tellLaw_86 rfl 0 rfl ?_
    refine g_getr (pc1 := 90) d_Mod_tellLaw_87 rfl ⟨_, fo_Mod_98⟩ sh_401 (by decide) (rf_401_41 ld) ?_
    refine g_aload_n (pc1 := 91) d_Mod_tellLaw_90 rfl 0 rfl ?_
    refine g_geti (pc1 := 94) d_Mod_tellLaw_91 rfl ⟨_, fo_Mod_245⟩ sh_401 (by decide) ?_
    refine g_aload_n (pc1 := 95) d_Mod_tellLaw_94 rfl 0 rfl ?_
    refine g_geti (pc1 := 98) d_Mod_tellLaw_95 rfl ⟨_, fo_Mod_248⟩ sh_401 (by decide) ?_
    obtain ⟨g32, h⟩ := gdn h
    refine g_iast (pc1 := 99) d_Mod_tellLaw_98 rfl sh_428 (by decide) g32 ?_
    refine Wp.lM h (fun M33 h => ?_)
    refine g_aload_n (pc1 := 100) d_Mod_tellLaw_99 rfl 0 rfl ?_
    refine g_geti (pc1 := 103) d_Mod_tellLaw_100 rfl ⟨_, fo_Mod_206⟩ sh_401 (by decide) ?_
    refine g_if_ne (pc1 := 106) (tgt := 110) d_Mod_tellLaw_103 (by decide) rfl (fun c34 => ?_) (fun c34 => ?_)
    · replace h := itn h c34
      exact j_Mod_tellLaw_110 hld  hQ hK12 h
    · replace h := itp h c34
      refine g_aload_n (pc1 := 107) d_Mod_tellLaw_106 rfl 0 rfl ?_
      refine g_callV0 (pc1 := 110) (As := []) (rest := []) d_Mod_tellLaw_107 rfl mo_Mod_293 mi_Mod_expression mv_Mod_expression rfl sh_401 (by decide) (by decide) rfl rfl (Nat.le_of_ble_eq_true rfl) ?_
      obtain ⟨M42, hq41, h⟩ := bnd h
      refine f_Mod_expression hld  hq41 ?_
      dsimp only [psh]
      exact j_Mod_tellLaw_110 hld  hQ hK12 h
  · replace h := itn h c20
    refine g_return rfl d_Mod_tellLaw_45 rfl ?_
    cases h; exact hQ
def B_Mod_tellLaw_12 (v1 : Int32) (v2 : Int32) (K12 : Int32 → gM → Option (gM)) : Int32 → gM → Option (gM) := fun v3 M =>
  (if (M 401 13) = 0 then bI (F_Mod_is 29 M) (fun r17 => (if r17 = 0 then J_Mod_tellLaw_129 v1 v2 M else (if v3 = 4 then bI (F_Mod_fail 2 M) (fun M44 => J_Mod_tellLaw_38 K12 v1 v2 v3 M44) else J_Mod_tellLaw_38 K12 v1 v2 v3 M))) else J_Mod_tellLaw_129 v1 v2 M)
def H_Mod_tellLaw_12 (v1 : Int32) (v2 : Int32) : Nat → Int32 → gM → Option (gM) := lpK (B_Mod_tellLaw_12 v1 v2) (fun _ _ => none)
set_option maxHeartbeats 4000000 in
set_option maxRecDepth 20000 in
theorem h_Mod_tellLaw_12 {l : Launch} {ld : Nat} {Q : Option Value → gM → gL → gR → Prop} (hld : isLa ld)   {q : gM} {L : gL} (hQ : Q none q L (rf ld))  {v1 : Int32} {v2 : Int32}  : ∀ (f : Nat) (v3 : Int32) (M : gM), H_Mod_tellLaw_12 v1 v2 f v3 M = some q → Wp l y_Mod_tellLaw (0, 0, 447) 447 0 0 12 [(0, .ref 401), (1, .int v1), (2, .int v2), (3, .int v3)] [] M L (rf ld) Q := by
  intro f
  induction f with
  | zero => intro v3 M h; cases h
  | succ f hK12 =>
    intro v3 M h
    replace h : B_Mod_tellLaw_12 v1 v2 (H_Mod_tellLaw_12 v1 v2 f) v3 M = some q := h
    unfold B_Mod_tellLaw_12 at h
    refine g_aload_n (pc1 := 13) d_Mod_tellLaw_12 rfl 0 rfl ?_
    refine g_geti (pc1 := 16) d_Mod_tellLaw_13 rfl ⟨_, fo_Mod_206⟩ sh_401 (by decide) ?_
    refine g_if_ne (pc1 := 19) (tgt := 129) d_Mod_tellLaw_16 (by decide) rfl (fun c4 => ?_) (fun c4 => ?_)
    · replace h := itn h c4
      refine Wp.loc (lv' := [(0, .ref 401), (1, .int v1), (2, .int v2)]) [0, 1, 2] rfl ?_
      exact j_Mod_tellLaw_129 hld  hQ  h
    · replace h := itp h c4
      refine g_aload_n (pc1 := 20) d_Mod_tellLaw_19 rfl 0 rfl ?_
      refine g_bipush (pc1 := 22) (v := 29) d_Mod_tellLaw_20 rfl (by decide) ?_
      refine g_callV0 (pc1 := 25) (As := [.int 29]) (rest := []) d_Mod_tellLaw_22 rfl mo_Mod_224 mi_Mod_is mv_Mod_is rfl sh_401 (by decide) (by decide) rfl rfl (Nat.le_of_ble_eq_true rfl) ?_
      obtain ⟨r17, hq16, h⟩ := bnd h
      refine f_Mod_is hld  hq16 ?_
      dsimp only [psh]
      refine g_if_eq (pc1 := 28) (tgt := 129) d_Mod_tellLaw_25 (by decide) rfl (fun c18 => ?_) (fun c18 => ?_)
      · replace h := itp h c18
        refine Wp.loc (lv' := [(0, .ref 401), (1, .int v1), (2, .int v2)]) [0, 1, 2] rfl ?_
        exact j_Mod_tellLaw_129 hld  hQ  h
      · replace h := itn h c18
        refine g_iload_n (pc1 := 29) d_Mod_tellLaw_28 rfl 3 rfl ?_
        refine g_iconst (pc1 := 30) (v := 4) d_Mod_tellLaw_29 rfl (by decide) ?_
        refine g_icmp_ne (pc1 := 33) (tgt := 38) d_Mod_tellLaw_30 (by decide) rfl (fun c19 => ?_) (fun c19 => ?_)
        · replace h := itn h c19
          exact j_Mod_tellLaw_38 hld  hQ hK12 h
        · replace h := itp h c19
          refine g_aload_n (pc1 := 34) d_Mod_tellLaw_33 rfl 0 rfl ?_
          refine g_iconst (pc1 := 35) (v := 2) d_Mod_tellLaw_34 rfl (by decide) ?_
          refine g_callV0 (pc1 := 38) (As := [.int 2]) (rest := []) d_Mod_tellLaw_35 rfl mo_Mod_221 mi_Mod_fail mv_Mod_fail rfl sh_401 (by decide) (by decide) rfl rfl (Nat.le_of_ble_eq_true rfl) ?_
          obtain ⟨M44, hq43, h⟩ := bnd h
          refine f_Mod_fail hld  hq43 ?_
          dsimp only [psh]
          exact j_Mod_tellLaw_38 hld  hQ hK12 h
def F_Mod_tellLaw (p1 : Int32) (M : gM) : Option (gM) :=
  bI (F_Mod_must 5 M) (fun M2 => nmI (M2 401 38) (fun x3 => H_Mod_tellLaw_12 p1 x3 FU 0 M2))
set_option maxHeartbeats 4000000 in
set_option maxRecDepth 20000 in
theorem f_Mod_tellLaw {l : Launch} {ld : Nat} {M : gM} {L : gL} {Q : Option Value → gM → gL → gR → Prop} (hld : isLa ld) {p1 : Int32}  {q : gM} (h : F_Mod_tellLaw p1 M = some q) (hQ : Q none q L (rf ld)) : Tm l y_Mod_tellLaw (0, 0, 447) 447 [.ref 401, .int p1] M L (rf ld) Q := by
  refine Tm.of (by decide) (Nat.le_of_ble_eq_true rfl) ?_
  show Wp l y_Mod_tellLaw (0, 0, 447) 447 0 0 0 [(0, .ref 401), (1, .int p1)] [] M L (rf ld) Q
  unfold F_Mod_tellLaw at h
  refine g_aload_n (pc1 := 1) d_Mod_tellLaw_0 rfl 0 rfl ?_
  refine g_iconst (pc1 := 2) (v := 5) d_Mod_tellLaw_1 rfl (by decide) ?_
  refine g_callV0 (pc1 := 5) (As := [.int 5]) (rest := []) d_Mod_tellLaw_2 rfl mo_Mod_281 mi_Mod_must mv_Mod_must rfl sh_401 (by decide) (by decide) rfl rfl (Nat.le_of_ble_eq_true rfl) ?_
  obtain ⟨M2, hq1, h⟩ := bnd h
  refine f_Mod_must hld  hq1 ?_
  dsimp only [psh]
  refine g_aload_n (pc1 := 6) d_Mod_tellLaw_5 rfl 0 rfl ?_
  refine g_geti (pc1 := 9) d_Mod_tellLaw_6 rfl ⟨_, fo_Mod_245⟩ sh_401 (by decide) ?_
  refine Wp.lI h (fun x3 h => ?_)
  refine g_istore_n (pc1 := 10) (lv' := [(0, .ref 401), (1, .int p1), (2, .int x3)]) d_Mod_tellLaw_9 rfl rfl (by decide) [1, 2, 0] rfl ?_
  refine g_iconst (pc1 := 11) (v := 0) d_Mod_tellLaw_10 rfl (by decide) ?_
  refine g_istore_n (pc1 := 12) (lv' := [(0, .ref 401), (1, .int p1), (2, .int x3), (3, .int 0)]) d_Mod_tellLaw_11 rfl rfl (by decide) [1, 2, 3, 0] rfl ?_
  exact h_Mod_tellLaw_12 hld  hQ  _ 0 M2 h

def J_Mod_year_105 (K61 : Int32 → Int32 → gM → Option (Int32 × gM)) (v1 : Int32) (v2 : Int32) (v3 : Int32) (v4 : Int32) (v5 : Int32) (v6 : Int32) (M : gM) : Option (Int32 × gM) :=
  nmI (v6 + 1) (fun x28 => K61 v5 x28 M)
set_option maxHeartbeats 4000000 in
set_option maxRecDepth 20000 in
theorem j_Mod_year_105 {l : Launch} {ld : Nat} {Q : Option Value → gM → gL → gR → Prop} (hld : isLa ld)   {q : Int32 × gM} {M : gM} {L : gL} (hQ : Q (some (.int q.1)) q.2 L (rf ld)) {K61 : Int32 → Int32 → gM → Option (Int32 × gM)} {v1 : Int32} {v2 : Int32} {v3 : Int32} {v4 : Int32} {v5 : Int32} {v6 : Int32} (hK61 : ∀ (w5 : Int32) (w6 : Int32) (M : gM), K61 w5 w6 M = some q → Wp l y_Mod_year (0, 0, 447) 447 0 0 61 [(0, .ref 401), (1, .int v1), (2, .int v2), (3, .int v3), (4, .int v4), (5, .int w5), (6, .int w6)] [] M L (rf ld) Q) (h : J_Mod_year_105 K61 v1 v2 v3 v4 v5 v6 M = some q) : Wp l y_Mod_year (0, 0, 447) 447 0 0 105 [(0, .ref 401), (1, .int v1), (2, .int v2), (3, .int v3), (4, .int v4), (5, .int v5), (6, .int v6)] [] M L (rf ld) Q := by
  unfold J_Mod_year_105 at h
  obtain ⟨x28, ex28, h⟩ := ltI h
  refine g_iinc (pc1 := 108) (v := x28) (lv' := [(0, .ref 401), (1, .int v1), (2, .int v2), (3, .int v3), (4, .int v4), (5, .int v5), (6, .int x28)]) d_Mod_year_105 rfl 6 rfl (by rw [ex28]; rfl) (by decide) [1, 2, 3, 4, 5, 6, 0] rfl ?_
  refine g_goto (tgt := 61) d_Mod_year_108 (by decide) ?_
  exact hK61 v5 x28 M h
def B_Mod_year_61 (v1 : Int32) (v2 : Int32) (v3 : Int32) (v4 : Int32) (K61 : Int32 → Int32 → gM → Option (Int32 × gM)) : Int32 → Int32 → gM → Option (Int32 × gM) := fun v5 v6 M =>
  (if v4 ≤ v6 then some (v5, M) else bI (F_Mod_copies M) (fun M21 => nmM (uM M21 401 54 ((M21 401 54) + v6)) (fun M22 => bI2 (F_Mod_cooks v1 M22) (fun r24 M25 => (if ((12 + v2) : Int32) < 0 ∨ 38 ≤ ((12 + v2) : Int32).toNatClampNeg then none else (if (M25 437 ((12 + v2) : Int32).toNatClampNeg) < v3 then J_Mod_year_105 K61 v1 v2 v3 v4 v5 v6 M25 else nmI (v5 + 1) (fun x29 => J_Mod_year_105 K61 v1 v2 v3 v4 x29 v6 M25)))))))
def H_Mod_year_61 (v1 : Int32) (v2 : Int32) (v3 : Int32) (v4 : Int32) : Nat → Int32 → Int32 → gM → Option (Int32 × gM) := lpK (B_Mod_year_61 v1 v2 v3 v4) (fun _ _ _ => none)
set_option maxHeartbeats 4000000 in
set_option maxRecDepth 20000 in
theorem h_Mod_year_61 {l : Launch} {ld : Nat} {Q : Option Value → gM → gL → gR → Prop} (hld : isLa ld)   {q : Int32 × gM} {L : gL} (hQ : Q (some (.int q.1)) q.2 L (rf ld))  {v1 : Int32} {v2 : Int32} {v3 : Int32} {v4 : Int32}  : ∀ (f : Nat) (v5 : Int32) (v6 : Int32) (M : gM), H_Mod_year_61 v1 v2 v3 v4 f v5 v6 M = some q → Wp l y_Mod_year (0, 0, 447) 447 0 0 61 [(0, .ref 401), (1, .int v1), (2, .int v2), (3, .int v3), (4, .int v4), (5, .int v5), (6, .int v6)] [] M L (rf ld) Q := by
  intro f
  induction f with
  | zero => intro v5 v6 M h; cases h
  | succ f hK61 =>
    intro v5 v6 M h
    replace h : B_Mod_year_61 v1 v2 v3 v4 (H_Mod_year_61 v1 v2 v3 v4 f) v5 v6 M = some q := h
    unfold B_Mod_year_61 at h
    refine g_iload (pc1 := 63) d_Mod_year_61 rfl 6 rfl ?_
    refine g_iload (pc1 := 65) d_Mod_year_63 rfl 4 rfl ?_
    refine g_icmp_ge (pc1 := 68) (tgt := 111) d_Mod_year_65 (by decide) rfl (fun c19 => ?_) (fun c19 => ?_)
    · replace h := itp h c19
      refine g_iload (pc1 := 113) d_Mod_year_111 rfl 5 rfl ?_
      refine g_ireturn (Or.inl rfl) d_Mod_year_113 rfl ?_
      cases h; exact hQ
    · replace h := itn h c19
      refine g_aload_n (pc1 := 69) d_Mod_year_68 rfl 0 rfl ?_
      refine g_callV0 (pc1 := 72) (As := []) (rest := []) d_Mod_year_69 rfl mo_Mod_377 mi_Mod_copies mv_Mod_copies rfl sh_401 (by decide) (by decide) rfl rfl (Nat.le_of_ble_eq_true rfl) ?_
      obtain ⟨M21, hq20, h⟩ := bnd h
      refine f_Mod_copies hld  hq20 ?_
      dsimp only [psh]
      refine g_aload_n (pc1 := 73) d_Mod_year_72 rfl 0 rfl ?_
      refine g_dup (pc1 := 74) d_Mod_year_73 rfl rfl ?_
      refine g_geti (pc1 := 77) d_Mod_year_74 rfl ⟨_, fo_Mod_320⟩ sh_401 (by decide) ?_
      refine g_iload (pc1 := 79) d_Mod_year_77 rfl 6 rfl ?_
      refine g_iadd (pc1 := 80) d_Mod_year_79 rfl ?_
      refine g_puti (pc1 := 83) d_Mod_year_80 rfl fo_Mod_320 (po_12_54 _) sh_401 (by decide) ?_
      refine Wp.lM h (fun M22 h => ?_)
      refine g_aload_n (pc1 := 84) d_Mod_year_83 rfl 0 rfl ?_
      refine g_iload_n (pc1 := 85) d_Mod_year_84 rfl 1 rfl ?_
      refine g_callV0 (pc1 := 88) (As := [.int v1]) (rest := []) d_Mod_year_85 rfl mo_Mod_389 mi_Mod_cooks mv_Mod_cooks rfl sh_401 (by decide) (by decide) rfl rfl (Nat.le_of_ble_eq_true rfl) ?_
      obtain ⟨r24, M25, hq23, h⟩ := bnd2 h
      refine f_Mod_cooks hld  hq23 ?_
      dsimp only [psh]
      refine g_pop (pc1 := 89) d_Mod_year_88 rfl rfl ?_
      refine g_aload_n (pc1 := 90) d_Mod_year_89 rfl 0 rfl ?_
      refine g_getr (pc1 := 93) d_Mod_year_90 rfl ⟨_, fo_Mod_125⟩ sh_401 (by decide) (rf_401_53 ld) ?_
      refine g_bipush (pc1 := 95) (v := 12) d_Mod_year_93 rfl (by decide) ?_
      refine g_iload_n (pc1 := 96) d_Mod_year_95 rfl 2 rfl ?_
      refine g_iadd (pc1 := 97) d_Mod_year_96 rfl ?_
      obtain ⟨g26, h⟩ := gdn h
      refine g_iald (pc1 := 98) d_Mod_year_97 rfl sh_437 (by decide) g26 ?_
      refine g_iload_n (pc1 := 99) d_Mod_year_98 rfl 3 rfl ?_
      refine g_icmp_lt (pc1 := 102) (tgt := 105) d_Mod_year_99 (by decide) rfl (fun c27 => ?_) (fun c27 => ?_)
      · replace h := itp h c27
        exact j_Mod_year_105 hld  hQ hK61 h
      · replace h := itn h c27
        obtain ⟨x29, ex29, h⟩ := ltI h
        refine g_iinc (pc1 := 105) (v := x29) (lv' := [(0, .ref 401), (1, .int v1), (2, .int v2), (3, .int v3), (4, .int v4), (5, .int x29), (6, .int v6)]) d_Mod_year_102 rfl 5 rfl (by rw [ex29]; rfl) (by decide) [1, 2, 3, 4, 5, 0, 6] rfl ?_
        exact j_Mod_year_105 hld  hQ hK61 h
def F_Mod_year (p1 : Int32) (p2 : Int32) (p3 : Int32) (p4 : Int32) (M : gM) : Option (Int32 × gM) :=
  bI (F_Mod_isDish p1 M) (fun r2 => (if r2 = 0 then some ((-1), M) else bI (F_Mod_in p2 0 2) (fun r5 => (if r5 = 0 then some ((-1), M) else bI (F_Mod_in p3 0 99) (fun r8 => (if r8 = 0 then some ((-1), M) else bI (F_Mod_in p4 1 20) (fun r11 => (if r11 = 0 then some ((-1), M) else bI (F_Mod_copies M) (fun M14 => bI2 (F_Mod_isInStore p1 M14) (fun r16 M17 => (if r16 = 0 then some ((-2), M17) else H_Mod_year_61 p1 p2 p3 p4 FU 0 0 M17)))))))))))
set_option maxHeartbeats 4000000 in
set_option maxRecDepth 20000 in
theorem f_Mod_year {l : Launch} {ld : Nat} {M : gM} {L : gL} {Q : Option Value → gM → gL → gR → Prop} (hld : isLa ld) {p1 : Int32} {p2 : Int32} {p3 : Int32} {p4 : Int32}  {q : Int32 × gM} (h : F_Mod_year p1 p2 p3 p4 M = some q) (hQ : Q (some (.int q.1)) q.2 L (rf ld)) : Tm l y_Mod_year (0, 0, 447) 447 [.ref 401, .int p1, .int p2, .int p3, .int p4] M L (rf ld) Q := by
  refine Tm.of (by decide) (Nat.le_of_ble_eq_true rfl) ?_
  show Wp l y_Mod_year (0, 0, 447) 447 0 0 0 [(0, .ref 401), (1, .int p1), (2, .int p2), (3, .int p3), (4, .int p4)] [] M L (rf ld) Q
  unfold F_Mod_year at h
  refine g_aload_n (pc1 := 1) d_Mod_year_0 rfl 0 rfl ?_
  refine g_iload_n (pc1 := 2) d_Mod_year_1 rfl 1 rfl ?_
  refine g_callV0 (pc1 := 5) (As := [.int p1]) (rest := []) d_Mod_year_2 rfl mo_Mod_374 mi_Mod_isDish mv_Mod_isDish rfl sh_401 (by decide) (by decide) rfl rfl (Nat.le_of_ble_eq_true rfl) ?_
  obtain ⟨r2, hq1, h⟩ := bnd h
  refine f_Mod_isDish hld  hq1 ?_
  dsimp only [psh]
  refine g_if_eq (pc1 := 8) (tgt := 38) d_Mod_year_5 (by decide) rfl (fun c3 => ?_) (fun c3 => ?_)
  · replace h := itp h c3
    refine g_iconst (pc1 := 39) (v := (-1)) d_Mod_year_38 rfl (by decide) ?_
    refine g_ireturn (Or.inl rfl) d_Mod_year_39 rfl ?_
    cases h; exact hQ
  · replace h := itn h c3
    refine g_iload_n (pc1 := 9) d_Mod_year_8 rfl 2 rfl ?_
    refine g_iconst (pc1 := 10) (v := 0) d_Mod_year_9 rfl (by decide) ?_
    refine g_iconst (pc1 := 11) (v := 2) d_Mod_year_10 rfl (by decide) ?_
    refine g_callS0 (pc1 := 14) (As := [.int p2, .int 0, .int 2]) (rest := []) d_Mod_year_11 rfl mo_Mod_316 ms_Mod_in (by decide) rfl rfl (Nat.le_of_ble_eq_true rfl) ?_
    obtain ⟨r5, hq4, h⟩ := bnd h
    refine f_Mod_in hld  hq4 ?_
    dsimp only [psh]
    refine g_if_eq (pc1 := 17) (tgt := 38) d_Mod_year_14 (by decide) rfl (fun c6 => ?_) (fun c6 => ?_)
    · replace h := itp h c6
      refine g_iconst (pc1 := 39) (v := (-1)) d_Mod_year_38 rfl (by decide) ?_
      refine g_ireturn (Or.inl rfl) d_Mod_year_39 rfl ?_
      cases h; exact hQ
    · replace h := itn h c6
      refine g_iload_n (pc1 := 18) d_Mod_year_17 rfl 3 rfl ?_
      refine g_iconst (pc1 := 19) (v := 0) d_Mod_year_18 rfl (by decide) ?_
      refine g_bipush (pc1 := 21) (v := 99) d_Mod_year_19 rfl (by decide) ?_
      refine g_callS0 (pc1 := 24) (As := [.int p3, .int 0, .int 99]) (rest := []) d_Mod_year_21 rfl mo_Mod_316 ms_Mod_in (by decide) rfl rfl (Nat.le_of_ble_eq_true rfl) ?_
      obtain ⟨r8, hq7, h⟩ := bnd h
      refine f_Mod_in hld  hq7 ?_
      dsimp only [psh]
      refine g_if_eq (pc1 := 27) (tgt := 38) d_Mod_year_24 (by decide) rfl (fun c9 => ?_) (fun c9 => ?_)
      · replace h := itp h c9
        refine g_iconst (pc1 := 39) (v := (-1)) d_Mod_year_38 rfl (by decide) ?_
        refine g_ireturn (Or.inl rfl) d_Mod_year_39 rfl ?_
        cases h; exact hQ
      · replace h := itn h c9
        refine g_iload (pc1 := 29) d_Mod_year_27 rfl 4 rfl ?_
        refine g_iconst (pc1 := 30) (v := 1) d_Mod_year_29 rfl (by decide) ?_
        refine g_bipush (pc1 := 32) (v := 20) d_Mod_year_30 rfl (by decide) ?_
        refine g_callS0 (pc1 := 35) (As := [.int p4, .int 1, .int 20]) (rest := []) d_Mod_year_32 rfl mo_Mod_316 ms_Mod_in (by decide) rfl rfl (Nat.le_of_ble_eq_true rfl) ?_
        obtain ⟨r11, hq10, h⟩ := bnd h
        refine f_Mod_in hld  hq10 ?_
        dsimp only [psh]
        refine g_if_ne (pc1 := 38) (tgt := 40) d_Mod_year_35 (by decide) rfl (fun c12 => ?_) (fun c12 => ?_)
        · replace h := itn h c12
          refine g_aload_n (pc1 := 41) d_Mod_year_40 rfl 0 rfl ?_
          refine g_callV0 (pc1 := 44) (As := []) (rest := []) d_Mod_year_41 rfl mo_Mod_377 mi_Mod_copies mv_Mod_copies rfl sh_401 (by decide) (by decide) rfl rfl (Nat.le_of_ble_eq_true rfl) ?_
          obtain ⟨M14, hq13, h⟩ := bnd h
          refine f_Mod_copies hld  hq13 ?_
          dsimp only [psh]
          refine g_aload_n (pc1 := 45) d_Mod_year_44 rfl 0 rfl ?_
          refine g_iload_n (pc1 := 46) d_Mod_year_45 rfl 1 rfl ?_
          refine g_callV0 (pc1 := 49) (As := [.int p1]) (rest := []) d_Mod_year_46 rfl mo_Mod_386 mi_Mod_isInStore mv_Mod_isInStore rfl sh_401 (by decide) (by decide) rfl rfl (Nat.le_of_ble_eq_true rfl) ?_
          obtain ⟨r16, M17, hq15, h⟩ := bnd2 h
          refine f_Mod_isInStore hld  hq15 ?_
          dsimp only [psh]
          refine g_if_ne (pc1 := 52) (tgt := 55) d_Mod_year_49 (by decide) rfl (fun c18 => ?_) (fun c18 => ?_)
          · replace h := itn h c18
            refine g_iconst (pc1 := 56) (v := 0) d_Mod_year_55 rfl (by decide) ?_
            refine g_istore (pc1 := 58) (lv' := [(0, .ref 401), (1, .int p1), (2, .int p2), (3, .int p3), (4, .int p4), (5, .int 0)]) d_Mod_year_56 rfl (by decide) [1, 2, 3, 4, 5, 0] rfl ?_
            refine g_iconst (pc1 := 59) (v := 0) d_Mod_year_58 rfl (by decide) ?_
            refine g_istore (pc1 := 61) (lv' := [(0, .ref 401), (1, .int p1), (2, .int p2), (3, .int p3), (4, .int p4), (5, .int 0), (6, .int 0)]) d_Mod_year_59 rfl (by decide) [1, 2, 3, 4, 5, 6, 0] rfl ?_
            exact h_Mod_year_61 hld  hQ  _ 0 0 M17 h
          · replace h := itp h c18
            refine g_bipush (pc1 := 54) (v := (-2)) d_Mod_year_52 rfl (by decide) ?_
            refine g_ireturn (Or.inl rfl) d_Mod_year_54 rfl ?_
            cases h; exact hQ
        · replace h := itp h c12
          refine g_iconst (pc1 := 39) (v := (-1)) d_Mod_year_38 rfl (by decide) ?_
          refine g_ireturn (Or.inl rfl) d_Mod_year_39 rfl ?_
          cases h; exact hQ

def J_Mod_blame_50 (K22 : Int32 → Int32 → gM → Option (Int32 × gM)) (v1 : Int32) (v2 : Int32) (v3 : Int32) (M : gM) : Option (Int32 × gM) :=
  nmI (v3 + 1) (fun x12 => K22 v2 x12 M)
set_option maxHeartbeats 4000000 in
set_option maxRecDepth 20000 in
theorem j_Mod_blame_50 {l : Launch} {ld : Nat} {Q : Option Value → gM → gL → gR → Prop} (hld : isLa ld)   {q : Int32 × gM} {M : gM} {L : gL} (hQ : Q (some (.int q.1)) q.2 L (rf ld)) {K22 : Int32 → Int32 → gM → Option (Int32 × gM)} {v1 : Int32} {v2 : Int32} {v3 : Int32} (hK22 : ∀ (w2 : Int32) (w3 : Int32) (M : gM), K22 w2 w3 M = some q → Wp l y_Mod_blame (0, 0, 447) 447 0 0 22 [(0, .ref 401), (1, .int v1), (2, .int w2), (3, .int w3)] [] M L (rf ld) Q) (h : J_Mod_blame_50 K22 v1 v2 v3 M = some q) : Wp l y_Mod_blame (0, 0, 447) 447 0 0 50 [(0, .ref 401), (1, .int v1), (2, .int v2), (3, .int v3)] [] M L (rf ld) Q := by
  unfold J_Mod_blame_50 at h
  obtain ⟨x12, ex12, h⟩ := ltI h
  refine g_iinc (pc1 := 53) (v := x12) (lv' := [(0, .ref 401), (1, .int v1), (2, .int v2), (3, .int x12)]) d_Mod_blame_50 rfl 3 rfl (by rw [ex12]; rfl) (by decide) [1, 2, 3, 0] rfl ?_
  refine g_goto (tgt := 22) d_Mod_blame_53 (by decide) ?_
  exact hK22 v2 x12 M h
def B_Mod_blame_22 (v1 : Int32) (K22 : Int32 → Int32 → gM → Option (Int32 × gM)) : Int32 → Int32 → gM → Option (Int32 × gM) := fun v2 v3 M =>
  (if ((M 401 18) : Int32) < 0 ∨ 2 ≤ ((M 401 18) : Int32).toNatClampNeg then none else (if (13 * (M 415 ((M 401 18) : Int32).toNatClampNeg)) ≤ v3 then some (v2, M) else bI2 (F_Mod_isWay v3 v1 M) (fun r9 M10 => (if r9 = 0 then J_Mod_blame_50 K22 v1 v2 v3 M10 else nmI (v2 + 1) (fun x13 => J_Mod_blame_50 K22 v1 x13 v3 M10)))))
def H_Mod_blame_22 (v1 : Int32) : Nat → Int32 → Int32 → gM → Option (Int32 × gM) := lpK (B_Mod_blame_22 v1) (fun _ _ _ => none)
set_option maxHeartbeats 4000000 in
set_option maxRecDepth 20000 in
theorem h_Mod_blame_22 {l : Launch} {ld : Nat} {Q : Option Value → gM → gL → gR → Prop} (hld : isLa ld)   {q : Int32 × gM} {L : gL} (hQ : Q (some (.int q.1)) q.2 L (rf ld))  {v1 : Int32}  : ∀ (f : Nat) (v2 : Int32) (v3 : Int32) (M : gM), H_Mod_blame_22 v1 f v2 v3 M = some q → Wp l y_Mod_blame (0, 0, 447) 447 0 0 22 [(0, .ref 401), (1, .int v1), (2, .int v2), (3, .int v3)] [] M L (rf ld) Q := by
  intro f
  induction f with
  | zero => intro v2 v3 M h; cases h
  | succ f hK22 =>
    intro v2 v3 M h
    replace h : B_Mod_blame_22 v1 (H_Mod_blame_22 v1 f) v2 v3 M = some q := h
    unfold B_Mod_blame_22 at h
    refine g_iload_n (pc1 := 23) d_Mod_blame_22 rfl 3 rfl ?_
    refine g_bipush (pc1 := 25) (v := 13) d_Mod_blame_23 rfl (by decide) ?_
    refine g_aload_n (pc1 := 26) d_Mod_blame_25 rfl 0 rfl ?_
    refine g_getr (pc1 := 29) d_Mod_blame_26 rfl ⟨_, fo_Mod_58⟩ sh_401 (by decide) (rf_401_27 ld) ?_
    refine g_aload_n (pc1 := 30) d_Mod_blame_29 rfl 0 rfl ?_
    refine g_geti (pc1 := 33) d_Mod_blame_30 rfl ⟨_, fo_Mod_236⟩ sh_401 (by decide) ?_
    obtain ⟨g6, h⟩ := gdn h
    refine g_iald (pc1 := 34) d_Mod_blame_33 rfl sh_415 (by decide) g6 ?_
    refine g_imul (pc1 := 35) d_Mod_blame_34 rfl ?_
    refine g_icmp_ge (pc1 := 38) (tgt := 56) d_Mod_blame_35 (by decide) rfl (fun c7 => ?_) (fun c7 => ?_)
    · replace h := itp h c7
      refine g_iload_n (pc1 := 57) d_Mod_blame_56 rfl 2 rfl ?_
      refine g_ireturn (Or.inl rfl) d_Mod_blame_57 rfl ?_
      cases h; exact hQ
    · replace h := itn h c7
      refine g_aload_n (pc1 := 39) d_Mod_blame_38 rfl 0 rfl ?_
      refine g_iload_n (pc1 := 40) d_Mod_blame_39 rfl 3 rfl ?_
      refine g_iload_n (pc1 := 41) d_Mod_blame_40 rfl 1 rfl ?_
      refine g_callV0 (pc1 := 44) (As := [.int v3, .int v1]) (rest := []) d_Mod_blame_41 rfl mo_Mod_455 mi_Mod_isWay mv_Mod_isWay rfl sh_401 (by decide) (by decide) rfl rfl (Nat.le_of_ble_eq_true rfl) ?_
      obtain ⟨r9, M10, hq8, h⟩ := bnd2 h
      refine f_Mod_isWay hld  hq8 ?_
      dsimp only [psh]
      refine g_if_eq (pc1 := 47) (tgt := 50) d_Mod_blame_44 (by decide) rfl (fun c11 => ?_) (fun c11 => ?_)
      · replace h := itp h c11
        exact j_Mod_blame_50 hld  hQ hK22 h
      · replace h := itn h c11
        obtain ⟨x13, ex13, h⟩ := ltI h
        refine g_iinc (pc1 := 50) (v := x13) (lv' := [(0, .ref 401), (1, .int v1), (2, .int x13), (3, .int v3)]) d_Mod_blame_47 rfl 2 rfl (by rw [ex13]; rfl) (by decide) [1, 2, 0, 3] rfl ?_
        exact j_Mod_blame_50 hld  hQ hK22 h
def F_Mod_blame (p1 : Int32) (M : gM) : Option (Int32 × gM) :=
  bI (F_Mod_in p1 0 (M 401 64)) (fun r2 => (if r2 = 0 then some ((-1), M) else bI (F_Mod_copies M) (fun M5 => H_Mod_blame_22 p1 FU 0 0 M5)))
set_option maxHeartbeats 4000000 in
set_option maxRecDepth 20000 in
theorem f_Mod_blame {l : Launch} {ld : Nat} {M : gM} {L : gL} {Q : Option Value → gM → gL → gR → Prop} (hld : isLa ld) {p1 : Int32}  {q : Int32 × gM} (h : F_Mod_blame p1 M = some q) (hQ : Q (some (.int q.1)) q.2 L (rf ld)) : Tm l y_Mod_blame (0, 0, 447) 447 [.ref 401, .int p1] M L (rf ld) Q := by
  refine Tm.of (by decide) (Nat.le_of_ble_eq_true rfl) ?_
  show Wp l y_Mod_blame (0, 0, 447) 447 0 0 0 [(0, .ref 401), (1, .int p1)] [] M L (rf ld) Q
  unfold F_Mod_blame at h
  refine g_iload_n (pc1 := 1) d_Mod_blame_0 rfl 1 rfl ?_
  refine g_iconst (pc1 := 2) (v := 0) d_Mod_blame_1 rfl (by decide) ?_
  refine g_aload_n (pc1 := 3) d_Mod_blame_2 rfl 0 rfl ?_
  refine g_geti (pc1 := 6) d_Mod_blame_3 rfl ⟨_, fo_Mod_257⟩ sh_401 (by decide) ?_
  refine g_callS0 (pc1 := 9) (As := [.int p1, .int 0, .int (M 401 64)]) (rest := []) d_Mod_blame_6 rfl mo_Mod_316 ms_Mod_in (by decide) rfl rfl (Nat.le_of_ble_eq_true rfl) ?_
  obtain ⟨r2, hq1, h⟩ := bnd h
  refine f_Mod_in hld  hq1 ?_
  dsimp only [psh]
  refine g_if_ne (pc1 := 12) (tgt := 14) d_Mod_blame_9 (by decide) rfl (fun c3 => ?_) (fun c3 => ?_)
  · replace h := itn h c3
    refine g_aload_n (pc1 := 15) d_Mod_blame_14 rfl 0 rfl ?_
    refine g_callV0 (pc1 := 18) (As := []) (rest := []) d_Mod_blame_15 rfl mo_Mod_377 mi_Mod_copies mv_Mod_copies rfl sh_401 (by decide) (by decide) rfl rfl (Nat.le_of_ble_eq_true rfl) ?_
    obtain ⟨M5, hq4, h⟩ := bnd h
    refine f_Mod_copies hld  hq4 ?_
    dsimp only [psh]
    refine g_iconst (pc1 := 19) (v := 0) d_Mod_blame_18 rfl (by decide) ?_
    refine g_istore_n (pc1 := 20) (lv' := [(0, .ref 401), (1, .int p1), (2, .int 0)]) d_Mod_blame_19 rfl rfl (by decide) [1, 2, 0] rfl ?_
    refine g_iconst (pc1 := 21) (v := 0) d_Mod_blame_20 rfl (by decide) ?_
    refine g_istore_n (pc1 := 22) (lv' := [(0, .ref 401), (1, .int p1), (2, .int 0), (3, .int 0)]) d_Mod_blame_21 rfl rfl (by decide) [1, 2, 3, 0] rfl ?_
    exact h_Mod_blame_22 hld  hQ  _ 0 0 M5 h
  · replace h := itp h c3
    refine g_iconst (pc1 := 13) (v := (-1)) d_Mod_blame_12 rfl (by decide) ?_
    refine g_ireturn (Or.inl rfl) d_Mod_blame_13 rfl ?_
    cases h; exact hQ

def J_Mod_deed_106 (K75 : Int32 → Int32 → gM → Option (Int32 × gM)) (v1 : Int32) (v3 : Int32) (v4 : Int32) (M : gM) : Option (Int32 × gM) :=
  nmI (v4 + 1) (fun x17 => K75 v3 x17 M)
set_option maxHeartbeats 4000000 in
set_option maxRecDepth 20000 in
theorem j_Mod_deed_106 {l : Launch} {ld : Nat} {Q : Option Value → gM → gL → gR → Prop} (hld : isLa ld)   {q : Int32 × gM} {M : gM} {L : gL} (hQ : Q (some (.int q.1)) q.2 L (rf ld)) {K75 : Int32 → Int32 → gM → Option (Int32 × gM)} {v1 : Int32} {v3 : Int32} {v4 : Int32} (hK75 : ∀ (w3 : Int32) (w4 : Int32) (M : gM), K75 w3 w4 M = some q → Wp l y_Mod_deed (0, 0, 447) 447 0 0 75 [(0, .ref 401), (1, .int v1), (3, .int w3), (4, .int w4)] [] M L (rf ld) Q) (h : J_Mod_deed_106 K75 v1 v3 v4 M = some q) : Wp l y_Mod_deed (0, 0, 447) 447 0 0 106 [(0, .ref 401), (1, .int v1), (3, .int v3), (4, .int v4)] [] M L (rf ld) Q := by
  unfold J_Mod_deed_106 at h
  obtain ⟨x17, ex17, h⟩ := ltI h
  refine g_iinc (pc1 := 109) (v := x17) (lv' := [(0, .ref 401), (1, .int v1), (3, .int v3), (4, .int x17)]) d_Mod_deed_106 rfl 3 rfl (by rw [ex17]; rfl) (by decide) [1, 2, 3, 0] rfl ?_
  refine g_goto (tgt := 75) d_Mod_deed_109 (by decide) ?_
  exact hK75 v3 x17 M h
def B_Mod_deed_75 (v1 : Int32) (K75 : Int32 → Int32 → gM → Option (Int32 × gM)) : Int32 → Int32 → gM → Option (Int32 × gM) := fun v3 v4 M =>
  (if ((M 401 18) : Int32) < 0 ∨ 2 ≤ ((M 401 18) : Int32).toNatClampNeg then none else (if (M 418 ((M 401 18) : Int32).toNatClampNeg) ≤ v4 then some (v3, M) else bI2 (F_Mod_isFree v4 v1 M) (fun r14 M15 => (if r14 = 0 then J_Mod_deed_106 K75 v1 v3 v4 M15 else nmI (v3 ||| (1 <<< (v4 &&& 31))) (fun x18 => J_Mod_deed_106 K75 v1 x18 v4 M15)))))
def H_Mod_deed_75 (v1 : Int32) : Nat → Int32 → Int32 → gM → Option (Int32 × gM) := lpK (B_Mod_deed_75 v1) (fun _ _ _ => none)
set_option maxHeartbeats 4000000 in
set_option maxRecDepth 20000 in
theorem h_Mod_deed_75 {l : Launch} {ld : Nat} {Q : Option Value → gM → gL → gR → Prop} (hld : isLa ld)   {q : Int32 × gM} {L : gL} (hQ : Q (some (.int q.1)) q.2 L (rf ld))  {v1 : Int32}  : ∀ (f : Nat) (v3 : Int32) (v4 : Int32) (M : gM), H_Mod_deed_75 v1 f v3 v4 M = some q → Wp l y_Mod_deed (0, 0, 447) 447 0 0 75 [(0, .ref 401), (1, .int v1), (3, .int v3), (4, .int v4)] [] M L (rf ld) Q := by
  intro f
  induction f with
  | zero => intro v3 v4 M h; cases h
  | succ f hK75 =>
    intro v3 v4 M h
    replace h : B_Mod_deed_75 v1 (H_Mod_deed_75 v1 f) v3 v4 M = some q := h
    unfold B_Mod_deed_75 at h
    refine g_iload (pc1 := 77) d_Mod_deed_75 rfl 3 rfl ?_
    refine g_aload_n (pc1 := 78) d_Mod_deed_77 rfl 0 rfl ?_
    refine g_getr (pc1 := 81) d_Mod_deed_78 rfl ⟨_, fo_Mod_67⟩ sh_401 (by decide) (rf_401_30 ld) ?_
    refine g_aload_n (pc1 := 82) d_Mod_deed_81 rfl 0 rfl ?_
    refine g_geti (pc1 := 85) d_Mod_deed_82 rfl ⟨_, fo_Mod_236⟩ sh_401 (by decide) ?_
    obtain ⟨g11, h⟩ := gdn h
    refine g_iald (pc1 := 86) d_Mod_deed_85 rfl sh_418 (by decide) g11 ?_
    refine g_icmp_ge (pc1 := 89) (tgt := 112) d_Mod_deed_86 (by decide) rfl (fun c12 => ?_) (fun c12 => ?_)
    · replace h := itp h c12
      refine g_iload_n (pc1 := 113) d_Mod_deed_112 rfl 2 rfl ?_
      refine g_ireturn (Or.inl rfl) d_Mod_deed_113 rfl ?_
      cases h; exact hQ
    · replace h := itn h c12
      refine g_aload_n (pc1 := 90) d_Mod_deed_89 rfl 0 rfl ?_
      refine g_iload (pc1 := 92) d_Mod_deed_90 rfl 3 rfl ?_
      refine g_iload_n (pc1 := 93) d_Mod_deed_92 rfl 1 rfl ?_
      refine g_callV0 (pc1 := 96) (As := [.int v4, .int v1]) (rest := []) d_Mod_deed_93 rfl mo_Mod_352 mi_Mod_isFree mv_Mod_isFree rfl sh_401 (by decide) (by decide) rfl rfl (Nat.le_of_ble_eq_true rfl) ?_
      obtain ⟨r14, M15, hq13, h⟩ := bnd2 h
      refine f_Mod_isFree hld  hq13 ?_
      dsimp only [psh]
      refine g_if_eq (pc1 := 99) (tgt := 106) d_Mod_deed_96 (by decide) rfl (fun c16 => ?_) (fun c16 => ?_)
      · replace h := itp h c16
        exact j_Mod_deed_106 hld  hQ hK75 h
      · replace h := itn h c16
        refine g_iload_n (pc1 := 100) d_Mod_deed_99 rfl 2 rfl ?_
        refine g_iconst (pc1 := 101) (v := 1) d_Mod_deed_100 rfl (by decide) ?_
        refine g_iload (pc1 := 103) d_Mod_deed_101 rfl 3 rfl ?_
        refine g_ishl (pc1 := 104) d_Mod_deed_103 rfl ?_
        refine g_ior (pc1 := 105) d_Mod_deed_104 rfl ?_
        refine Wp.lI h (fun x18 h => ?_)
        refine g_istore_n (pc1 := 106) (lv' := [(0, .ref 401), (1, .int v1), (3, .int x18), (4, .int v4)]) d_Mod_deed_105 rfl rfl (by decide) [1, 2, 0, 3] rfl ?_
        exact j_Mod_deed_106 hld  hQ hK75 h
def F_Mod_deed (p1 : Int32) (p2 : Int32) (M : gM) : Option (Int32 × gM) :=
  bI (F_Mod_isDeed p1 M) (fun r2 => (if r2 = 0 then some ((-1), M) else bI (F_Mod_copies M) (fun M5 => (if p2 = 0 then (if (((6 * (M5 401 18)) + p1) : Int32) < 0 ∨ 12 ≤ (((6 * (M5 401 18)) + p1) : Int32).toNatClampNeg then none else some ((M5 421 (((6 * (M5 401 18)) + p1) : Int32).toNatClampNeg), M5)) else (if p2 = 1 then (if (((6 * (M5 401 18)) + p1) : Int32) < 0 ∨ 12 ≤ (((6 * (M5 401 18)) + p1) : Int32).toNatClampNeg then none else some ((M5 422 (((6 * (M5 401 18)) + p1) : Int32).toNatClampNeg), M5)) else (if p2 = 2 then H_Mod_deed_75 p1 FU 0 0 M5 else some ((-1), M5)))))))
set_option maxHeartbeats 4000000 in
set_option maxRecDepth 20000 in
theorem f_Mod_deed {l : Launch} {ld : Nat} {M : gM} {L : gL} {Q : Option Value → gM → gL → gR → Prop} (hld : isLa ld) {p1 : Int32} {p2 : Int32}  {q : Int32 × gM} (h : F_Mod_deed p1 p2 M = some q) (hQ : Q (some (.int q.1)) q.2 L (rf ld)) : Tm l y_Mod_deed (0, 0, 447) 447 [.ref 401, .int p1, .int p2] M L (rf ld) Q := by
  refine Tm.of (by decide) (Nat.le_of_ble_eq_true rfl) ?_
  show Wp l y_Mod_deed (0, 0, 447) 447 0 0 0 [(0, .ref 401), (1, .int p1), (2, .int p2)] [] M L (rf ld) Q
  unfold F_Mod_deed at h
  refine g_aload_n (pc1 := 1) d_Mod_deed_0 rfl 0 rfl ?_
  refine g_iload_n (pc1 := 2) d_Mod_deed_1 rfl 1 rfl ?_
  refine g_callV0 (pc1 := 5) (As := [.int p1]) (rest := []) d_Mod_deed_2 rfl mo_Mod_383 mi_Mod_isDeed mv_Mod_isDeed rfl sh_401 (by decide) (by decide) rfl rfl (Nat.le_of_ble_eq_true rfl) ?_
  obtain ⟨r2, hq1, h⟩ := bnd h
  refine f_Mod_isDeed hld  hq1 ?_
  dsimp only [psh]
  refine g_if_ne (pc1 := 8) (tgt := 10) d_Mod_deed_5 (by decide) rfl (fun c3 => ?_) (fun c3 => ?_)
  · replace h := itn h c3
    refine g_aload_n (pc1 := 11) d_Mod_deed_10 rfl 0 rfl ?_
    refine g_callV0 (pc1 := 14) (As := []) (rest := []) d_Mod_deed_11 rfl mo_Mod_377 mi_Mod_copies mv_Mod_copies rfl sh_401 (by decide) (by decide) rfl rfl (Nat.le_of_ble_eq_true rfl) ?_
    obtain ⟨M5, hq4, h⟩ := bnd h
    refine f_Mod_copies hld  hq4 ?_
    dsimp only [psh]
    refine g_iload_n (pc1 := 15) d_Mod_deed_14 rfl 2 rfl ?_
    by_cases c6 : p2 = 0
    · replace h := itp h c6
      refine g_tabK (tgt := 40) (off := 25) d_Mod_deed_15 c6 (by decide) (by decide) (by decide) (by decide) ?_
      refine g_aload_n (pc1 := 41) d_Mod_deed_40 rfl 0 rfl ?_
      refine g_getr (pc1 := 44) d_Mod_deed_41 rfl ⟨_, fo_Mod_76⟩ sh_401 (by decide) (rf_401_33 ld) ?_
      refine g_bipush (pc1 := 46) (v := 6) d_Mod_deed_44 rfl (by decide) ?_
      refine g_aload_n (pc1 := 47) d_Mod_deed_46 rfl 0 rfl ?_
      refine g_geti (pc1 := 50) d_Mod_deed_47 rfl ⟨_, fo_Mod_236⟩ sh_401 (by decide) ?_
      refine g_imul (pc1 := 51) d_Mod_deed_50 rfl ?_
      refine g_iload_n (pc1 := 52) d_Mod_deed_51 rfl 1 rfl ?_
      refine g_iadd (pc1 := 53) d_Mod_deed_52 rfl ?_
      obtain ⟨g7, h⟩ := gdn h
      refine g_iald (pc1 := 54) d_Mod_deed_53 rfl sh_421 (by decide) g7 ?_
      refine g_ireturn (Or.inl rfl) d_Mod_deed_54 rfl ?_
      cases h; exact hQ
    replace h := itn h c6
    by_cases c8 : p2 = 1
    · replace h := itp h c8
      refine g_tabK (tgt := 55) (off := 40) d_Mod_deed_15 c8 (by decide) (by decide) (by decide) (by decide) ?_
      refine g_aload_n (pc1 := 56) d_Mod_deed_55 rfl 0 rfl ?_
      refine g_getr (pc1 := 59) d_Mod_deed_56 rfl ⟨_, fo_Mod_79⟩ sh_401 (by decide) (rf_401_34 ld) ?_
      refine g_bipush (pc1 := 61) (v := 6) d_Mod_deed_59 rfl (by decide) ?_
      refine g_aload_n (pc1 := 62) d_Mod_deed_61 rfl 0 rfl ?_
      refine g_geti (pc1 := 65) d_Mod_deed_62 rfl ⟨_, fo_Mod_236⟩ sh_401 (by decide) ?_
      refine g_imul (pc1 := 66) d_Mod_deed_65 rfl ?_
      refine g_iload_n (pc1 := 67) d_Mod_deed_66 rfl 1 rfl ?_
      refine g_iadd (pc1 := 68) d_Mod_deed_67 rfl ?_
      obtain ⟨g9, h⟩ := gdn h
      refine g_iald (pc1 := 69) d_Mod_deed_68 rfl sh_422 (by decide) g9 ?_
      refine g_ireturn (Or.inl rfl) d_Mod_deed_69 rfl ?_
      cases h; exact hQ
    replace h := itn h c8
    by_cases c10 : p2 = 2
    · replace h := itp h c10
      refine g_tabK (tgt := 70) (off := 55) d_Mod_deed_15 c10 (by decide) (by decide) (by decide) (by decide) ?_
      refine g_iconst (pc1 := 71) (v := 0) d_Mod_deed_70 rfl (by decide) ?_
      refine g_istore_n (pc1 := 72) (lv' := [(0, .ref 401), (1, .int p1), (2, .int p2), (3, .int 0)]) d_Mod_deed_71 rfl rfl (by decide) [1, 2, 3, 0] rfl ?_
      refine g_iconst (pc1 := 73) (v := 0) d_Mod_deed_72 rfl (by decide) ?_
      refine g_istore (pc1 := 75) (lv' := [(0, .ref 401), (1, .int p1), (2, .int p2), (3, .int 0), (4, .int 0)]) d_Mod_deed_73 rfl (by decide) [1, 2, 3, 4, 0] rfl ?_
      refine Wp.loc (lv' := [(0, .ref 401), (1, .int p1), (3, .int 0), (4, .int 0)]) [0, 1, 3, 4] rfl ?_
      exact h_Mod_deed_75 hld  hQ  _ 0 0 M5 h
    replace h := itn h c10
    refine g_tabOut (tgt := 114) d_Mod_deed_15 (by
      have nc6 := neT (a := 0) c6 (by decide)
      have nc8 := neT (a := 1) c8 (by decide)
      have nc10 := neT (a := 2) c10 (by decide)
      omega) (by decide) ?_
    refine g_iconst (pc1 := 115) (v := (-1)) d_Mod_deed_114 rfl (by decide) ?_
    refine g_ireturn (Or.inl rfl) d_Mod_deed_115 rfl ?_
    cases h; exact hQ
  · replace h := itp h c3
    refine g_iconst (pc1 := 9) (v := (-1)) d_Mod_deed_8 rfl (by decide) ?_
    refine g_ireturn (Or.inl rfl) d_Mod_deed_9 rfl ?_
    cases h; exact hQ

def J_Mod_feud_86 (K37 : Int32 → Int32 → gM → Option (Int32 × gM)) (v1 : Int32) (v2 : Int32) (v3 : Int32) (v4 : Int32) (v5 : Int32) (M : gM) : Option (Int32 × gM) :=
  nmI (v5 + 1) (fun x24 => K37 v4 x24 M)
set_option maxHeartbeats 4000000 in
set_option maxRecDepth 20000 in
theorem j_Mod_feud_86 {l : Launch} {ld : Nat} {Q : Option Value → gM → gL → gR → Prop} (hld : isLa ld)   {q : Int32 × gM} {M : gM} {L : gL} (hQ : Q (some (.int q.1)) q.2 L (rf ld)) {K37 : Int32 → Int32 → gM → Option (Int32 × gM)} {v1 : Int32} {v2 : Int32} {v3 : Int32} {v4 : Int32} {v5 : Int32} (hK37 : ∀ (w4 : Int32) (w5 : Int32) (M : gM), K37 w4 w5 M = some q → Wp l y_Mod_feud (0, 0, 447) 447 0 0 37 [(0, .ref 401), (1, .int v1), (2, .int v2), (3, .int v3), (4, .int w4), (5, .int w5)] [] M L (rf ld) Q) (h : J_Mod_feud_86 K37 v1 v2 v3 v4 v5 M = some q) : Wp l y_Mod_feud (0, 0, 447) 447 0 0 86 [(0, .ref 401), (1, .int v1), (2, .int v2), (3, .int v3), (4, .int v4), (5, .int v5)] [] M L (rf ld) Q := by
  unfold J_Mod_feud_86 at h
  obtain ⟨x24, ex24, h⟩ := ltI h
  refine g_iinc (pc1 := 89) (v := x24) (lv' := [(0, .ref 401), (1, .int v1), (2, .int v2), (3, .int v3), (4, .int v4), (5, .int x24)]) d_Mod_feud_86 rfl 5 rfl (by rw [ex24]; rfl) (by decide) [1, 2, 3, 4, 5, 0] rfl ?_
  refine g_goto (tgt := 37) d_Mod_feud_89 (by decide) ?_
  exact hK37 v4 x24 M h
def B_Mod_feud_37 (v1 : Int32) (v2 : Int32) (v3 : Int32) (K37 : Int32 → Int32 → gM → Option (Int32 × gM)) : Int32 → Int32 → gM → Option (Int32 × gM) := fun v4 v5 M =>
  (if ((M 401 18) : Int32) < 0 ∨ 2 ≤ ((M 401 18) : Int32).toNatClampNeg then none else (if (M 415 ((M 401 18) : Int32).toNatClampNeg) ≤ v5 then some (v4, M) else bI (F_Mod_copies M) (fun M14 => bI (F_Mod_eatsDish v1 v5 M14) (fun M16 => bI2 (F_Mod_isFree v1 v2 M16) (fun r18 M19 => bI2 (F_Mod_isFree v1 v3 M19) (fun r21 M22 => (if r18 = r21 then J_Mod_feud_86 K37 v1 v2 v3 v4 v5 M22 else nmI (v4 ||| (1 <<< (v5 &&& 31))) (fun x25 => J_Mod_feud_86 K37 v1 v2 v3 x25 v5 M22))))))))
def H_Mod_feud_37 (v1 : Int32) (v2 : Int32) (v3 : Int32) : Nat → Int32 → Int32 → gM → Option (Int32 × gM) := lpK (B_Mod_feud_37 v1 v2 v3) (fun _ _ _ => none)
set_option maxHeartbeats 4000000 in
set_option maxRecDepth 20000 in
theorem h_Mod_feud_37 {l : Launch} {ld : Nat} {Q : Option Value → gM → gL → gR → Prop} (hld : isLa ld)   {q : Int32 × gM} {L : gL} (hQ : Q (some (.int q.1)) q.2 L (rf ld))  {v1 : Int32} {v2 : Int32} {v3 : Int32}  : ∀ (f : Nat) (v4 : Int32) (v5 : Int32) (M : gM), H_Mod_feud_37 v1 v2 v3 f v4 v5 M = some q → Wp l y_Mod_feud (0, 0, 447) 447 0 0 37 [(0, .ref 401), (1, .int v1), (2, .int v2), (3, .int v3), (4, .int v4), (5, .int v5)] [] M L (rf ld) Q := by
  intro f
  induction f with
  | zero => intro v4 v5 M h; cases h
  | succ f hK37 =>
    intro v4 v5 M h
    replace h : B_Mod_feud_37 v1 v2 v3 (H_Mod_feud_37 v1 v2 v3 f) v4 v5 M = some q := h
    unfold B_Mod_feud_37 at h
    refine g_iload (pc1 := 39) d_Mod_feud_37 rfl 5 rfl ?_
    refine g_aload_n (pc1 := 40) d_Mod_feud_39 rfl 0 rfl ?_
    refine g_getr (pc1 := 43) d_Mod_feud_40 rfl ⟨_, fo_Mod_58⟩ sh_401 (by decide) (rf_401_27 ld) ?_
    refine g_aload_n (pc1 := 44) d_Mod_feud_43 rfl 0 rfl ?_
    refine g_geti (pc1 := 47) d_Mod_feud_44 rfl ⟨_, fo_Mod_236⟩ sh_401 (by decide) ?_
    obtain ⟨g11, h⟩ := gdn h
    refine g_iald (pc1 := 48) d_Mod_feud_47 rfl sh_415 (by decide) g11 ?_
    refine g_icmp_ge (pc1 := 51) (tgt := 92) d_Mod_feud_48 (by decide) rfl (fun c12 => ?_) (fun c12 => ?_)
    · replace h := itp h c12
      refine g_iload (pc1 := 94) d_Mod_feud_92 rfl 4 rfl ?_
      refine g_ireturn (Or.inl rfl) d_Mod_feud_94 rfl ?_
      cases h; exact hQ
    · replace h := itn h c12
      refine g_aload_n (pc1 := 52) d_Mod_feud_51 rfl 0 rfl ?_
      refine g_callV0 (pc1 := 55) (As := []) (rest := []) d_Mod_feud_52 rfl mo_Mod_377 mi_Mod_copies mv_Mod_copies rfl sh_401 (by decide) (by decide) rfl rfl (Nat.le_of_ble_eq_true rfl) ?_
      obtain ⟨M14, hq13, h⟩ := bnd h
      refine f_Mod_copies hld  hq13 ?_
      dsimp only [psh]
      refine g_aload_n (pc1 := 56) d_Mod_feud_55 rfl 0 rfl ?_
      refine g_iload_n (pc1 := 57) d_Mod_feud_56 rfl 1 rfl ?_
      refine g_iload (pc1 := 59) d_Mod_feud_57 rfl 5 rfl ?_
      refine g_callV0 (pc1 := 62) (As := [.int v1, .int v5]) (rest := []) d_Mod_feud_59 rfl mo_Mod_431 mi_Mod_eatsDish mv_Mod_eatsDish rfl sh_401 (by decide) (by decide) rfl rfl (Nat.le_of_ble_eq_true rfl) ?_
      obtain ⟨M16, hq15, h⟩ := bnd h
      refine f_Mod_eatsDish hld  hq15 ?_
      dsimp only [psh]
      refine g_aload_n (pc1 := 63) d_Mod_feud_62 rfl 0 rfl ?_
      refine g_iload_n (pc1 := 64) d_Mod_feud_63 rfl 1 rfl ?_
      refine g_iload_n (pc1 := 65) d_Mod_feud_64 rfl 2 rfl ?_
      refine g_callV0 (pc1 := 68) (As := [.int v1, .int v2]) (rest := []) d_Mod_feud_65 rfl mo_Mod_352 mi_Mod_isFree mv_Mod_isFree rfl sh_401 (by decide) (by decide) rfl rfl (Nat.le_of_ble_eq_true rfl) ?_
      obtain ⟨r18, M19, hq17, h⟩ := bnd2 h
      refine f_Mod_isFree hld  hq17 ?_
      dsimp only [psh]
      refine g_aload_n (pc1 := 69) d_Mod_feud_68 rfl 0 rfl ?_
      refine g_iload_n (pc1 := 70) d_Mod_feud_69 rfl 1 rfl ?_
      refine g_iload_n (pc1 := 71) d_Mod_feud_70 rfl 3 rfl ?_
      refine g_callV0 (pc1 := 74) (As := [.int v1, .int v3]) (rest := [.int r18]) d_Mod_feud_71 rfl mo_Mod_352 mi_Mod_isFree mv_Mod_isFree rfl sh_401 (by decide) (by decide) rfl rfl (Nat.le_of_ble_eq_true rfl) ?_
      obtain ⟨r21, M22, hq20, h⟩ := bnd2 h
      refine f_Mod_isFree hld  hq20 ?_
      dsimp only [psh]
      refine g_icmp_eq (pc1 := 77) (tgt := 86) d_Mod_feud_74 (by decide) rfl (fun c23 => ?_) (fun c23 => ?_)
      · replace h := itp h c23
        exact j_Mod_feud_86 hld  hQ hK37 h
      · replace h := itn h c23
        refine g_iload (pc1 := 79) d_Mod_feud_77 rfl 4 rfl ?_
        refine g_iconst (pc1 := 80) (v := 1) d_Mod_feud_79 rfl (by decide) ?_
        refine g_iload (pc1 := 82) d_Mod_feud_80 rfl 5 rfl ?_
        refine g_ishl (pc1 := 83) d_Mod_feud_82 rfl ?_
        refine g_ior (pc1 := 84) d_Mod_feud_83 rfl ?_
        refine Wp.lI h (fun x25 h => ?_)
        refine g_istore (pc1 := 86) (lv' := [(0, .ref 401), (1, .int v1), (2, .int v2), (3, .int v3), (4, .int x25), (5, .int v5)]) d_Mod_feud_84 rfl (by decide) [1, 2, 3, 4, 0, 5] rfl ?_
        exact j_Mod_feud_86 hld  hQ hK37 h
def F_Mod_feud (p1 : Int32) (p2 : Int32) (p3 : Int32) (M : gM) : Option (Int32 × gM) :=
  bI (F_Mod_isGuest p1 M) (fun r2 => (if r2 = 0 then some ((-1), M) else bI (F_Mod_isDeed p2 M) (fun r5 => (if r5 = 0 then some ((-1), M) else bI (F_Mod_isDeed p3 M) (fun r8 => (if r8 = 0 then some ((-1), M) else (if p2 = p3 then some ((-1), M) else H_Mod_feud_37 p1 p2 p3 FU 0 0 M)))))))
set_option maxHeartbeats 4000000 in
set_option maxRecDepth 20000 in
theorem f_Mod_feud {l : Launch} {ld : Nat} {M : gM} {L : gL} {Q : Option Value → gM → gL → gR → Prop} (hld : isLa ld) {p1 : Int32} {p2 : Int32} {p3 : Int32}  {q : Int32 × gM} (h : F_Mod_feud p1 p2 p3 M = some q) (hQ : Q (some (.int q.1)) q.2 L (rf ld)) : Tm l y_Mod_feud (0, 0, 447) 447 [.ref 401, .int p1, .int p2, .int p3] M L (rf ld) Q := by
  refine Tm.of (by decide) (Nat.le_of_ble_eq_true rfl) ?_
  show Wp l y_Mod_feud (0, 0, 447) 447 0 0 0 [(0, .ref 401), (1, .int p1), (2, .int p2), (3, .int p3)] [] M L (rf ld) Q
  unfold F_Mod_feud at h
  refine g_aload_n (pc1 := 1) d_Mod_feud_0 rfl 0 rfl ?_
  refine g_iload_n (pc1 := 2) d_Mod_feud_1 rfl 1 rfl ?_
  refine g_callV0 (pc1 := 5) (As := [.int p1]) (rest := []) d_Mod_feud_2 rfl mo_Mod_380 mi_Mod_isGuest mv_Mod_isGuest rfl sh_401 (by decide) (by decide) rfl rfl (Nat.le_of_ble_eq_true rfl) ?_
  obtain ⟨r2, hq1, h⟩ := bnd h
  refine f_Mod_isGuest hld  hq1 ?_
  dsimp only [psh]
  refine g_if_eq (pc1 := 8) (tgt := 29) d_Mod_feud_5 (by decide) rfl (fun c3 => ?_) (fun c3 => ?_)
  · replace h := itp h c3
    refine g_iconst (pc1 := 30) (v := (-1)) d_Mod_feud_29 rfl (by decide) ?_
    refine g_ireturn (Or.inl rfl) d_Mod_feud_30 rfl ?_
    cases h; exact hQ
  · replace h := itn h c3
    refine g_aload_n (pc1 := 9) d_Mod_feud_8 rfl 0 rfl ?_
    refine g_iload_n (pc1 := 10) d_Mod_feud_9 rfl 2 rfl ?_
    refine g_callV0 (pc1 := 13) (As := [.int p2]) (rest := []) d_Mod_feud_10 rfl mo_Mod_383 mi_Mod_isDeed mv_Mod_isDeed rfl sh_401 (by decide) (by decide) rfl rfl (Nat.le_of_ble_eq_true rfl) ?_
    obtain ⟨r5, hq4, h⟩ := bnd h
    refine f_Mod_isDeed hld  hq4 ?_
    dsimp only [psh]
    refine g_if_eq (pc1 := 16) (tgt := 29) d_Mod_feud_13 (by decide) rfl (fun c6 => ?_) (fun c6 => ?_)
    · replace h := itp h c6
      refine g_iconst (pc1 := 30) (v := (-1)) d_Mod_feud_29 rfl (by decide) ?_
      refine g_ireturn (Or.inl rfl) d_Mod_feud_30 rfl ?_
      cases h; exact hQ
    · replace h := itn h c6
      refine g_aload_n (pc1 := 17) d_Mod_feud_16 rfl 0 rfl ?_
      refine g_iload_n (pc1 := 18) d_Mod_feud_17 rfl 3 rfl ?_
      refine g_callV0 (pc1 := 21) (As := [.int p3]) (rest := []) d_Mod_feud_18 rfl mo_Mod_383 mi_Mod_isDeed mv_Mod_isDeed rfl sh_401 (by decide) (by decide) rfl rfl (Nat.le_of_ble_eq_true rfl) ?_
      obtain ⟨r8, hq7, h⟩ := bnd h
      refine f_Mod_isDeed hld  hq7 ?_
      dsimp only [psh]
      refine g_if_eq (pc1 := 24) (tgt := 29) d_Mod_feud_21 (by decide) rfl (fun c9 => ?_) (fun c9 => ?_)
      · replace h := itp h c9
        refine g_iconst (pc1 := 30) (v := (-1)) d_Mod_feud_29 rfl (by decide) ?_
        refine g_ireturn (Or.inl rfl) d_Mod_feud_30 rfl ?_
        cases h; exact hQ
      · replace h := itn h c9
        refine g_iload_n (pc1 := 25) d_Mod_feud_24 rfl 2 rfl ?_
        refine g_iload_n (pc1 := 26) d_Mod_feud_25 rfl 3 rfl ?_
        refine g_icmp_ne (pc1 := 29) (tgt := 31) d_Mod_feud_26 (by decide) rfl (fun c10 => ?_) (fun c10 => ?_)
        · replace h := itn h c10
          refine g_iconst (pc1 := 32) (v := 0) d_Mod_feud_31 rfl (by decide) ?_
          refine g_istore (pc1 := 34) (lv' := [(0, .ref 401), (1, .int p1), (2, .int p2), (3, .int p3), (4, .int 0)]) d_Mod_feud_32 rfl (by decide) [1, 2, 3, 4, 0] rfl ?_
          refine g_iconst (pc1 := 35) (v := 0) d_Mod_feud_34 rfl (by decide) ?_
          refine g_istore (pc1 := 37) (lv' := [(0, .ref 401), (1, .int p1), (2, .int p2), (3, .int p3), (4, .int 0), (5, .int 0)]) d_Mod_feud_35 rfl (by decide) [1, 2, 3, 4, 5, 0] rfl ?_
          exact h_Mod_feud_37 hld  hQ  _ 0 0 M h
        · replace h := itp h c10
          refine g_iconst (pc1 := 30) (v := (-1)) d_Mod_feud_29 rfl (by decide) ?_
          refine g_ireturn (Or.inl rfl) d_Mod_feud_30 rfl ?_
          cases h; exact hQ

def J_Mod_freeBits_32 (K4 : Int32 → Int32 → gM → Option (Int32 × gM)) (v1 : Int32) (v2 : Int32) (v3 : Int32) (M : gM) : Option (Int32 × gM) :=
  nmI (v3 + 1) (fun x7 => K4 v2 x7 M)
set_option maxHeartbeats 4000000 in
set_option maxRecDepth 20000 in
theorem j_Mod_freeBits_32 {l : Launch} {ld : Nat} {Q : Option Value → gM → gL → gR → Prop} (hld : isLa ld)   {q : Int32 × gM} {M : gM} {L : gL} (hQ : Q (some (.int q.1)) q.2 L (rf ld)) {K4 : Int32 → Int32 → gM → Option (Int32 × gM)} {v1 : Int32} {v2 : Int32} {v3 : Int32} (hK4 : ∀ (w2 : Int32) (w3 : Int32) (M : gM), K4 w2 w3 M = some q → Wp l y_Mod_freeBits (0, 0, 447) 447 0 0 4 [(0, .ref 401), (1, .int v1), (2, .int w2), (3, .int w3)] [] M L (rf ld) Q) (h : J_Mod_freeBits_32 K4 v1 v2 v3 M = some q) : Wp l y_Mod_freeBits (0, 0, 447) 447 0 0 32 [(0, .ref 401), (1, .int v1), (2, .int v2), (3, .int v3)] [] M L (rf ld) Q := by
  unfold J_Mod_freeBits_32 at h
  obtain ⟨x7, ex7, h⟩ := ltI h
  refine g_iinc (pc1 := 35) (v := x7) (lv' := [(0, .ref 401), (1, .int v1), (2, .int v2), (3, .int x7)]) d_Mod_freeBits_32 rfl 3 rfl (by rw [ex7]; rfl) (by decide) [1, 2, 3, 0] rfl ?_
  refine g_goto (tgt := 4) d_Mod_freeBits_35 (by decide) ?_
  exact hK4 v2 x7 M h
def B_Mod_freeBits_4 (v1 : Int32) (K4 : Int32 → Int32 → gM → Option (Int32 × gM)) : Int32 → Int32 → gM → Option (Int32 × gM) := fun v2 v3 M =>
  (if ((M 401 18) : Int32) < 0 ∨ 2 ≤ ((M 401 18) : Int32).toNatClampNeg then none else (if (M 420 ((M 401 18) : Int32).toNatClampNeg) ≤ v3 then some (v2, M) else bI2 (F_Mod_isFree v1 v3 M) (fun r4 M5 => (if r4 = 0 then J_Mod_freeBits_32 K4 v1 v2 v3 M5 else nmI (v2 ||| (1 <<< (v3 &&& 31))) (fun x8 => J_Mod_freeBits_32 K4 v1 x8 v3 M5)))))
def H_Mod_freeBits_4 (v1 : Int32) : Nat → Int32 → Int32 → gM → Option (Int32 × gM) := lpK (B_Mod_freeBits_4 v1) (fun _ _ _ => none)
set_option maxHeartbeats 4000000 in
set_option maxRecDepth 20000 in
theorem h_Mod_freeBits_4 {l : Launch} {ld : Nat} {Q : Option Value → gM → gL → gR → Prop} (hld : isLa ld)   {q : Int32 × gM} {L : gL} (hQ : Q (some (.int q.1)) q.2 L (rf ld))  {v1 : Int32}  : ∀ (f : Nat) (v2 : Int32) (v3 : Int32) (M : gM), H_Mod_freeBits_4 v1 f v2 v3 M = some q → Wp l y_Mod_freeBits (0, 0, 447) 447 0 0 4 [(0, .ref 401), (1, .int v1), (2, .int v2), (3, .int v3)] [] M L (rf ld) Q := by
  intro f
  induction f with
  | zero => intro v2 v3 M h; cases h
  | succ f hK4 =>
    intro v2 v3 M h
    replace h : B_Mod_freeBits_4 v1 (H_Mod_freeBits_4 v1 f) v2 v3 M = some q := h
    unfold B_Mod_freeBits_4 at h
    refine g_iload_n (pc1 := 5) d_Mod_freeBits_4 rfl 3 rfl ?_
    refine g_aload_n (pc1 := 6) d_Mod_freeBits_5 rfl 0 rfl ?_
    refine g_getr (pc1 := 9) d_Mod_freeBits_6 rfl ⟨_, fo_Mod_73⟩ sh_401 (by decide) (rf_401_32 ld) ?_
    refine g_aload_n (pc1 := 10) d_Mod_freeBits_9 rfl 0 rfl ?_
    refine g_geti (pc1 := 13) d_Mod_freeBits_10 rfl ⟨_, fo_Mod_236⟩ sh_401 (by decide) ?_
    obtain ⟨g1, h⟩ := gdn h
    refine g_iald (pc1 := 14) d_Mod_freeBits_13 rfl sh_420 (by decide) g1 ?_
    refine g_icmp_ge (pc1 := 17) (tgt := 38) d_Mod_freeBits_14 (by decide) rfl (fun c2 => ?_) (fun c2 => ?_)
    · replace h := itp h c2
      refine g_iload_n (pc1 := 39) d_Mod_freeBits_38 rfl 2 rfl ?_
      refine g_ireturn (Or.inl rfl) d_Mod_freeBits_39 rfl ?_
      cases h; exact hQ
    · replace h := itn h c2
      refine g_aload_n (pc1 := 18) d_Mod_freeBits_17 rfl 0 rfl ?_
      refine g_iload_n (pc1 := 19) d_Mod_freeBits_18 rfl 1 rfl ?_
      refine g_iload_n (pc1 := 20) d_Mod_freeBits_19 rfl 3 rfl ?_
      refine g_callV0 (pc1 := 23) (As := [.int v1, .int v3]) (rest := []) d_Mod_freeBits_20 rfl mo_Mod_352 mi_Mod_isFree mv_Mod_isFree rfl sh_401 (by decide) (by decide) rfl rfl (Nat.le_of_ble_eq_true rfl) ?_
      obtain ⟨r4, M5, hq3, h⟩ := bnd2 h
      refine f_Mod_isFree hld  hq3 ?_
      dsimp only [psh]
      refine g_if_eq (pc1 := 26) (tgt := 32) d_Mod_freeBits_23 (by decide) rfl (fun c6 => ?_) (fun c6 => ?_)
      · replace h := itp h c6
        exact j_Mod_freeBits_32 hld  hQ hK4 h
      · replace h := itn h c6
        refine g_iload_n (pc1 := 27) d_Mod_freeBits_26 rfl 2 rfl ?_
        refine g_iconst (pc1 := 28) (v := 1) d_Mod_freeBits_27 rfl (by decide) ?_
        refine g_iload_n (pc1 := 29) d_Mod_freeBits_28 rfl 3 rfl ?_
        refine g_ishl (pc1 := 30) d_Mod_freeBits_29 rfl ?_
        refine g_ior (pc1 := 31) d_Mod_freeBits_30 rfl ?_
        refine Wp.lI h (fun x8 h => ?_)
        refine g_istore_n (pc1 := 32) (lv' := [(0, .ref 401), (1, .int v1), (2, .int x8), (3, .int v3)]) d_Mod_freeBits_31 rfl rfl (by decide) [1, 2, 0, 3] rfl ?_
        exact j_Mod_freeBits_32 hld  hQ hK4 h
def F_Mod_freeBits (p1 : Int32) (M : gM) : Option (Int32 × gM) :=
  H_Mod_freeBits_4 p1 FU 0 0 M
set_option maxHeartbeats 4000000 in
set_option maxRecDepth 20000 in
theorem f_Mod_freeBits {l : Launch} {ld : Nat} {M : gM} {L : gL} {Q : Option Value → gM → gL → gR → Prop} (hld : isLa ld) {p1 : Int32}  {q : Int32 × gM} (h : F_Mod_freeBits p1 M = some q) (hQ : Q (some (.int q.1)) q.2 L (rf ld)) : Tm l y_Mod_freeBits (0, 0, 447) 447 [.ref 401, .int p1] M L (rf ld) Q := by
  refine Tm.of (by decide) (Nat.le_of_ble_eq_true rfl) ?_
  show Wp l y_Mod_freeBits (0, 0, 447) 447 0 0 0 [(0, .ref 401), (1, .int p1)] [] M L (rf ld) Q
  unfold F_Mod_freeBits at h
  refine g_iconst (pc1 := 1) (v := 0) d_Mod_freeBits_0 rfl (by decide) ?_
  refine g_istore_n (pc1 := 2) (lv' := [(0, .ref 401), (1, .int p1), (2, .int 0)]) d_Mod_freeBits_1 rfl rfl (by decide) [1, 2, 0] rfl ?_
  refine g_iconst (pc1 := 3) (v := 0) d_Mod_freeBits_2 rfl (by decide) ?_
  refine g_istore_n (pc1 := 4) (lv' := [(0, .ref 401), (1, .int p1), (2, .int 0), (3, .int 0)]) d_Mod_freeBits_3 rfl rfl (by decide) [1, 2, 3, 0] rfl ?_
  exact h_Mod_freeBits_4 hld  hQ  _ 0 0 M h

def B_Mod_hunger_24 (v1 : Int32) (v2 : Int32) (K24 : Int32 → gM → Option (Int32 × gM)) : Int32 → gM → Option (Int32 × gM) := fun v3 M =>
  (if 99 < v3 then some ((-2), M) else bI2 (F_Mod_isFree v1 v2 M) (fun r11 M12 => (if r11 = 0 then nmM (uM M12 437 35 ((M12 437 35) + 1)) (fun M14 => nmI (v3 + 1) (fun x15 => K24 x15 M14)) else some (v3, M12))))
def H_Mod_hunger_24 (v1 : Int32) (v2 : Int32) : Nat → Int32 → gM → Option (Int32 × gM) := lpK (B_Mod_hunger_24 v1 v2) (fun _ _ => none)
set_option maxHeartbeats 4000000 in
set_option maxRecDepth 20000 in
theorem h_Mod_hunger_24 {l : Launch} {ld : Nat} {Q : Option Value → gM → gL → gR → Prop} (hld : isLa ld)   {q : Int32 × gM} {L : gL} (hQ : Q (some (.int q.1)) q.2 L (rf ld))  {v1 : Int32} {v2 : Int32}  : ∀ (f : Nat) (v3 : Int32) (M : gM), H_Mod_hunger_24 v1 v2 f v3 M = some q → Wp l y_Mod_hunger (0, 0, 447) 447 0 0 24 [(0, .ref 401), (1, .int v1), (2, .int v2), (3, .int v3)] [] M L (rf ld) Q := by
  intro f
  induction f with
  | zero => intro v3 M h; cases h
  | succ f hK24 =>
    intro v3 M h
    replace h : B_Mod_hunger_24 v1 v2 (H_Mod_hunger_24 v1 v2 f) v3 M = some q := h
    unfold B_Mod_hunger_24 at h
    refine g_iload_n (pc1 := 25) d_Mod_hunger_24 rfl 3 rfl ?_
    refine g_bipush (pc1 := 27) (v := 99) d_Mod_hunger_25 rfl (by decide) ?_
    refine g_icmp_gt (pc1 := 30) (tgt := 58) d_Mod_hunger_27 (by decide) rfl (fun c9 => ?_) (fun c9 => ?_)
    · replace h := itp h c9
      refine g_bipush (pc1 := 60) (v := (-2)) d_Mod_hunger_58 rfl (by decide) ?_
      refine g_ireturn (Or.inl rfl) d_Mod_hunger_60 rfl ?_
      cases h; exact hQ
    · replace h := itn h c9
      refine g_aload_n (pc1 := 31) d_Mod_hunger_30 rfl 0 rfl ?_
      refine g_iload_n (pc1 := 32) d_Mod_hunger_31 rfl 1 rfl ?_
      refine g_iload_n (pc1 := 33) d_Mod_hunger_32 rfl 2 rfl ?_
      refine g_callV0 (pc1 := 36) (As := [.int v1, .int v2]) (rest := []) d_Mod_hunger_33 rfl mo_Mod_352 mi_Mod_isFree mv_Mod_isFree rfl sh_401 (by decide) (by decide) rfl rfl (Nat.le_of_ble_eq_true rfl) ?_
      obtain ⟨r11, M12, hq10, h⟩ := bnd2 h
      refine f_Mod_isFree hld  hq10 ?_
      dsimp only [psh]
      refine g_if_eq (pc1 := 39) (tgt := 41) d_Mod_hunger_36 (by decide) rfl (fun c13 => ?_) (fun c13 => ?_)
      · replace h := itp h c13
        refine g_aload_n (pc1 := 42) d_Mod_hunger_41 rfl 0 rfl ?_
        refine g_getr (pc1 := 45) d_Mod_hunger_42 rfl ⟨_, fo_Mod_125⟩ sh_401 (by decide) (rf_401_53 ld) ?_
        refine g_bipush (pc1 := 47) (v := 35) d_Mod_hunger_45 rfl (by decide) ?_
        refine g_dup2 (pc1 := 48) d_Mod_hunger_47 rfl rfl rfl ?_
        refine g_iald (pc1 := 49) d_Mod_hunger_48 rfl sh_437 (by decide) (vin_lit (x := 35) (by decide)) ?_
        refine Wp.vali (y := (M12 437 35)) (congrArg (M12 437) (by decide)) ?_
        refine g_iconst (pc1 := 50) (v := 1) d_Mod_hunger_49 rfl (by decide) ?_
        refine g_iadd (pc1 := 51) d_Mod_hunger_50 rfl ?_
        refine g_iast (pc1 := 52) d_Mod_hunger_51 rfl sh_437 (by decide) (vin_lit (x := 35) (by decide)) ?_
        refine Wp.eqM (M' := uM M12 437 35 ((M12 437 35) + 1)) (congrArg (fun z => uM M12 437 z ((M12 437 35) + 1)) (by decide)) ?_
        refine Wp.lM h (fun M14 h => ?_)
        obtain ⟨x15, ex15, h⟩ := ltI h
        refine g_iinc (pc1 := 55) (v := x15) (lv' := [(0, .ref 401), (1, .int v1), (2, .int v2), (3, .int x15)]) d_Mod_hunger_52 rfl 3 rfl (by rw [ex15]; rfl) (by decide) [1, 2, 3, 0] rfl ?_
        refine g_goto (tgt := 24) d_Mod_hunger_55 (by decide) ?_
        exact hK24 x15 M14 h
      · replace h := itn h c13
        refine g_iload_n (pc1 := 40) d_Mod_hunger_39 rfl 3 rfl ?_
        refine g_ireturn (Or.inl rfl) d_Mod_hunger_40 rfl ?_
        cases h; exact hQ
def F_Mod_hunger (p1 : Int32) (p2 : Int32) (M : gM) : Option (Int32 × gM) :=
  bI (F_Mod_isGuest p1 M) (fun r2 => (if r2 = 0 then some ((-1), M) else bI (F_Mod_isDeed p2 M) (fun r5 => (if r5 = 0 then some ((-1), M) else bI (F_Mod_copies M) (fun M8 => H_Mod_hunger_24 p1 p2 FU 0 M8)))))
set_option maxHeartbeats 4000000 in
set_option maxRecDepth 20000 in
theorem f_Mod_hunger {l : Launch} {ld : Nat} {M : gM} {L : gL} {Q : Option Value → gM → gL → gR → Prop} (hld : isLa ld) {p1 : Int32} {p2 : Int32}  {q : Int32 × gM} (h : F_Mod_hunger p1 p2 M = some q) (hQ : Q (some (.int q.1)) q.2 L (rf ld)) : Tm l y_Mod_hunger (0, 0, 447) 447 [.ref 401, .int p1, .int p2] M L (rf ld) Q := by
  refine Tm.of (by decide) (Nat.le_of_ble_eq_true rfl) ?_
  show Wp l y_Mod_hunger (0, 0, 447) 447 0 0 0 [(0, .ref 401), (1, .int p1), (2, .int p2)] [] M L (rf ld) Q
  unfold F_Mod_hunger at h
  refine g_aload_n (pc1 := 1) d_Mod_hunger_0 rfl 0 rfl ?_
  refine g_iload_n (pc1 := 2) d_Mod_hunger_1 rfl 1 rfl ?_
  refine g_callV0 (pc1 := 5) (As := [.int p1]) (rest := []) d_Mod_hunger_2 rfl mo_Mod_380 mi_Mod_isGuest mv_Mod_isGuest rfl sh_401 (by decide) (by decide) rfl rfl (Nat.le_of_ble_eq_true rfl) ?_
  obtain ⟨r2, hq1, h⟩ := bnd h
  refine f_Mod_isGuest hld  hq1 ?_
  dsimp only [psh]
  refine g_if_eq (pc1 := 8) (tgt := 16) d_Mod_hunger_5 (by decide) rfl (fun c3 => ?_) (fun c3 => ?_)
  · replace h := itp h c3
    refine g_iconst (pc1 := 17) (v := (-1)) d_Mod_hunger_16 rfl (by decide) ?_
    refine g_ireturn (Or.inl rfl) d_Mod_hunger_17 rfl ?_
    cases h; exact hQ
  · replace h := itn h c3
    refine g_aload_n (pc1 := 9) d_Mod_hunger_8 rfl 0 rfl ?_
    refine g_iload_n (pc1 := 10) d_Mod_hunger_9 rfl 2 rfl ?_
    refine g_callV0 (pc1 := 13) (As := [.int p2]) (rest := []) d_Mod_hunger_10 rfl mo_Mod_383 mi_Mod_isDeed mv_Mod_isDeed rfl sh_401 (by decide) (by decide) rfl rfl (Nat.le_of_ble_eq_true rfl) ?_
    obtain ⟨r5, hq4, h⟩ := bnd h
    refine f_Mod_isDeed hld  hq4 ?_
    dsimp only [psh]
    refine g_if_ne (pc1 := 16) (tgt := 18) d_Mod_hunger_13 (by decide) rfl (fun c6 => ?_) (fun c6 => ?_)
    · replace h := itn h c6
      refine g_aload_n (pc1 := 19) d_Mod_hunger_18 rfl 0 rfl ?_
      refine g_callV0 (pc1 := 22) (As := []) (rest := []) d_Mod_hunger_19 rfl mo_Mod_377 mi_Mod_copies mv_Mod_copies rfl sh_401 (by decide) (by decide) rfl rfl (Nat.le_of_ble_eq_true rfl) ?_
      obtain ⟨M8, hq7, h⟩ := bnd h
      refine f_Mod_copies hld  hq7 ?_
      dsimp only [psh]
      refine g_iconst (pc1 := 23) (v := 0) d_Mod_hunger_22 rfl (by decide) ?_
      refine g_istore_n (pc1 := 24) (lv' := [(0, .ref 401), (1, .int p1), (2, .int p2), (3, .int 0)]) d_Mod_hunger_23 rfl rfl (by decide) [1, 2, 3, 0] rfl ?_
      exact h_Mod_hunger_24 hld  hQ  _ 0 M8 h
    · replace h := itp h c6
      refine g_iconst (pc1 := 17) (v := (-1)) d_Mod_hunger_16 rfl (by decide) ?_
      refine g_ireturn (Or.inl rfl) d_Mod_hunger_17 rfl ?_
      cases h; exact hQ

def J_Mod_sure_76 (v2 : Int32) (M : gM) : Option (Int32 × gM) :=
  (if 0 ≤ v2 then some (v2, M) else some ((-2), M))
set_option maxHeartbeats 4000000 in
set_option maxRecDepth 20000 in
theorem j_Mod_sure_76 {l : Launch} {ld : Nat} {Q : Option Value → gM → gL → gR → Prop} (hld : isLa ld)   {q : Int32 × gM} {M : gM} {L : gL} (hQ : Q (some (.int q.1)) q.2 L (rf ld))  {v2 : Int32}  (h : J_Mod_sure_76 v2 M = some q) : Wp l y_Mod_sure (0, 0, 447) 447 0 0 76 [(2, .int v2)] [] M L (rf ld) Q := by
  unfold J_Mod_sure_76 at h
  refine g_iload_n (pc1 := 77) d_Mod_sure_76 rfl 0 rfl ?_
  refine g_if_ge (pc1 := 80) (tgt := 85) d_Mod_sure_77 (by decide) rfl (fun c8 => ?_) (fun c8 => ?_)
  · replace h := itp h c8
    refine g_iload_n (pc1 := 86) d_Mod_sure_85 rfl 0 rfl ?_
    refine g_ireturn (Or.inl rfl) d_Mod_sure_86 rfl ?_
    cases h; exact hQ
  · replace h := itn h c8
    refine g_bipush (pc1 := 82) (v := (-2)) d_Mod_sure_80 rfl (by decide) ?_
    refine g_goto (tgt := 86) d_Mod_sure_82 (by decide) ?_
    refine g_ireturn (Or.inl rfl) d_Mod_sure_86 rfl ?_
    cases h; exact hQ
def J_Mod_sure_70 (K22 : Int32 → Int32 → gM → Option (Int32 × gM)) (v1 : Int32) (v2 : Int32) (v3 : Int32) (M : gM) : Option (Int32 × gM) :=
  nmI (v3 + 1) (fun x15 => K22 v2 x15 M)
set_option maxHeartbeats 4000000 in
set_option maxRecDepth 20000 in
theorem j_Mod_sure_70 {l : Launch} {ld : Nat} {Q : Option Value → gM → gL → gR → Prop} (hld : isLa ld)   {q : Int32 × gM} {M : gM} {L : gL} (hQ : Q (some (.int q.1)) q.2 L (rf ld)) {K22 : Int32 → Int32 → gM → Option (Int32 × gM)} {v1 : Int32} {v2 : Int32} {v3 : Int32} (hK22 : ∀ (w2 : Int32) (w3 : Int32) (M : gM), K22 w2 w3 M = some q → Wp l y_Mod_sure (0, 0, 447) 447 0 0 22 [(0, .ref 401), (1, .int v1), (2, .int w2), (3, .int w3)] [] M L (rf ld) Q) (h : J_Mod_sure_70 K22 v1 v2 v3 M = some q) : Wp l y_Mod_sure (0, 0, 447) 447 0 0 70 [(0, .ref 401), (1, .int v1), (2, .int v2), (3, .int v3)] [] M L (rf ld) Q := by
  unfold J_Mod_sure_70 at h
  obtain ⟨x15, ex15, h⟩ := ltI h
  refine g_iinc (pc1 := 73) (v := x15) (lv' := [(0, .ref 401), (1, .int v1), (2, .int v2), (3, .int x15)]) d_Mod_sure_70 rfl 3 rfl (by rw [ex15]; rfl) (by decide) [1, 2, 3, 0] rfl ?_
  refine g_goto (tgt := 22) d_Mod_sure_73 (by decide) ?_
  exact hK22 v2 x15 M h
def J_Mod_sure_65 (K22 : Int32 → Int32 → gM → Option (Int32 × gM)) (v1 : Int32) (v3 : Int32) (M : gM) : Option (Int32 × gM) :=
  nmI (v3 / 13) (fun x14 => J_Mod_sure_70 K22 v1 x14 v3 M)
set_option maxHeartbeats 4000000 in
set_option maxRecDepth 20000 in
theorem j_Mod_sure_65 {l : Launch} {ld : Nat} {Q : Option Value → gM → gL → gR → Prop} (hld : isLa ld)   {q : Int32 × gM} {M : gM} {L : gL} (hQ : Q (some (.int q.1)) q.2 L (rf ld)) {K22 : Int32 → Int32 → gM → Option (Int32 × gM)} {v1 : Int32} {v3 : Int32} (hK22 : ∀ (w2 : Int32) (w3 : Int32) (M : gM), K22 w2 w3 M = some q → Wp l y_Mod_sure (0, 0, 447) 447 0 0 22 [(0, .ref 401), (1, .int v1), (2, .int w2), (3, .int w3)] [] M L (rf ld) Q) (h : J_Mod_sure_65 K22 v1 v3 M = some q) : Wp l y_Mod_sure (0, 0, 447) 447 0 0 65 [(0, .ref 401), (1, .int v1), (3, .int v3)] [] M L (rf ld) Q := by
  unfold J_Mod_sure_65 at h
  refine g_iload_n (pc1 := 66) d_Mod_sure_65 rfl 2 rfl ?_
  refine g_bipush (pc1 := 68) (v := 13) d_Mod_sure_66 rfl (by decide) ?_
  refine g_idiv (pc1 := 69) d_Mod_sure_68 rfl (by decide) ?_
  refine Wp.lI h (fun x14 h => ?_)
  refine g_istore_n (pc1 := 70) (lv' := [(0, .ref 401), (1, .int v1), (2, .int x14), (3, .int v3)]) d_Mod_sure_69 rfl rfl (by decide) [1, 2, 0, 3] rfl ?_
  exact j_Mod_sure_70 hld  hQ hK22 h
def B_Mod_sure_22 (v1 : Int32) (K22 : Int32 → Int32 → gM → Option (Int32 × gM)) : Int32 → Int32 → gM → Option (Int32 × gM) := fun v2 v3 M =>
  (if ((M 401 18) : Int32) < 0 ∨ 2 ≤ ((M 401 18) : Int32).toNatClampNeg then none else (if (13 * (M 415 ((M 401 18) : Int32).toNatClampNeg)) ≤ v3 then J_Mod_sure_76 v2 M else bI2 (F_Mod_isWay v3 v1 M) (fun r10 M11 => (if r10 = 0 then J_Mod_sure_70 K22 v1 v2 v3 M11 else (if v2 < 0 then J_Mod_sure_65 K22 v1 v3 M11 else (if v2 = (v3 / 13) then J_Mod_sure_65 K22 v1 v3 M11 else some ((-2), M11)))))))
def H_Mod_sure_22 (v1 : Int32) : Nat → Int32 → Int32 → gM → Option (Int32 × gM) := lpK (B_Mod_sure_22 v1) (fun _ _ _ => none)
set_option maxHeartbeats 4000000 in
set_option maxRecDepth 20000 in
theorem h_Mod_sure_22 {l : Launch} {ld : Nat} {Q : Option Value → gM → gL → gR → Prop} (hld : isLa ld)   {q : Int32 × gM} {L : gL} (hQ : Q (some (.int q.1)) q.2 L (rf ld))  {v1 : Int32}  : ∀ (f : Nat) (v2 : Int32) (v3 : Int32) (M : gM), H_Mod_sure_22 v1 f v2 v3 M = some q → Wp l y_Mod_sure (0, 0, 447) 447 0 0 22 [(0, .ref 401), (1, .int v1), (2, .int v2), (3, .int v3)] [] M L (rf ld) Q := by
  intro f
  induction f with
  | zero => intro v2 v3 M h; cases h
  | succ f hK22 =>
    intro v2 v3 M h
    replace h : B_Mod_sure_22 v1 (H_Mod_sure_22 v1 f) v2 v3 M = some q := h
    unfold B_Mod_sure_22 at h
    refine g_iload_n (pc1 := 23) d_Mod_sure_22 rfl 3 rfl ?_
    refine g_bipush (pc1 := 25) (v := 13) d_Mod_sure_23 rfl (by decide) ?_
    refine g_aload_n (pc1 := 26) d_Mod_sure_25 rfl 0 rfl ?_
    refine g_getr (pc1 := 29) d_Mod_sure_26 rfl ⟨_, fo_Mod_58⟩ sh_401 (by decide) (rf_401_27 ld) ?_
    refine g_aload_n (pc1 := 30) d_Mod_sure_29 rfl 0 rfl ?_
    refine g_geti (pc1 := 33) d_Mod_sure_30 rfl ⟨_, fo_Mod_236⟩ sh_401 (by decide) ?_
    obtain ⟨g6, h⟩ := gdn h
    refine g_iald (pc1 := 34) d_Mod_sure_33 rfl sh_415 (by decide) g6 ?_
    refine g_imul (pc1 := 35) d_Mod_sure_34 rfl ?_
    refine g_icmp_ge (pc1 := 38) (tgt := 76) d_Mod_sure_35 (by decide) rfl (fun c7 => ?_) (fun c7 => ?_)
    · replace h := itp h c7
      refine Wp.loc (lv' := [(2, .int v2)]) [2] rfl ?_
      exact j_Mod_sure_76 hld  hQ  h
    · replace h := itn h c7
      refine g_aload_n (pc1 := 39) d_Mod_sure_38 rfl 0 rfl ?_
      refine g_iload_n (pc1 := 40) d_Mod_sure_39 rfl 3 rfl ?_
      refine g_iload_n (pc1 := 41) d_Mod_sure_40 rfl 1 rfl ?_
      refine g_callV0 (pc1 := 44) (As := [.int v3, .int v1]) (rest := []) d_Mod_sure_41 rfl mo_Mod_455 mi_Mod_isWay mv_Mod_isWay rfl sh_401 (by decide) (by decide) rfl rfl (Nat.le_of_ble_eq_true rfl) ?_
      obtain ⟨r10, M11, hq9, h⟩ := bnd2 h
      refine f_Mod_isWay hld  hq9 ?_
      dsimp only [psh]
      refine g_if_ne (pc1 := 47) (tgt := 50) d_Mod_sure_44 (by decide) rfl (fun c12 => ?_) (fun c12 => ?_)
      · replace h := itn h c12
        refine g_iload_n (pc1 := 51) d_Mod_sure_50 rfl 2 rfl ?_
        refine g_if_lt (pc1 := 54) (tgt := 65) d_Mod_sure_51 (by decide) rfl (fun c13 => ?_) (fun c13 => ?_)
        · replace h := itp h c13
          refine Wp.loc (lv' := [(0, .ref 401), (1, .int v1), (3, .int v3)]) [0, 1, 3] rfl ?_
          exact j_Mod_sure_65 hld  hQ hK22 h
        · replace h := itn h c13
          refine g_iload_n (pc1 := 55) d_Mod_sure_54 rfl 2 rfl ?_
          refine g_iload_n (pc1 := 56) d_Mod_sure_55 rfl 3 rfl ?_
          refine g_bipush (pc1 := 58) (v := 13) d_Mod_sure_56 rfl (by decide) ?_
          refine g_idiv (pc1 := 59) d_Mod_sure_58 rfl (by decide) ?_
          refine g_icmp_eq (pc1 := 62) (tgt := 65) d_Mod_sure_59 (by decide) rfl (fun c16 => ?_) (fun c16 => ?_)
          · replace h := itp h c16
            refine Wp.loc (lv' := [(0, .ref 401), (1, .int v1), (3, .int v3)]) [0, 1, 3] rfl ?_
            exact j_Mod_sure_65 hld  hQ hK22 h
          · replace h := itn h c16
            refine g_bipush (pc1 := 64) (v := (-2)) d_Mod_sure_62 rfl (by decide) ?_
            refine g_ireturn (Or.inl rfl) d_Mod_sure_64 rfl ?_
            cases h; exact hQ
      · replace h := itp h c12
        refine g_goto (tgt := 70) d_Mod_sure_47 (by decide) ?_
        exact j_Mod_sure_70 hld  hQ hK22 h
def F_Mod_sure (p1 : Int32) (M : gM) : Option (Int32 × gM) :=
  bI (F_Mod_in p1 0 (M 401 64)) (fun r2 => (if r2 = 0 then some ((-1), M) else bI (F_Mod_copies M) (fun M5 => H_Mod_sure_22 p1 FU (-1) 0 M5)))
set_option maxHeartbeats 4000000 in
set_option maxRecDepth 20000 in
theorem f_Mod_sure {l : Launch} {ld : Nat} {M : gM} {L : gL} {Q : Option Value → gM → gL → gR → Prop} (hld : isLa ld) {p1 : Int32}  {q : Int32 × gM} (h : F_Mod_sure p1 M = some q) (hQ : Q (some (.int q.1)) q.2 L (rf ld)) : Tm l y_Mod_sure (0, 0, 447) 447 [.ref 401, .int p1] M L (rf ld) Q := by
  refine Tm.of (by decide) (Nat.le_of_ble_eq_true rfl) ?_
  show Wp l y_Mod_sure (0, 0, 447) 447 0 0 0 [(0, .ref 401), (1, .int p1)] [] M L (rf ld) Q
  unfold F_Mod_sure at h
  refine g_iload_n (pc1 := 1) d_Mod_sure_0 rfl 1 rfl ?_
  refine g_iconst (pc1 := 2) (v := 0) d_Mod_sure_1 rfl (by decide) ?_
  refine g_aload_n (pc1 := 3) d_Mod_sure_2 rfl 0 rfl ?_
  refine g_geti (pc1 := 6) d_Mod_sure_3 rfl ⟨_, fo_Mod_257⟩ sh_401 (by decide) ?_
  refine g_callS0 (pc1 := 9) (As := [.int p1, .int 0, .int (M 401 64)]) (rest := []) d_Mod_sure_6 rfl mo_Mod_316 ms_Mod_in (by decide) rfl rfl (Nat.le_of_ble_eq_true rfl) ?_
  obtain ⟨r2, hq1, h⟩ := bnd h
  refine f_Mod_in hld  hq1 ?_
  dsimp only [psh]
  refine g_if_ne (pc1 := 12) (tgt := 14) d_Mod_sure_9 (by decide) rfl (fun c3 => ?_) (fun c3 => ?_)
  · replace h := itn h c3
    refine g_aload_n (pc1 := 15) d_Mod_sure_14 rfl 0 rfl ?_
    refine g_callV0 (pc1 := 18) (As := []) (rest := []) d_Mod_sure_15 rfl mo_Mod_377 mi_Mod_copies mv_Mod_copies rfl sh_401 (by decide) (by decide) rfl rfl (Nat.le_of_ble_eq_true rfl) ?_
    obtain ⟨M5, hq4, h⟩ := bnd h
    refine f_Mod_copies hld  hq4 ?_
    dsimp only [psh]
    refine g_iconst (pc1 := 19) (v := (-1)) d_Mod_sure_18 rfl (by decide) ?_
    refine g_istore_n (pc1 := 20) (lv' := [(0, .ref 401), (1, .int p1), (2, .int (-1))]) d_Mod_sure_19 rfl rfl (by decide) [1, 2, 0] rfl ?_
    refine g_iconst (pc1 := 21) (v := 0) d_Mod_sure_20 rfl (by decide) ?_
    refine g_istore_n (pc1 := 22) (lv' := [(0, .ref 401), (1, .int p1), (2, .int (-1)), (3, .int 0)]) d_Mod_sure_21 rfl rfl (by decide) [1, 2, 3, 0] rfl ?_
    exact h_Mod_sure_22 hld  hQ  _ (-1) 0 M5 h
  · replace h := itp h c3
    refine g_iconst (pc1 := 13) (v := (-1)) d_Mod_sure_12 rfl (by decide) ?_
    refine g_ireturn (Or.inl rfl) d_Mod_sure_13 rfl ?_
    cases h; exact hQ

def J_Mod_taste_222 (K142 : Int32 → Int32 → Int32 → Option (Int32 × gM)) (v3 : Int32) (v4 : Int32) (v5 : Int32) (M : gM) : Option (Int32 × gM) :=
  nmI (v5 + 1) (fun x13 => K142 v3 v4 x13)
set_option maxHeartbeats 4000000 in
set_option maxRecDepth 20000 in
theorem j_Mod_taste_222 {l : Launch} {ld : Nat} {Q : Option Value → gM → gL → gR → Prop} (hld : isLa ld)   {q : Int32 × gM} {M : gM} {L : gL} (hQ : Q (some (.int q.1)) q.2 L (rf ld)) {K142 : Int32 → Int32 → Int32 → Option (Int32 × gM)} {v3 : Int32} {v4 : Int32} {v5 : Int32} (hK142 : ∀ (w3 : Int32) (w4 : Int32) (w5 : Int32), K142 w3 w4 w5 = some q → Wp l y_Mod_taste (0, 0, 447) 447 0 0 142 [(0, .ref 401), (3, .int w3), (4, .int w4), (5, .int w5)] [] M L (rf ld) Q) (h : J_Mod_taste_222 K142 v3 v4 v5 M = some q) : Wp l y_Mod_taste (0, 0, 447) 447 0 0 222 [(0, .ref 401), (3, .int v3), (4, .int v4), (5, .int v5)] [] M L (rf ld) Q := by
  unfold J_Mod_taste_222 at h
  obtain ⟨x13, ex13, h⟩ := ltI h
  refine g_iinc (pc1 := 225) (v := x13) (lv' := [(0, .ref 401), (3, .int v3), (4, .int v4), (5, .int x13)]) d_Mod_taste_222 rfl 3 rfl (by rw [ex13]; rfl) (by decide) [1, 2, 3, 0] rfl ?_
  refine g_goto (tgt := 142) d_Mod_taste_225 (by decide) ?_
  exact hK142 v3 v4 x13 h
def J_Mod_taste_215 (K142 : Int32 → Int32 → Int32 → Option (Int32 × gM)) (v5 : Int32) (v6 : Int32) (M : gM) : Option (Int32 × gM) :=
  J_Mod_taste_222 K142 v5 v6 v5 M
set_option maxHeartbeats 4000000 in
set_option maxRecDepth 20000 in
theorem j_Mod_taste_215 {l : Launch} {ld : Nat} {Q : Option Value → gM → gL → gR → Prop} (hld : isLa ld)   {q : Int32 × gM} {M : gM} {L : gL} (hQ : Q (some (.int q.1)) q.2 L (rf ld)) {K142 : Int32 → Int32 → Int32 → Option (Int32 × gM)} {v5 : Int32} {v6 : Int32} (hK142 : ∀ (w3 : Int32) (w4 : Int32) (w5 : Int32), K142 w3 w4 w5 = some q → Wp l y_Mod_taste (0, 0, 447) 447 0 0 142 [(0, .ref 401), (3, .int w3), (4, .int w4), (5, .int w5)] [] M L (rf ld) Q) (h : J_Mod_taste_215 K142 v5 v6 M = some q) : Wp l y_Mod_taste (0, 0, 447) 447 0 0 215 [(0, .ref 401), (5, .int v5), (6, .int v6)] [] M L (rf ld) Q := by
  unfold J_Mod_taste_215 at h
  refine g_iload (pc1 := 217) d_Mod_taste_215 rfl 1 rfl ?_
  refine g_istore_n (pc1 := 218) (lv' := [(0, .ref 401), (3, .int v5), (5, .int v5), (6, .int v6)]) d_Mod_taste_217 rfl rfl (by decide) [1, 0, 2, 3] rfl ?_
  refine g_iload (pc1 := 220) d_Mod_taste_218 rfl 3 rfl ?_
  refine g_istore (pc1 := 222) (lv' := [(0, .ref 401), (3, .int v5), (4, .int v6), (5, .int v5), (6, .int v6)]) d_Mod_taste_220 rfl (by decide) [1, 2, 0, 3, 4] rfl ?_
  refine Wp.loc (lv' := [(0, .ref 401), (3, .int v5), (4, .int v6), (5, .int v5)]) [0, 1, 2, 3] rfl ?_
  exact j_Mod_taste_222 hld  hQ hK142 h
def J_Mod_taste_201 (K142 : Int32 → Int32 → Int32 → Option (Int32 × gM)) (v3 : Int32) (v4 : Int32) (v5 : Int32) (v6 : Int32) (M : gM) : Option (Int32 × gM) :=
  (if v3 < 0 then J_Mod_taste_215 K142 v5 v6 M else (if v6 < v4 then J_Mod_taste_215 K142 v5 v6 M else J_Mod_taste_222 K142 v3 v4 v5 M))
set_option maxHeartbeats 4000000 in
set_option maxRecDepth 20000 in
theorem j_Mod_taste_201 {l : Launch} {ld : Nat} {Q : Option Value → gM → gL → gR → Prop} (hld : isLa ld)   {q : Int32 × gM} {M : gM} {L : gL} (hQ : Q (some (.int q.1)) q.2 L (rf ld)) {K142 : Int32 → Int32 → Int32 → Option (Int32 × gM)} {v3 : Int32} {v4 : Int32} {v5 : Int32} {v6 : Int32} (hK142 : ∀ (w3 : Int32) (w4 : Int32) (w5 : Int32), K142 w3 w4 w5 = some q → Wp l y_Mod_taste (0, 0, 447) 447 0 0 142 [(0, .ref 401), (3, .int w3), (4, .int w4), (5, .int w5)] [] M L (rf ld) Q) (h : J_Mod_taste_201 K142 v3 v4 v5 v6 M = some q) : Wp l y_Mod_taste (0, 0, 447) 447 0 0 201 [(0, .ref 401), (3, .int v3), (4, .int v4), (5, .int v5), (6, .int v6)] [] M L (rf ld) Q := by
  unfold J_Mod_taste_201 at h
  refine g_iload_n (pc1 := 202) d_Mod_taste_201 rfl 1 rfl ?_
  refine g_if_lt (pc1 := 205) (tgt := 215) d_Mod_taste_202 (by decide) rfl (fun c12 => ?_) (fun c12 => ?_)
  · replace h := itp h c12
    refine Wp.loc (lv' := [(0, .ref 401), (5, .int v5), (6, .int v6)]) [0, 3, 4] rfl ?_
    exact j_Mod_taste_215 hld  hQ hK142 h
  · replace h := itn h c12
    refine g_iload (pc1 := 207) d_Mod_taste_205 rfl 4 rfl ?_
    refine g_iload (pc1 := 209) d_Mod_taste_207 rfl 2 rfl ?_
    refine g_icmp_lt (pc1 := 212) (tgt := 215) d_Mod_taste_209 (by decide) rfl (fun c14 => ?_) (fun c14 => ?_)
    · replace h := itp h c14
      refine Wp.loc (lv' := [(0, .ref 401), (5, .int v5), (6, .int v6)]) [0, 3, 4] rfl ?_
      exact j_Mod_taste_215 hld  hQ hK142 h
    · replace h := itn h c14
      refine g_goto (tgt := 222) d_Mod_taste_212 (by decide) ?_
      refine Wp.loc (lv' := [(0, .ref 401), (3, .int v3), (4, .int v4), (5, .int v5)]) [0, 1, 2, 3] rfl ?_
      exact j_Mod_taste_222 hld  hQ hK142 h
def J_Mod_taste_195 (K142 : Int32 → Int32 → Int32 → Option (Int32 × gM)) (K155 : Int32 → Int32 → Option (Int32 × gM)) (v3 : Int32) (v4 : Int32) (v5 : Int32) (v6 : Int32) (v7 : Int32) (M : gM) : Option (Int32 × gM) :=
  nmI (v7 + 1) (fun x17 => K155 v6 x17)
set_option maxHeartbeats 4000000 in
set_option maxRecDepth 20000 in
theorem j_Mod_taste_195 {l : Launch} {ld : Nat} {Q : Option Value → gM → gL → gR → Prop} (hld : isLa ld)   {q : Int32 × gM} {M : gM} {L : gL} (hQ : Q (some (.int q.1)) q.2 L (rf ld)) {K142 : Int32 → Int32 → Int32 → Option (Int32 × gM)} {K155 : Int32 → Int32 → Option (Int32 × gM)} {v3 : Int32} {v4 : Int32} {v5 : Int32} {v6 : Int32} {v7 : Int32} (hK142 : ∀ (w3 : Int32) (w4 : Int32) (w5 : Int32), K142 w3 w4 w5 = some q → Wp l y_Mod_taste (0, 0, 447) 447 0 0 142 [(0, .ref 401), (3, .int w3), (4, .int w4), (5, .int w5)] [] M L (rf ld) Q) (hK155 : ∀ (w6 : Int32) (w7 : Int32), K155 w6 w7 = some q → Wp l y_Mod_taste (0, 0, 447) 447 0 0 155 [(0, .ref 401), (3, .int v3), (4, .int v4), (5, .int v5), (6, .int w6), (7, .int w7)] [] M L (rf ld) Q) (h : J_Mod_taste_195 K142 K155 v3 v4 v5 v6 v7 M = some q) : Wp l y_Mod_taste (0, 0, 447) 447 0 0 195 [(0, .ref 401), (3, .int v3), (4, .int v4), (5, .int v5), (6, .int v6), (7, .int v7)] [] M L (rf ld) Q := by
  unfold J_Mod_taste_195 at h
  obtain ⟨x17, ex17, h⟩ := ltI h
  refine g_iinc (pc1 := 198) (v := x17) (lv' := [(0, .ref 401), (3, .int v3), (4, .int v4), (5, .int v5), (6, .int v6), (7, .int x17)]) d_Mod_taste_195 rfl 5 rfl (by rw [ex17]; rfl) (by decide) [1, 2, 3, 4, 5, 0] rfl ?_
  refine g_goto (tgt := 155) d_Mod_taste_198 (by decide) ?_
  exact hK155 v6 x17 h
def B_Mod_taste_155 (K142 : Int32 → Int32 → Int32 → Option (Int32 × gM)) (v3 : Int32) (v4 : Int32) (v5 : Int32) (M : gM) (K155 : Int32 → Int32 → Option (Int32 × gM)) : Int32 → Int32 → Option (Int32 × gM) := fun v6 v7 =>
  (if 100 ≤ v7 then J_Mod_taste_201 K142 v3 v4 v5 v6 M else (if (((100 * v5) + v7) : Int32) < 0 ∨ 3000 ≤ (((100 * v5) + v7) : Int32).toNatClampNeg then none else (if (M 444 (((100 * v5) + v7) : Int32).toNatClampNeg) ≤ v6 then J_Mod_taste_195 K142 K155 v3 v4 v5 v6 v7 M else (if (((100 * v5) + v7) : Int32) < 0 ∨ 3000 ≤ (((100 * v5) + v7) : Int32).toNatClampNeg then none else nmI (M 444 (((100 * v5) + v7) : Int32).toNatClampNeg) (fun x19 => J_Mod_taste_195 K142 K155 v3 v4 v5 x19 v7 M)))))
def H_Mod_taste_155 (K142 : Int32 → Int32 → Int32 → Option (Int32 × gM)) (v3 : Int32) (v4 : Int32) (v5 : Int32) (M : gM) : Nat → Int32 → Int32 → Option (Int32 × gM) := lpK (B_Mod_taste_155 K142 v3 v4 v5 M) (fun _ _ => none)
set_option maxHeartbeats 4000000 in
set_option maxRecDepth 20000 in
theorem h_Mod_taste_155 {l : Launch} {ld : Nat} {Q : Option Value → gM → gL → gR → Prop} (hld : isLa ld)   {q : Int32 × gM} {M : gM} {L : gL} (hQ : Q (some (.int q.1)) q.2 L (rf ld)) {K142 : Int32 → Int32 → Int32 → Option (Int32 × gM)} {v3 : Int32} {v4 : Int32} {v5 : Int32} (hK142 : ∀ (w3 : Int32) (w4 : Int32) (w5 : Int32), K142 w3 w4 w5 = some q → Wp l y_Mod_taste (0, 0, 447) 447 0 0 142 [(0, .ref 401), (3, .int w3), (4, .int w4), (5, .int w5)] [] M L (rf ld) Q) : ∀ (f : Nat) (v6 : Int32) (v7 : Int32), H_Mod_taste_155 K142 v3 v4 v5 M f v6 v7 = some q → Wp l y_Mod_taste (0, 0, 447) 447 0 0 155 [(0, .ref 401), (3, .int v3), (4, .int v4), (5, .int v5), (6, .int v6), (7, .int v7)] [] M L (rf ld) Q := by
  intro f
  induction f with
  | zero => intro v6 v7 h; cases h
  | succ f hK155 =>
    intro v6 v7 h
    replace h : B_Mod_taste_155 K142 v3 v4 v5 M (H_Mod_taste_155 K142 v3 v4 v5 M f) v6 v7 = some q := h
    unfold B_Mod_taste_155 at h
    refine g_iload (pc1 := 157) d_Mod_taste_155 rfl 5 rfl ?_
    refine g_bipush (pc1 := 159) (v := 100) d_Mod_taste_157 rfl (by decide) ?_
    refine g_icmp_ge (pc1 := 162) (tgt := 201) d_Mod_taste_159 (by decide) rfl (fun c11 => ?_) (fun c11 => ?_)
    · replace h := itp h c11
      refine Wp.loc (lv' := [(0, .ref 401), (3, .int v3), (4, .int v4), (5, .int v5), (6, .int v6)]) [0, 1, 2, 3, 4] rfl ?_
      exact j_Mod_taste_201 hld  hQ hK142 h
    · replace h := itn h c11
      refine g_aload_n (pc1 := 163) d_Mod_taste_162 rfl 0 rfl ?_
      refine g_getr (pc1 := 166) d_Mod_taste_163 rfl ⟨_, fo_Mod_146⟩ sh_401 (by decide) (rf_401_68 ld) ?_
      refine g_bipush (pc1 := 168) (v := 100) d_Mod_taste_166 rfl (by decide) ?_
      refine g_iload (pc1 := 170) d_Mod_taste_168 rfl 3 rfl ?_
      refine g_imul (pc1 := 171) d_Mod_taste_170 rfl ?_
      refine g_iload (pc1 := 173) d_Mod_taste_171 rfl 5 rfl ?_
      refine g_iadd (pc1 := 174) d_Mod_taste_173 rfl ?_
      obtain ⟨g15, h⟩ := gdn h
      refine g_iald (pc1 := 175) d_Mod_taste_174 rfl sh_444 (by decide) g15 ?_
      refine g_iload (pc1 := 177) d_Mod_taste_175 rfl 4 rfl ?_
      refine g_icmp_le (pc1 := 180) (tgt := 195) d_Mod_taste_177 (by decide) rfl (fun c16 => ?_) (fun c16 => ?_)
      · replace h := itp h c16
        exact j_Mod_taste_195 hld  hQ hK142 hK155 h
      · replace h := itn h c16
        refine g_aload_n (pc1 := 181) d_Mod_taste_180 rfl 0 rfl ?_
        refine g_getr (pc1 := 184) d_Mod_taste_181 rfl ⟨_, fo_Mod_146⟩ sh_401 (by decide) (rf_401_68 ld) ?_
        refine g_bipush (pc1 := 186) (v := 100) d_Mod_taste_184 rfl (by decide) ?_
        refine g_iload (pc1 := 188) d_Mod_taste_186 rfl 3 rfl ?_
        refine g_imul (pc1 := 189) d_Mod_taste_188 rfl ?_
        refine g_iload (pc1 := 191) d_Mod_taste_189 rfl 5 rfl ?_
        refine g_iadd (pc1 := 192) d_Mod_taste_191 rfl ?_
        obtain ⟨g18, h⟩ := gdn h
        refine g_iald (pc1 := 193) d_Mod_taste_192 rfl sh_444 (by decide) g18 ?_
        refine Wp.lI h (fun x19 h => ?_)
        refine g_istore (pc1 := 195) (lv' := [(0, .ref 401), (3, .int v3), (4, .int v4), (5, .int v5), (6, .int x19), (7, .int v7)]) d_Mod_taste_193 rfl (by decide) [1, 2, 3, 4, 0, 5] rfl ?_
        exact j_Mod_taste_195 hld  hQ hK142 hK155 h
def B_Mod_taste_142 (M : gM) (K142 : Int32 → Int32 → Int32 → Option (Int32 × gM)) : Int32 → Int32 → Int32 → Option (Int32 × gM) := fun v3 v4 v5 =>
  (if 30 ≤ v5 then some (v3, M) else H_Mod_taste_155 K142 v3 v4 v5 M FU 0 0)
def H_Mod_taste_142 (M : gM) : Nat → Int32 → Int32 → Int32 → Option (Int32 × gM) := lpK (B_Mod_taste_142 M) (fun _ _ _ => none)
set_option maxHeartbeats 4000000 in
set_option maxRecDepth 20000 in
theorem h_Mod_taste_142 {l : Launch} {ld : Nat} {Q : Option Value → gM → gL → gR → Prop} (hld : isLa ld)   {q : Int32 × gM} {M : gM} {L : gL} (hQ : Q (some (.int q.1)) q.2 L (rf ld))    : ∀ (f : Nat) (v3 : Int32) (v4 : Int32) (v5 : Int32), H_Mod_taste_142 M f v3 v4 v5 = some q → Wp l y_Mod_taste (0, 0, 447) 447 0 0 142 [(0, .ref 401), (3, .int v3), (4, .int v4), (5, .int v5)] [] M L (rf ld) Q := by
  intro f
  induction f with
  | zero => intro v3 v4 v5 h; cases h
  | succ f hK142 =>
    intro v3 v4 v5 h
    replace h : B_Mod_taste_142 M (H_Mod_taste_142 M f) v3 v4 v5 = some q := h
    unfold B_Mod_taste_142 at h
    refine g_iload (pc1 := 144) d_Mod_taste_142 rfl 3 rfl ?_
    refine g_bipush (pc1 := 146) (v := 30) d_Mod_taste_144 rfl (by decide) ?_
    refine g_icmp_ge (pc1 := 149) (tgt := 228) d_Mod_taste_146 (by decide) rfl (fun c10 => ?_) (fun c10 => ?_)
    · replace h := itp h c10
      refine g_iload_n (pc1 := 229) d_Mod_taste_228 rfl 1 rfl ?_
      refine g_ireturn (Or.inl rfl) d_Mod_taste_229 rfl ?_
      cases h; exact hQ
    · replace h := itn h c10
      refine g_iconst (pc1 := 150) (v := 0) d_Mod_taste_149 rfl (by decide) ?_
      refine g_istore (pc1 := 152) (lv' := [(0, .ref 401), (3, .int v3), (4, .int v4), (5, .int v5), (6, .int 0)]) d_Mod_taste_150 rfl (by decide) [1, 2, 3, 4, 0] rfl ?_
      refine g_iconst (pc1 := 153) (v := 0) d_Mod_taste_152 rfl (by decide) ?_
      refine g_istore (pc1 := 155) (lv' := [(0, .ref 401), (3, .int v3), (4, .int v4), (5, .int v5), (6, .int 0), (7, .int 0)]) d_Mod_taste_153 rfl (by decide) [1, 2, 3, 4, 5, 0] rfl ?_
      exact h_Mod_taste_155 hld  hQ hK142 _ 0 0 h
def J_Mod_taste_126 (v2 : Int32) (M : gM) : Option (Int32 × gM) :=
  (if v2 = 0 then some ((-2), M) else H_Mod_taste_142 M FU (-2) 0 0)
set_option maxHeartbeats 4000000 in
set_option maxRecDepth 20000 in
theorem j_Mod_taste_126 {l : Launch} {ld : Nat} {Q : Option Value → gM → gL → gR → Prop} (hld : isLa ld)   {q : Int32 × gM} {M : gM} {L : gL} (hQ : Q (some (.int q.1)) q.2 L (rf ld))  {v2 : Int32}  (h : J_Mod_taste_126 v2 M = some q) : Wp l y_Mod_taste (0, 0, 447) 447 0 0 126 [(0, .ref 401), (2, .int v2)] [] M L (rf ld) Q := by
  unfold J_Mod_taste_126 at h
  refine g_iload_n (pc1 := 127) d_Mod_taste_126 rfl 1 rfl ?_
  refine g_if_ne (pc1 := 130) (tgt := 133) d_Mod_taste_127 (by decide) rfl (fun c9 => ?_) (fun c9 => ?_)
  · replace h := itn h c9
    refine g_bipush (pc1 := 135) (v := (-2)) d_Mod_taste_133 rfl (by decide) ?_
    refine g_istore_n (pc1 := 136) (lv' := [(0, .ref 401), (2, .int v2), (3, .int (-2))]) d_Mod_taste_135 rfl rfl (by decide) [1, 2, 0] rfl ?_
    refine g_iconst (pc1 := 137) (v := 0) d_Mod_taste_136 rfl (by decide) ?_
    refine g_istore (pc1 := 139) (lv' := [(0, .ref 401), (2, .int v2), (3, .int (-2)), (4, .int 0)]) d_Mod_taste_137 rfl (by decide) [1, 2, 3, 0] rfl ?_
    refine g_iconst (pc1 := 140) (v := 0) d_Mod_taste_139 rfl (by decide) ?_
    refine g_istore (pc1 := 142) (lv' := [(0, .ref 401), (2, .int v2), (3, .int (-2)), (4, .int 0), (5, .int 0)]) d_Mod_taste_140 rfl (by decide) [1, 2, 3, 4, 0] rfl ?_
    refine Wp.loc (lv' := [(0, .ref 401), (3, .int (-2)), (4, .int 0), (5, .int 0)]) [0, 2, 3, 4] rfl ?_
    exact h_Mod_taste_142 hld  hQ  _ (-2) 0 0 h
  · replace h := itp h c9
    refine g_bipush (pc1 := 132) (v := (-2)) d_Mod_taste_130 rfl (by decide) ?_
    refine g_ireturn (Or.inl rfl) d_Mod_taste_132 rfl ?_
    cases h; exact hQ
def J_Mod_taste_120 (K44 : Int32 → Int32 → gM → Option (Int32 × gM)) (v1 : Int32) (v2 : Int32) (v3 : Int32) (M : gM) : Option (Int32 × gM) :=
  nmI (v3 + 1) (fun x26 => K44 v2 x26 M)
set_option maxHeartbeats 4000000 in
set_option maxRecDepth 20000 in
theorem j_Mod_taste_120 {l : Launch} {ld : Nat} {Q : Option Value → gM → gL → gR → Prop} (hld : isLa ld)   {q : Int32 × gM} {M : gM} {L : gL} (hQ : Q (some (.int q.1)) q.2 L (rf ld)) {K44 : Int32 → Int32 → gM → Option (Int32 × gM)} {v1 : Int32} {v2 : Int32} {v3 : Int32} (hK44 : ∀ (w2 : Int32) (w3 : Int32) (M : gM), K44 w2 w3 M = some q → Wp l y_Mod_taste (0, 0, 447) 447 0 0 44 [(0, .ref 401), (1, .int v1), (2, .int w2), (3, .int w3)] [] M L (rf ld) Q) (h : J_Mod_taste_120 K44 v1 v2 v3 M = some q) : Wp l y_Mod_taste (0, 0, 447) 447 0 0 120 [(0, .ref 401), (1, .int v1), (2, .int v2), (3, .int v3)] [] M L (rf ld) Q := by
  unfold J_Mod_taste_120 at h
  obtain ⟨x26, ex26, h⟩ := ltI h
  refine g_iinc (pc1 := 123) (v := x26) (lv' := [(0, .ref 401), (1, .int v1), (2, .int v2), (3, .int x26)]) d_Mod_taste_120 rfl 3 rfl (by rw [ex26]; rfl) (by decide) [1, 2, 3, 0] rfl ?_
  refine g_goto (tgt := 44) d_Mod_taste_123 (by decide) ?_
  exact hK44 v2 x26 M h
def B_Mod_taste_78 (K44 : Int32 → Int32 → gM → Option (Int32 × gM)) (v1 : Int32) (v2 : Int32) (v3 : Int32) (K78 : Int32 → gM → Option (Int32 × gM)) : Int32 → gM → Option (Int32 × gM) := fun v4 M =>
  (if 30 ≤ v4 then J_Mod_taste_120 K44 v1 v2 v3 M else bI2 (F_Mod_forceBy (v4 / 10) (v4 - v4 / 10 * 10) M) (fun r28 M29 => (if (((100 * v4) + r28) : Int32) < 0 ∨ 3000 ≤ (((100 * v4) + r28) : Int32).toNatClampNeg then none else (if (((100 * v4) + r28) : Int32) < 0 ∨ 3000 ≤ (((100 * v4) + r28) : Int32).toNatClampNeg then none else nmM (uM M29 444 (((100 * v4) + r28) : Int32).toNatClampNeg ((M29 444 (((100 * v4) + r28) : Int32).toNatClampNeg) + 1)) (fun M32 => nmI (v4 + 1) (fun x33 => K78 x33 M32))))))
def H_Mod_taste_78 (K44 : Int32 → Int32 → gM → Option (Int32 × gM)) (v1 : Int32) (v2 : Int32) (v3 : Int32) : Nat → Int32 → gM → Option (Int32 × gM) := lpK (B_Mod_taste_78 K44 v1 v2 v3) (fun _ _ => none)
set_option maxHeartbeats 4000000 in
set_option maxRecDepth 20000 in
theorem h_Mod_taste_78 {l : Launch} {ld : Nat} {Q : Option Value → gM → gL → gR → Prop} (hld : isLa ld)   {q : Int32 × gM} {L : gL} (hQ : Q (some (.int q.1)) q.2 L (rf ld)) {K44 : Int32 → Int32 → gM → Option (Int32 × gM)} {v1 : Int32} {v2 : Int32} {v3 : Int32} (hK44 : ∀ (w2 : Int32) (w3 : Int32) (M : gM), K44 w2 w3 M = some q → Wp l y_Mod_taste (0, 0, 447) 447 0 0 44 [(0, .ref 401), (1, .int v1), (2, .int w2), (3, .int w3)] [] M L (rf ld) Q) : ∀ (f : Nat) (v4 : Int32) (M : gM), H_Mod_taste_78 K44 v1 v2 v3 f v4 M = some q → Wp l y_Mod_taste (0, 0, 447) 447 0 0 78 [(0, .ref 401), (1, .int v1), (2, .int v2), (3, .int v3), (4, .int v4)] [] M L (rf ld) Q := by
  intro f
  induction f with
  | zero => intro v4 M h; cases h
  | succ f hK78 =>
    intro v4 M h
    replace h : B_Mod_taste_78 K44 v1 v2 v3 (H_Mod_taste_78 K44 v1 v2 v3 f) v4 M = some q := h
    unfold B_Mod_taste_78 at h
    refine g_iload (pc1 := 80) d_Mod_taste_78 rfl 4 rfl ?_
    refine g_bipush (pc1 := 82) (v := 30) d_Mod_taste_80 rfl (by decide) ?_
    refine g_icmp_ge (pc1 := 85) (tgt := 120) d_Mod_taste_82 (by decide) rfl (fun c25 => ?_) (fun c25 => ?_)
    · replace h := itp h c25
      refine Wp.loc (lv' := [(0, .ref 401), (1, .int v1), (2, .int v2), (3, .int v3)]) [0, 1, 2, 3] rfl ?_
      exact j_Mod_taste_120 hld  hQ hK44 h
    · replace h := itn h c25
      refine g_aload_n (pc1 := 86) d_Mod_taste_85 rfl 0 rfl ?_
      refine g_getr (pc1 := 89) d_Mod_taste_86 rfl ⟨_, fo_Mod_146⟩ sh_401 (by decide) (rf_401_68 ld) ?_
      refine g_bipush (pc1 := 91) (v := 100) d_Mod_taste_89 rfl (by decide) ?_
      refine g_iload (pc1 := 93) d_Mod_taste_91 rfl 4 rfl ?_
      refine g_imul (pc1 := 94) d_Mod_taste_93 rfl ?_
      refine g_aload_n (pc1 := 95) d_Mod_taste_94 rfl 0 rfl ?_
      refine g_iload (pc1 := 97) d_Mod_taste_95 rfl 4 rfl ?_
      refine g_bipush (pc1 := 99) (v := 10) d_Mod_taste_97 rfl (by decide) ?_
      refine g_idiv (pc1 := 100) d_Mod_taste_99 rfl (by decide) ?_
      refine g_iload (pc1 := 102) d_Mod_taste_100 rfl 4 rfl ?_
      refine g_bipush (pc1 := 104) (v := 10) d_Mod_taste_102 rfl (by decide) ?_
      refine g_irem (pc1 := 105) d_Mod_taste_104 rfl (by decide) ?_
      refine g_callV0 (pc1 := 108) (As := [.int (v4 / 10), .int (v4 - v4 / 10 * 10)]) (rest := [.int (100 * v4), .ref 444]) d_Mod_taste_105 rfl mo_Mod_359 mi_Mod_forceBy mv_Mod_forceBy rfl sh_401 (by decide) (by decide) rfl rfl (Nat.le_of_ble_eq_true rfl) ?_
      obtain ⟨r28, M29, hq27, h⟩ := bnd2 h
      refine f_Mod_forceBy hld  hq27 ?_
      dsimp only [psh]
      refine g_iadd (pc1 := 109) d_Mod_taste_108 rfl ?_
      refine g_dup2 (pc1 := 110) d_Mod_taste_109 rfl rfl rfl ?_
      obtain ⟨g30, h⟩ := gdn h
      refine g_iald (pc1 := 111) d_Mod_taste_110 rfl sh_444 (by decide) g30 ?_
      refine g_iconst (pc1 := 112) (v := 1) d_Mod_taste_111 rfl (by decide) ?_
      refine g_iadd (pc1 := 113) d_Mod_taste_112 rfl ?_
      obtain ⟨g31, h⟩ := gdn h
      refine g_iast (pc1 := 114) d_Mod_taste_113 rfl sh_444 (by decide) g31 ?_
      refine Wp.lM h (fun M32 h => ?_)
      obtain ⟨x33, ex33, h⟩ := ltI h
      refine g_iinc (pc1 := 117) (v := x33) (lv' := [(0, .ref 401), (1, .int v1), (2, .int v2), (3, .int v3), (4, .int x33)]) d_Mod_taste_114 rfl 4 rfl (by rw [ex33]; rfl) (by decide) [1, 2, 3, 4, 0] rfl ?_
      refine g_goto (tgt := 78) d_Mod_taste_117 (by decide) ?_
      exact hK78 x33 M32 h
def B_Mod_taste_44 (v1 : Int32) (K44 : Int32 → Int32 → gM → Option (Int32 × gM)) : Int32 → Int32 → gM → Option (Int32 × gM) := fun v2 v3 M =>
  (if ((M 401 18) : Int32) < 0 ∨ 2 ≤ ((M 401 18) : Int32).toNatClampNeg then none else (if (13 * (M 415 ((M 401 18) : Int32).toNatClampNeg)) ≤ v3 then J_Mod_taste_126 v2 M else bI2 (F_Mod_isWay v3 v1 M) (fun r21 M22 => (if r21 = 0 then J_Mod_taste_120 K44 v1 v2 v3 M22 else nmI (v2 + 1) (fun x24 => H_Mod_taste_78 K44 v1 x24 v3 FU 0 M22)))))
def H_Mod_taste_44 (v1 : Int32) : Nat → Int32 → Int32 → gM → Option (Int32 × gM) := lpK (B_Mod_taste_44 v1) (fun _ _ _ => none)
set_option maxHeartbeats 4000000 in
set_option maxRecDepth 20000 in
theorem h_Mod_taste_44 {l : Launch} {ld : Nat} {Q : Option Value → gM → gL → gR → Prop} (hld : isLa ld)   {q : Int32 × gM} {L : gL} (hQ : Q (some (.int q.1)) q.2 L (rf ld))  {v1 : Int32}  : ∀ (f : Nat) (v2 : Int32) (v3 : Int32) (M : gM), H_Mod_taste_44 v1 f v2 v3 M = some q → Wp l y_Mod_taste (0, 0, 447) 447 0 0 44 [(0, .ref 401), (1, .int v1), (2, .int v2), (3, .int v3)] [] M L (rf ld) Q := by
  intro f
  induction f with
  | zero => intro v2 v3 M h; cases h
  | succ f hK44 =>
    intro v2 v3 M h
    replace h : B_Mod_taste_44 v1 (H_Mod_taste_44 v1 f) v2 v3 M = some q := h
    unfold B_Mod_taste_44 at h
    refine g_iload_n (pc1 := 45) d_Mod_taste_44 rfl 3 rfl ?_
    refine g_bipush (pc1 := 47) (v := 13) d_Mod_taste_45 rfl (by decide) ?_
    refine g_aload_n (pc1 := 48) d_Mod_taste_47 rfl 0 rfl ?_
    refine g_getr (pc1 := 51) d_Mod_taste_48 rfl ⟨_, fo_Mod_58⟩ sh_401 (by decide) (rf_401_27 ld) ?_
    refine g_aload_n (pc1 := 52) d_Mod_taste_51 rfl 0 rfl ?_
    refine g_geti (pc1 := 55) d_Mod_taste_52 rfl ⟨_, fo_Mod_236⟩ sh_401 (by decide) ?_
    obtain ⟨g7, h⟩ := gdn h
    refine g_iald (pc1 := 56) d_Mod_taste_55 rfl sh_415 (by decide) g7 ?_
    refine g_imul (pc1 := 57) d_Mod_taste_56 rfl ?_
    refine g_icmp_ge (pc1 := 60) (tgt := 126) d_Mod_taste_57 (by decide) rfl (fun c8 => ?_) (fun c8 => ?_)
    · replace h := itp h c8
      refine Wp.loc (lv' := [(0, .ref 401), (2, .int v2)]) [0, 2] rfl ?_
      exact j_Mod_taste_126 hld  hQ  h
    · replace h := itn h c8
      refine g_aload_n (pc1 := 61) d_Mod_taste_60 rfl 0 rfl ?_
      refine g_iload_n (pc1 := 62) d_Mod_taste_61 rfl 3 rfl ?_
      refine g_iload_n (pc1 := 63) d_Mod_taste_62 rfl 1 rfl ?_
      refine g_callV0 (pc1 := 66) (As := [.int v3, .int v1]) (rest := []) d_Mod_taste_63 rfl mo_Mod_455 mi_Mod_isWay mv_Mod_isWay rfl sh_401 (by decide) (by decide) rfl rfl (Nat.le_of_ble_eq_true rfl) ?_
      obtain ⟨r21, M22, hq20, h⟩ := bnd2 h
      refine f_Mod_isWay hld  hq20 ?_
      dsimp only [psh]
      refine g_if_ne (pc1 := 69) (tgt := 72) d_Mod_taste_66 (by decide) rfl (fun c23 => ?_) (fun c23 => ?_)
      · replace h := itn h c23
        obtain ⟨x24, ex24, h⟩ := ltI h
        refine g_iinc (pc1 := 75) (v := x24) (lv' := [(0, .ref 401), (1, .int v1), (2, .int x24), (3, .int v3)]) d_Mod_taste_72 rfl 2 rfl (by rw [ex24]; rfl) (by decide) [1, 2, 0, 3] rfl ?_
        refine g_iconst (pc1 := 76) (v := 0) d_Mod_taste_75 rfl (by decide) ?_
        refine g_istore (pc1 := 78) (lv' := [(0, .ref 401), (1, .int v1), (2, .int x24), (3, .int v3), (4, .int 0)]) d_Mod_taste_76 rfl (by decide) [1, 2, 3, 4, 0] rfl ?_
        exact h_Mod_taste_78 hld  hQ hK44 _ 0 M22 h
      · replace h := itp h c23
        refine g_goto (tgt := 120) d_Mod_taste_69 (by decide) ?_
        exact j_Mod_taste_120 hld  hQ hK44 h
def J_Mod_taste_40 (v1 : Int32) (M : gM) : Option (Int32 × gM) :=
  H_Mod_taste_44 v1 FU 0 0 M
set_option maxHeartbeats 4000000 in
set_option maxRecDepth 20000 in
theorem j_Mod_taste_40 {l : Launch} {ld : Nat} {Q : Option Value → gM → gL → gR → Prop} (hld : isLa ld)   {q : Int32 × gM} {M : gM} {L : gL} (hQ : Q (some (.int q.1)) q.2 L (rf ld))  {v1 : Int32}  (h : J_Mod_taste_40 v1 M = some q) : Wp l y_Mod_taste (0, 0, 447) 447 0 0 40 [(0, .ref 401), (1, .int v1)] [] M L (rf ld) Q := by
  unfold J_Mod_taste_40 at h
  refine g_iconst (pc1 := 41) (v := 0) d_Mod_taste_40 rfl (by decide) ?_
  refine g_istore_n (pc1 := 42) (lv' := [(0, .ref 401), (1, .int v1), (2, .int 0)]) d_Mod_taste_41 rfl rfl (by decide) [1, 2, 0] rfl ?_
  refine g_iconst (pc1 := 43) (v := 0) d_Mod_taste_42 rfl (by decide) ?_
  refine g_istore_n (pc1 := 44) (lv' := [(0, .ref 401), (1, .int v1), (2, .int 0), (3, .int 0)]) d_Mod_taste_43 rfl rfl (by decide) [1, 2, 3, 0] rfl ?_
  exact h_Mod_taste_44 hld  hQ  _ 0 0 M h
def B_Mod_taste_20 (v1 : Int32) (K20 : Int32 → gM → Option (Int32 × gM)) : Int32 → gM → Option (Int32 × gM) := fun v2 M =>
  (if 3000 ≤ v2 then J_Mod_taste_40 v1 M else (if (v2 : Int32) < 0 ∨ 3000 ≤ (v2 : Int32).toNatClampNeg then none else nmM (uM M 444 (v2 : Int32).toNatClampNeg 0) (fun M35 => nmI (v2 + 1) (fun x36 => K20 x36 M35))))
def H_Mod_taste_20 (v1 : Int32) : Nat → Int32 → gM → Option (Int32 × gM) := lpK (B_Mod_taste_20 v1) (fun _ _ => none)
set_option maxHeartbeats 4000000 in
set_option maxRecDepth 20000 in
theorem h_Mod_taste_20 {l : Launch} {ld : Nat} {Q : Option Value → gM → gL → gR → Prop} (hld : isLa ld)   {q : Int32 × gM} {L : gL} (hQ : Q (some (.int q.1)) q.2 L (rf ld))  {v1 : Int32}  : ∀ (f : Nat) (v2 : Int32) (M : gM), H_Mod_taste_20 v1 f v2 M = some q → Wp l y_Mod_taste (0, 0, 447) 447 0 0 20 [(0, .ref 401), (1, .int v1), (2, .int v2)] [] M L (rf ld) Q := by
  intro f
  induction f with
  | zero => intro v2 M h; cases h
  | succ f hK20 =>
    intro v2 M h
    replace h : B_Mod_taste_20 v1 (H_Mod_taste_20 v1 f) v2 M = some q := h
    unfold B_Mod_taste_20 at h
    refine g_iload_n (pc1 := 21) d_Mod_taste_20 rfl 2 rfl ?_
    refine g_sipush (pc1 := 24) (v := 3000) d_Mod_taste_21 rfl (by decide) ?_
    refine g_icmp_ge (pc1 := 27) (tgt := 40) d_Mod_taste_24 (by decide) rfl (fun c6 => ?_) (fun c6 => ?_)
    · replace h := itp h c6
      refine Wp.loc (lv' := [(0, .ref 401), (1, .int v1)]) [0, 1] rfl ?_
      exact j_Mod_taste_40 hld  hQ  h
    · replace h := itn h c6
      refine g_aload_n (pc1 := 28) d_Mod_taste_27 rfl 0 rfl ?_
      refine g_getr (pc1 := 31) d_Mod_taste_28 rfl ⟨_, fo_Mod_146⟩ sh_401 (by decide) (rf_401_68 ld) ?_
      refine g_iload_n (pc1 := 32) d_Mod_taste_31 rfl 2 rfl ?_
      refine g_iconst (pc1 := 33) (v := 0) d_Mod_taste_32 rfl (by decide) ?_
      obtain ⟨g34, h⟩ := gdn h
      refine g_iast (pc1 := 34) d_Mod_taste_33 rfl sh_444 (by decide) g34 ?_
      refine Wp.lM h (fun M35 h => ?_)
      obtain ⟨x36, ex36, h⟩ := ltI h
      refine g_iinc (pc1 := 37) (v := x36) (lv' := [(0, .ref 401), (1, .int v1), (2, .int x36)]) d_Mod_taste_34 rfl 2 rfl (by rw [ex36]; rfl) (by decide) [1, 2, 0] rfl ?_
      refine g_goto (tgt := 20) d_Mod_taste_37 (by decide) ?_
      exact hK20 x36 M35 h
def F_Mod_taste (p1 : Int32) (M : gM) : Option (Int32 × gM) :=
  bI (F_Mod_in p1 0 (M 401 64)) (fun r2 => (if r2 = 0 then some ((-1), M) else bI (F_Mod_copies M) (fun M5 => H_Mod_taste_20 p1 FU 0 M5)))
set_option maxHeartbeats 4000000 in
set_option maxRecDepth 20000 in
theorem f_Mod_taste {l : Launch} {ld : Nat} {M : gM} {L : gL} {Q : Option Value → gM → gL → gR → Prop} (hld : isLa ld) {p1 : Int32}  {q : Int32 × gM} (h : F_Mod_taste p1 M = some q) (hQ : Q (some (.int q.1)) q.2 L (rf ld)) : Tm l y_Mod_taste (0, 0, 447) 447 [.ref 401, .int p1] M L (rf ld) Q := by
  refine Tm.of (by decide) (Nat.le_of_ble_eq_true rfl) ?_
  show Wp l y_Mod_taste (0, 0, 447) 447 0 0 0 [(0, .ref 401), (1, .int p1)] [] M L (rf ld) Q
  unfold F_Mod_taste at h
  refine g_iload_n (pc1 := 1) d_Mod_taste_0 rfl 1 rfl ?_
  refine g_iconst (pc1 := 2) (v := 0) d_Mod_taste_1 rfl (by decide) ?_
  refine g_aload_n (pc1 := 3) d_Mod_taste_2 rfl 0 rfl ?_
  refine g_geti (pc1 := 6) d_Mod_taste_3 rfl ⟨_, fo_Mod_257⟩ sh_401 (by decide) ?_
  refine g_callS0 (pc1 := 9) (As := [.int p1, .int 0, .int (M 401 64)]) (rest := []) d_Mod_taste_6 rfl mo_Mod_316 ms_Mod_in (by decide) rfl rfl (Nat.le_of_ble_eq_true rfl) ?_
  obtain ⟨r2, hq1, h⟩ := bnd h
  refine f_Mod_in hld  hq1 ?_
  dsimp only [psh]
  refine g_if_ne (pc1 := 12) (tgt := 14) d_Mod_taste_9 (by decide) rfl (fun c3 => ?_) (fun c3 => ?_)
  · replace h := itn h c3
    refine g_aload_n (pc1 := 15) d_Mod_taste_14 rfl 0 rfl ?_
    refine g_callV0 (pc1 := 18) (As := []) (rest := []) d_Mod_taste_15 rfl mo_Mod_377 mi_Mod_copies mv_Mod_copies rfl sh_401 (by decide) (by decide) rfl rfl (Nat.le_of_ble_eq_true rfl) ?_
    obtain ⟨M5, hq4, h⟩ := bnd h
    refine f_Mod_copies hld  hq4 ?_
    dsimp only [psh]
    refine g_iconst (pc1 := 19) (v := 0) d_Mod_taste_18 rfl (by decide) ?_
    refine g_istore_n (pc1 := 20) (lv' := [(0, .ref 401), (1, .int p1), (2, .int 0)]) d_Mod_taste_19 rfl rfl (by decide) [1, 2, 0] rfl ?_
    exact h_Mod_taste_20 hld  hQ  _ 0 M5 h
  · replace h := itp h c3
    refine g_iconst (pc1 := 13) (v := (-1)) d_Mod_taste_12 rfl (by decide) ?_
    refine g_ireturn (Or.inl rfl) d_Mod_taste_13 rfl ?_
    cases h; exact hQ

def J_Mod_tellOne_380 (v1 : Int32) (M : gM) (L : gL) : Option (gM × gL) :=
  (if (M 401 13) ≤ 0 then bI (F_Mod_goesOn M) (fun M74 => bI (F_Mod_tellLaw v1 M74) (fun M76 => some (M76, L))) else some (M, L))
set_option maxHeartbeats 4000000 in
set_option maxRecDepth 20000 in
theorem j_Mod_tellOne_380 {l : Launch} {ld : Nat} {Q : Option Value → gM → gL → gR → Prop} (hld : isLa ld)   {q : gM × gL} {M : gM} {L : gL} (hQ : Q none q.1 q.2 (rf ld))  {v1 : Int32}  (h : J_Mod_tellOne_380 v1 M L = some q) : Wp l y_Mod_tellOne (0, 0, 447) 447 0 0 380 [(0, .ref 401), (1, .int v1)] [] M L (rf ld) Q := by
  unfold J_Mod_tellOne_380 at h
  refine g_aload_n (pc1 := 381) d_Mod_tellOne_380 rfl 0 rfl ?_
  refine g_geti (pc1 := 384) d_Mod_tellOne_381 rfl ⟨_, fo_Mod_206⟩ sh_401 (by decide) ?_
  refine g_if_le (pc1 := 387) (tgt := 388) d_Mod_tellOne_384 (by decide) rfl (fun c72 => ?_) (fun c72 => ?_)
  · replace h := itp h c72
    refine g_aload_n (pc1 := 389) d_Mod_tellOne_388 rfl 0 rfl ?_
    refine g_callV0 (pc1 := 392) (As := []) (rest := []) d_Mod_tellOne_389 rfl mo_Mod_227 mi_Mod_goesOn mv_Mod_goesOn rfl sh_401 (by decide) (by decide) rfl rfl (Nat.le_of_ble_eq_true rfl) ?_
    obtain ⟨M74, hq73, h⟩ := bnd h
    refine f_Mod_goesOn hld  hq73 ?_
    dsimp only [psh]
    refine g_aload_n (pc1 := 393) d_Mod_tellOne_392 rfl 0 rfl ?_
    refine g_iload_n (pc1 := 394) d_Mod_tellOne_393 rfl 1 rfl ?_
    refine g_callV0 (pc1 := 397) (As := [.int v1]) (rest := []) d_Mod_tellOne_394 rfl mo_Mod_284 mi_Mod_tellLaw mv_Mod_tellLaw rfl sh_401 (by decide) (by decide) rfl rfl (Nat.le_of_ble_eq_true rfl) ?_
    obtain ⟨M76, hq75, h⟩ := bnd h
    refine f_Mod_tellLaw hld  hq75 ?_
    dsimp only [psh]
    refine g_return rfl d_Mod_tellOne_397 rfl ?_
    cases h; exact hQ
  · replace h := itn h c72
    refine g_return rfl d_Mod_tellOne_387 rfl ?_
    cases h; exact hQ
def J_Mod_tellOne_375 (v1 : Int32) (M : gM) (L : gL) : Option (gM × gL) :=
  bI (F_Mod_fail 1 M) (fun M71 => J_Mod_tellOne_380 v1 M71 L)
set_option maxHeartbeats 4000000 in
set_option maxRecDepth 20000 in
theorem j_Mod_tellOne_375 {l : Launch} {ld : Nat} {Q : Option Value → gM → gL → gR → Prop} (hld : isLa ld)   {q : gM × gL} {M : gM} {L : gL} (hQ : Q none q.1 q.2 (rf ld))  {v1 : Int32}  (h : J_Mod_tellOne_375 v1 M L = some q) : Wp l y_Mod_tellOne (0, 0, 447) 447 0 0 375 [(0, .ref 401), (1, .int v1)] [] M L (rf ld) Q := by
  unfold J_Mod_tellOne_375 at h
  refine g_aload_n (pc1 := 376) d_Mod_tellOne_375 rfl 0 rfl ?_
  refine g_iconst (pc1 := 377) (v := 1) d_Mod_tellOne_376 rfl (by decide) ?_
  refine g_callV0 (pc1 := 380) (As := [.int 1]) (rest := []) d_Mod_tellOne_377 rfl mo_Mod_221 mi_Mod_fail mv_Mod_fail rfl sh_401 (by decide) (by decide) rfl rfl (Nat.le_of_ble_eq_true rfl) ?_
  obtain ⟨M71, hq70, h⟩ := bnd h
  refine f_Mod_fail hld  hq70 ?_
  dsimp only [psh]
  exact j_Mod_tellOne_380 hld  hQ  h
def F_Mod_tellOne (M : gM) (L : gL) : Option (gM × gL) :=
  (if ((M 401 11) : Int32) < 0 ∨ 403 ≤ ((M 401 11) : Int32).toNatClampNeg then none else (if (M 404 ((M 401 11) : Int32).toNatClampNeg) = 20 then (if ((M 401 19) : Int32) < 0 ∨ 2 ≤ ((M 401 19) : Int32).toNatClampNeg then none else bI (F_Mod_roomFor (M 411 ((M 401 19) : Int32).toNatClampNeg) 6 M) (fun M5 => (if (M5 401 13) = 0 then bI2 (F_Mod_tellFood M5 L) (fun M8 L9 => some (M8, L9)) else some (M5, L)))) else (if (M 404 ((M 401 11) : Int32).toNatClampNeg) = 21 then (if ((M 401 19) : Int32) < 0 ∨ 2 ≤ ((M 401 19) : Int32).toNatClampNeg then none else bI (F_Mod_roomFor (M 415 ((M 401 19) : Int32).toNatClampNeg) 5 M) (fun M13 => (if (M13 401 13) = 0 then bI2 (F_Mod_tellDish M13 L) (fun M16 L17 => some (M16, L17)) else some (M13, L)))) else (if (M 404 ((M 401 11) : Int32).toNatClampNeg) = 22 then (if ((M 401 19) : Int32) < 0 ∨ 2 ≤ ((M 401 19) : Int32).toNatClampNeg then none else bI (F_Mod_roomFor (M 418 ((M 401 19) : Int32).toNatClampNeg) 4 M) (fun M21 => (if (M21 401 13) ≤ 0 then bI2 (F_Mod_named M21 L) (fun r24 M25 => (if ((M25 401 19) : Int32) < 0 ∨ 2 ≤ ((M25 401 19) : Int32).toNatClampNeg then none else bI2 (F_Mod_bounded 0 9 M25) (fun r28 M29 => (if (((4 * (M25 401 19)) + (M25 418 ((M25 401 19) : Int32).toNatClampNeg)) : Int32) < 0 ∨ 8 ≤ (((4 * (M25 401 19)) + (M25 418 ((M25 401 19) : Int32).toNatClampNeg)) : Int32).toNatClampNeg then none else nmM (uM M29 419 (((4 * (M25 401 19)) + (M25 418 ((M25 401 19) : Int32).toNatClampNeg)) : Int32).toNatClampNeg r28) (fun M31 => bI2 (F_Mod_ends r24 (-1) M31 L) (fun M33 L34 => (if (M33 401 13) = 0 then (if ((M33 401 19) : Int32) < 0 ∨ 2 ≤ ((M33 401 19) : Int32).toNatClampNeg then none else (if ((M33 401 19) : Int32) < 0 ∨ 2 ≤ ((M33 401 19) : Int32).toNatClampNeg then none else nmM (uM M33 418 ((M33 401 19) : Int32).toNatClampNeg ((M33 418 ((M33 401 19) : Int32).toNatClampNeg) + 1)) (fun M38 => some (M38, L34)))) else some (M33, L34)))))))) else some (M21, L)))) else (if (M 404 ((M 401 11) : Int32).toNatClampNeg) = 23 then (if ((M 401 19) : Int32) < 0 ∨ 2 ≤ ((M 401 19) : Int32).toNatClampNeg then none else bI (F_Mod_roomFor (M 420 ((M 401 19) : Int32).toNatClampNeg) 6 M) (fun M42 => (if (M42 401 13) ≤ 0 then bI2 (F_Mod_named M42 L) (fun r45 M46 => (if ((M46 401 19) : Int32) < 0 ∨ 2 ≤ ((M46 401 19) : Int32).toNatClampNeg then none else bI2 (F_Mod_bounded 0 2 M46) (fun r49 M50 => (if (((6 * (M46 401 19)) + (M46 420 ((M46 401 19) : Int32).toNatClampNeg)) : Int32) < 0 ∨ 12 ≤ (((6 * (M46 401 19)) + (M46 420 ((M46 401 19) : Int32).toNatClampNeg)) : Int32).toNatClampNeg then none else nmM (uM M50 421 (((6 * (M46 401 19)) + (M46 420 ((M46 401 19) : Int32).toNatClampNeg)) : Int32).toNatClampNeg r49) (fun M52 => (if ((M52 401 19) : Int32) < 0 ∨ 2 ≤ ((M52 401 19) : Int32).toNatClampNeg then none else bI2 (F_Mod_bounded 0 99 M52) (fun r55 M56 => (if (((6 * (M52 401 19)) + (M52 420 ((M52 401 19) : Int32).toNatClampNeg)) : Int32) < 0 ∨ 12 ≤ (((6 * (M52 401 19)) + (M52 420 ((M52 401 19) : Int32).toNatClampNeg)) : Int32).toNatClampNeg then none else nmM (uM M56 422 (((6 * (M52 401 19)) + (M52 420 ((M52 401 19) : Int32).toNatClampNeg)) : Int32).toNatClampNeg r55) (fun M58 => bI2 (F_Mod_ends r45 (-1) M58 L) (fun M60 L61 => (if (M60 401 13) = 0 then (if ((M60 401 19) : Int32) < 0 ∨ 2 ≤ ((M60 401 19) : Int32).toNatClampNeg then none else (if ((M60 401 19) : Int32) < 0 ∨ 2 ≤ ((M60 401 19) : Int32).toNatClampNeg then none else nmM (uM M60 420 ((M60 401 19) : Int32).toNatClampNeg ((M60 420 ((M60 401 19) : Int32).toNatClampNeg) + 1)) (fun M65 => some (M65, L61)))) else some (M60, L61)))))))))))) else some (M42, L)))) else (if (M 404 ((M 401 11) : Int32).toNatClampNeg) = 24 then (if ((M 401 11) : Int32) < 0 ∨ 403 ≤ ((M 401 11) : Int32).toNatClampNeg then none else nmI ((M 404 ((M 401 11) : Int32).toNatClampNeg) - 24) (fun x68 => (if x68 < 0 then J_Mod_tellOne_375 x68 M L else (if ((M 401 11) : Int32) < 0 ∨ 403 ≤ ((M 401 11) : Int32).toNatClampNeg then none else (if (M 404 ((M 401 11) : Int32).toNatClampNeg) ≤ 27 then J_Mod_tellOne_380 x68 M L else J_Mod_tellOne_375 x68 M L))))) else (if (M 404 ((M 401 11) : Int32).toNatClampNeg) = 25 then (if ((M 401 11) : Int32) < 0 ∨ 403 ≤ ((M 401 11) : Int32).toNatClampNeg then none else nmI ((M 404 ((M 401 11) : Int32).toNatClampNeg) - 24) (fun x81 => (if x81 < 0 then J_Mod_tellOne_375 x81 M L else (if ((M 401 11) : Int32) < 0 ∨ 403 ≤ ((M 401 11) : Int32).toNatClampNeg then none else (if (M 404 ((M 401 11) : Int32).toNatClampNeg) ≤ 27 then J_Mod_tellOne_380 x81 M L else J_Mod_tellOne_375 x81 M L))))) else (if (M 404 ((M 401 11) : Int32).toNatClampNeg) = 26 then (if ((M 401 11) : Int32) < 0 ∨ 403 ≤ ((M 401 11) : Int32).toNatClampNeg then none else nmI ((M 404 ((M 401 11) : Int32).toNatClampNeg) - 24) (fun x87 => (if x87 < 0 then J_Mod_tellOne_375 x87 M L else (if ((M 401 11) : Int32) < 0 ∨ 403 ≤ ((M 401 11) : Int32).toNatClampNeg then none else (if (M 404 ((M 401 11) : Int32).toNatClampNeg) ≤ 27 then J_Mod_tellOne_380 x87 M L else J_Mod_tellOne_375 x87 M L))))) else (if (M 404 ((M 401 11) : Int32).toNatClampNeg) = 27 then (if ((M 401 11) : Int32) < 0 ∨ 403 ≤ ((M 401 11) : Int32).toNatClampNeg then none else nmI ((M 404 ((M 401 11) : Int32).toNatClampNeg) - 24) (fun x93 => (if x93 < 0 then J_Mod_tellOne_375 x93 M L else (if ((M 401 11) : Int32) < 0 ∨ 403 ≤ ((M 401 11) : Int32).toNatClampNeg then none else (if (M 404 ((M 401 11) : Int32).toNatClampNeg) ≤ 27 then J_Mod_tellOne_380 x93 M L else J_Mod_tellOne_375 x93 M L))))) else (if (M 404 ((M 401 11) : Int32).toNatClampNeg) = 28 then bI (F_Mod_goesOn M) (fun M99 => bI2 (F_Mod_bounded 0 9999 M99) (fun r101 M102 => (if ((M99 401 19) : Int32) < 0 ∨ 2 ≤ ((M99 401 19) : Int32).toNatClampNeg then none else nmM (uM M102 423 ((M99 401 19) : Int32).toNatClampNeg r101) (fun M104 => bI (F_Mod_must 4 M104) (fun M106 => some (M106, L)))))) else (if ((M 401 11) : Int32) < 0 ∨ 403 ≤ ((M 401 11) : Int32).toNatClampNeg then none else nmI ((M 404 ((M 401 11) : Int32).toNatClampNeg) - 24) (fun x108 => (if x108 < 0 then J_Mod_tellOne_375 x108 M L else (if ((M 401 11) : Int32) < 0 ∨ 403 ≤ ((M 401 11) : Int32).toNatClampNeg then none else (if (M 404 ((M 401 11) : Int32).toNatClampNeg) ≤ 27 then J_Mod_tellOne_380 x108 M L else J_Mod_tellOne_375 x108 M L)))))))))))))))
set_option maxHeartbeats 4000000 in
set_option maxRecDepth 20000 in
theorem f_Mod_tellOne {l : Launch} {ld : Nat} {M : gM} {L : gL} {Q : Option Value → gM → gL → gR → Prop} (hld : isLa ld)   {q : gM × gL} (h : F_Mod_tellOne M L = some q) (hQ : Q none q.1 q.2 (rf ld)) : Tm l y_Mod_tellOne (0, 0, 447) 447 [.ref 401] M L (rf ld) Q := by
  refine Tm.of (by decide) (Nat.le_of_ble_eq_true rfl) ?_
  show Wp l y_Mod_tellOne (0, 0, 447) 447 0 0 0 [(0, .ref 401)] [] M L (rf ld) Q
  unfold F_Mod_tellOne at h
  refine g_aload_n (pc1 := 1) d_Mod_tellOne_0 rfl 0 rfl ?_
  refine g_getr (pc1 := 4) d_Mod_tellOne_1 rfl ⟨_, fo_Mod_20⟩ sh_401 (by decide) (rf_401_5 ld) ?_
  refine g_aload_n (pc1 := 5) d_Mod_tellOne_4 rfl 0 rfl ?_
  refine g_geti (pc1 := 8) d_Mod_tellOne_5 rfl ⟨_, fo_Mod_209⟩ sh_401 (by decide) ?_
  obtain ⟨g1, h⟩ := gdn h
  refine g_iald (pc1 := 9) d_Mod_tellOne_8 rfl sh_404 (by decide) g1 ?_
  by_cases c2 : (M 404 ((M 401 11) : Int32).toNatClampNeg) = 20
  · replace h := itp h c2
    refine g_tabK (tgt := 60) (off := 51) d_Mod_tellOne_9 c2 (by decide) (by decide) (by decide) (by decide) ?_
    refine g_aload_n (pc1 := 61) d_Mod_tellOne_60 rfl 0 rfl ?_
    refine g_aload_n (pc1 := 62) d_Mod_tellOne_61 rfl 0 rfl ?_
    refine g_getr (pc1 := 65) d_Mod_tellOne_62 rfl ⟨_, fo_Mod_46⟩ sh_401 (by decide) (rf_401_23 ld) ?_
    refine g_aload_n (pc1 := 66) d_Mod_tellOne_65 rfl 0 rfl ?_
    refine g_geti (pc1 := 69) d_Mod_tellOne_66 rfl ⟨_, fo_Mod_239⟩ sh_401 (by decide) ?_
    obtain ⟨g3, h⟩ := gdn h
    refine g_iald (pc1 := 70) d_Mod_tellOne_69 rfl sh_411 (by decide) g3 ?_
    refine g_bipush (pc1 := 72) (v := 6) d_Mod_tellOne_70 rfl (by decide) ?_
    refine g_callV0 (pc1 := 75) (As := [.int (M 411 ((M 401 19) : Int32).toNatClampNeg), .int 6]) (rest := []) d_Mod_tellOne_72 rfl mo_Mod_260 mi_Mod_roomFor mv_Mod_roomFor rfl sh_401 (by decide) (by decide) rfl rfl (Nat.le_of_ble_eq_true rfl) ?_
    obtain ⟨M5, hq4, h⟩ := bnd h
    refine f_Mod_roomFor hld  hq4 ?_
    dsimp only [psh]
    refine g_aload_n (pc1 := 76) d_Mod_tellOne_75 rfl 0 rfl ?_
    refine g_geti (pc1 := 79) d_Mod_tellOne_76 rfl ⟨_, fo_Mod_206⟩ sh_401 (by decide) ?_
    refine g_if_ne (pc1 := 82) (tgt := 397) d_Mod_tellOne_79 (by decide) rfl (fun c6 => ?_) (fun c6 => ?_)
    · replace h := itn h c6
      refine g_return rfl d_Mod_tellOne_397 rfl ?_
      cases h; exact hQ
    · replace h := itp h c6
      refine g_aload_n (pc1 := 83) d_Mod_tellOne_82 rfl 0 rfl ?_
      refine g_callV0 (pc1 := 86) (As := []) (rest := []) d_Mod_tellOne_83 rfl mo_Mod_264 mi_Mod_tellFood mv_Mod_tellFood rfl sh_401 (by decide) (by decide) rfl rfl (Nat.le_of_ble_eq_true rfl) ?_
      obtain ⟨M8, L9, hq7, h⟩ := bnd2 h
      refine f_Mod_tellFood hld  hq7 ?_
      dsimp only [psh]
      refine g_goto (tgt := 397) d_Mod_tellOne_86 (by decide) ?_
      refine g_return rfl d_Mod_tellOne_397 rfl ?_
      cases h; exact hQ
  replace h := itn h c2
  by_cases c10 : (M 404 ((M 401 11) : Int32).toNatClampNeg) = 21
  · replace h := itp h c10
    refine g_tabK (tgt := 89) (off := 80) d_Mod_tellOne_9 c10 (by decide) (by decide) (by decide) (by decide) ?_
    refine g_aload_n (pc1 := 90) d_Mod_tellOne_89 rfl 0 rfl ?_
    refine g_aload_n (pc1 := 91) d_Mod_tellOne_90 rfl 0 rfl ?_
    refine g_getr (pc1 := 94) d_Mod_tellOne_91 rfl ⟨_, fo_Mod_58⟩ sh_401 (by decide) (rf_401_27 ld) ?_
    refine g_aload_n (pc1 := 95) d_Mod_tellOne_94 rfl 0 rfl ?_
    refine g_geti (pc1 := 98) d_Mod_tellOne_95 rfl ⟨_, fo_Mod_239⟩ sh_401 (by decide) ?_
    obtain ⟨g11, h⟩ := gdn h
    refine g_iald (pc1 := 99) d_Mod_tellOne_98 rfl sh_415 (by decide) g11 ?_
    refine g_iconst (pc1 := 100) (v := 5) d_Mod_tellOne_99 rfl (by decide) ?_
    refine g_callV0 (pc1 := 103) (As := [.int (M 415 ((M 401 19) : Int32).toNatClampNeg), .int 5]) (rest := []) d_Mod_tellOne_100 rfl mo_Mod_260 mi_Mod_roomFor mv_Mod_roomFor rfl sh_401 (by decide) (by decide) rfl rfl (Nat.le_of_ble_eq_true rfl) ?_
    obtain ⟨M13, hq12, h⟩ := bnd h
    refine f_Mod_roomFor hld  hq12 ?_
    dsimp only [psh]
    refine g_aload_n (pc1 := 104) d_Mod_tellOne_103 rfl 0 rfl ?_
    refine g_geti (pc1 := 107) d_Mod_tellOne_104 rfl ⟨_, fo_Mod_206⟩ sh_401 (by decide) ?_
    refine g_if_ne (pc1 := 110) (tgt := 397) d_Mod_tellOne_107 (by decide) rfl (fun c14 => ?_) (fun c14 => ?_)
    · replace h := itn h c14
      refine g_return rfl d_Mod_tellOne_397 rfl ?_
      cases h; exact hQ
    · replace h := itp h c14
      refine g_aload_n (pc1 := 111) d_Mod_tellOne_110 rfl 0 rfl ?_
      refine g_callV0 (pc1 := 114) (As := []) (rest := []) d_Mod_tellOne_111 rfl mo_Mod_267 mi_Mod_tellDish mv_Mod_tellDish rfl sh_401 (by decide) (by decide) rfl rfl (Nat.le_of_ble_eq_true rfl) ?_
      obtain ⟨M16, L17, hq15, h⟩ := bnd2 h
      refine f_Mod_tellDish hld  hq15 ?_
      dsimp only [psh]
      refine g_goto (tgt := 397) d_Mod_tellOne_114 (by decide) ?_
      refine g_return rfl d_Mod_tellOne_397 rfl ?_
      cases h; exact hQ
  replace h := itn h c10
  by_cases c18 : (M 404 ((M 401 11) : Int32).toNatClampNeg) = 22
  · replace h := itp h c18
    refine g_tabK (tgt := 117) (off := 108) d_Mod_tellOne_9 c18 (by decide) (by decide) (by decide) (by decide) ?_
    refine g_aload_n (pc1 := 118) d_Mod_tellOne_117 rfl 0 rfl ?_
    refine g_aload_n (pc1 := 119) d_Mod_tellOne_118 rfl 0 rfl ?_
    refine g_getr (pc1 := 122) d_Mod_tellOne_119 rfl ⟨_, fo_Mod_67⟩ sh_401 (by decide) (rf_401_30 ld) ?_
    refine g_aload_n (pc1 := 123) d_Mod_tellOne_122 rfl 0 rfl ?_
    refine g_geti (pc1 := 126) d_Mod_tellOne_123 rfl ⟨_, fo_Mod_239⟩ sh_401 (by decide) ?_
    obtain ⟨g19, h⟩ := gdn h
    refine g_iald (pc1 := 127) d_Mod_tellOne_126 rfl sh_418 (by decide) g19 ?_
    refine g_iconst (pc1 := 128) (v := 4) d_Mod_tellOne_127 rfl (by decide) ?_
    refine g_callV0 (pc1 := 131) (As := [.int (M 418 ((M 401 19) : Int32).toNatClampNeg), .int 4]) (rest := []) d_Mod_tellOne_128 rfl mo_Mod_260 mi_Mod_roomFor mv_Mod_roomFor rfl sh_401 (by decide) (by decide) rfl rfl (Nat.le_of_ble_eq_true rfl) ?_
    obtain ⟨M21, hq20, h⟩ := bnd h
    refine f_Mod_roomFor hld  hq20 ?_
    dsimp only [psh]
    refine g_aload_n (pc1 := 132) d_Mod_tellOne_131 rfl 0 rfl ?_
    refine g_geti (pc1 := 135) d_Mod_tellOne_132 rfl ⟨_, fo_Mod_206⟩ sh_401 (by decide) ?_
    refine g_if_le (pc1 := 138) (tgt := 139) d_Mod_tellOne_135 (by decide) rfl (fun c22 => ?_) (fun c22 => ?_)
    · replace h := itp h c22
      refine g_aload_n (pc1 := 140) d_Mod_tellOne_139 rfl 0 rfl ?_
      refine g_callV0 (pc1 := 143) (As := []) (rest := []) d_Mod_tellOne_140 rfl mo_Mod_270 mi_Mod_named mv_Mod_named rfl sh_401 (by decide) (by decide) rfl rfl (Nat.le_of_ble_eq_true rfl) ?_
      obtain ⟨r24, M25, hq23, h⟩ := bnd2 h
      refine f_Mod_named hld  hq23 ?_
      dsimp only [psh]
      refine g_istore_n (pc1 := 144) (lv' := [(0, .ref 401), (1, .int r24)]) d_Mod_tellOne_143 rfl rfl (by decide) [1, 0] rfl ?_
      refine g_aload_n (pc1 := 145) d_Mod_tellOne_144 rfl 0 rfl ?_
      refine g_getr (pc1 := 148) d_Mod_tellOne_145 rfl ⟨_, fo_Mod_70⟩ sh_401 (by decide) (rf_401_31 ld) ?_
      refine g_iconst (pc1 := 149) (v := 4) d_Mod_tellOne_148 rfl (by decide) ?_
      refine g_aload_n (pc1 := 150) d_Mod_tellOne_149 rfl 0 rfl ?_
      refine g_geti (pc1 := 153) d_Mod_tellOne_150 rfl ⟨_, fo_Mod_239⟩ sh_401 (by decide) ?_
      refine g_imul (pc1 := 154) d_Mod_tellOne_153 rfl ?_
      refine g_aload_n (pc1 := 155) d_Mod_tellOne_154 rfl 0 rfl ?_
      refine g_getr (pc1 := 158) d_Mod_tellOne_155 rfl ⟨_, fo_Mod_67⟩ sh_401 (by decide) (rf_401_30 ld) ?_
      refine g_aload_n (pc1 := 159) d_Mod_tellOne_158 rfl 0 rfl ?_
      refine g_geti (pc1 := 162) d_Mod_tellOne_159 rfl ⟨_, fo_Mod_239⟩ sh_401 (by decide) ?_
      obtain ⟨g26, h⟩ := gdn h
      refine g_iald (pc1 := 163) d_Mod_tellOne_162 rfl sh_418 (by decide) g26 ?_
      refine g_iadd (pc1 := 164) d_Mod_tellOne_163 rfl ?_
      refine g_aload_n (pc1 := 165) d_Mod_tellOne_164 rfl 0 rfl ?_
      refine g_iconst (pc1 := 166) (v := 0) d_Mod_tellOne_165 rfl (by decide) ?_
      refine g_bipush (pc1 := 168) (v := 9) d_Mod_tellOne_166 rfl (by decide) ?_
      refine g_callV0 (pc1 := 171) (As := [.int 0, .int 9]) (rest := [.int ((4 * (M25 401 19)) + (M25 418 ((M25 401 19) : Int32).toNatClampNeg)), .ref 419]) d_Mod_tellOne_168 rfl mo_Mod_274 mi_Mod_bounded mv_Mod_bounded rfl sh_401 (by decide) (by decide) rfl rfl (Nat.le_of_ble_eq_true rfl) ?_
      obtain ⟨r28, M29, hq27, h⟩ := bnd2 h
      refine f_Mod_bounded hld  hq27 ?_
      dsimp only [psh]
      obtain ⟨g30, h⟩ := gdn h
      refine g_iast (pc1 := 172) d_Mod_tellOne_171 rfl sh_419 (by decide) g30 ?_
      refine Wp.lM h (fun M31 h => ?_)
      refine g_aload_n (pc1 := 173) d_Mod_tellOne_172 rfl 0 rfl ?_
      refine g_iload_n (pc1 := 174) d_Mod_tellOne_173 rfl 1 rfl ?_
      refine g_iconst (pc1 := 175) (v := (-1)) d_Mod_tellOne_174 rfl (by decide) ?_
      refine g_callV0 (pc1 := 178) (As := [.int r24, .int (-1)]) (rest := []) d_Mod_tellOne_175 rfl mo_Mod_278 mi_Mod_ends mv_Mod_ends rfl sh_401 (by decide) (by decide) rfl rfl (Nat.le_of_ble_eq_true rfl) ?_
      obtain ⟨M33, L34, hq32, h⟩ := bnd2 h
      refine f_Mod_ends hld  hq32 ?_
      dsimp only [psh]
      refine g_aload_n (pc1 := 179) d_Mod_tellOne_178 rfl 0 rfl ?_
      refine g_geti (pc1 := 182) d_Mod_tellOne_179 rfl ⟨_, fo_Mod_206⟩ sh_401 (by decide) ?_
      refine g_if_ne (pc1 := 185) (tgt := 397) d_Mod_tellOne_182 (by decide) rfl (fun c35 => ?_) (fun c35 => ?_)
      · replace h := itn h c35
        refine g_return rfl d_Mod_tellOne_397 rfl ?_
        cases h; exact hQ
      · replace h := itp h c35
        refine g_aload_n (pc1 := 186) d_Mod_tellOne_185 rfl 0 rfl ?_
        refine g_getr (pc1 := 189) d_Mod_tellOne_186 rfl ⟨_, fo_Mod_67⟩ sh_401 (by decide) (rf_401_30 ld) ?_
        refine g_aload_n (pc1 := 190) d_Mod_tellOne_189 rfl 0 rfl ?_
        refine g_geti (pc1 := 193) d_Mod_tellOne_190 rfl ⟨_, fo_Mod_239⟩ sh_401 (by decide) ?_
        refine g_dup2 (pc1 := 194) d_Mod_tellOne_193 rfl rfl rfl ?_
        obtain ⟨g36, h⟩ := gdn h
        refine g_iald (pc1 := 195) d_Mod_tellOne_194 rfl sh_418 (by decide) g36 ?_
        refine g_iconst (pc1 := 196) (v := 1) d_Mod_tellOne_195 rfl (by decide) ?_
        refine g_iadd (pc1 := 197) d_Mod_tellOne_196 rfl ?_
        obtain ⟨g37, h⟩ := gdn h
        refine g_iast (pc1 := 198) d_Mod_tellOne_197 rfl sh_418 (by decide) g37 ?_
        refine Wp.lM h (fun M38 h => ?_)
        refine g_goto (tgt := 397) d_Mod_tellOne_198 (by decide) ?_
        refine g_return rfl d_Mod_tellOne_397 rfl ?_
        cases h; exact hQ
    · replace h := itn h c22
      refine g_return rfl d_Mod_tellOne_138 rfl ?_
      cases h; exact hQ
  replace h := itn h c18
  by_cases c39 : (M 404 ((M 401 11) : Int32).toNatClampNeg) = 23
  · replace h := itp h c39
    refine g_tabK (tgt := 201) (off := 192) d_Mod_tellOne_9 c39 (by decide) (by decide) (by decide) (by decide) ?_
    refine g_aload_n (pc1 := 202) d_Mod_tellOne_201 rfl 0 rfl ?_
    refine g_aload_n (pc1 := 203) d_Mod_tellOne_202 rfl 0 rfl ?_
    refine g_getr (pc1 := 206) d_Mod_tellOne_203 rfl ⟨_, fo_Mod_73⟩ sh_401 (by decide) (rf_401_32 ld) ?_
    refine g_aload_n (pc1 := 207) d_Mod_tellOne_206 rfl 0 rfl ?_
    refine g_geti (pc1 := 210) d_Mod_tellOne_207 rfl ⟨_, fo_Mod_239⟩ sh_401 (by decide) ?_
    obtain ⟨g40, h⟩ := gdn h
    refine g_iald (pc1 := 211) d_Mod_tellOne_210 rfl sh_420 (by decide) g40 ?_
    refine g_bipush (pc1 := 213) (v := 6) d_Mod_tellOne_211 rfl (by decide) ?_
    refine g_callV0 (pc1 := 216) (As := [.int (M 420 ((M 401 19) : Int32).toNatClampNeg), .int 6]) (rest := []) d_Mod_tellOne_213 rfl mo_Mod_260 mi_Mod_roomFor mv_Mod_roomFor rfl sh_401 (by decide) (by decide) rfl rfl (Nat.le_of_ble_eq_true rfl) ?_
    obtain ⟨M42, hq41, h⟩ := bnd h
    refine f_Mod_roomFor hld  hq41 ?_
    dsimp only [psh]
    refine g_aload_n (pc1 := 217) d_Mod_tellOne_216 rfl 0 rfl ?_
    refine g_geti (pc1 := 220) d_Mod_tellOne_217 rfl ⟨_, fo_Mod_206⟩ sh_401 (by decide) ?_
    refine g_if_le (pc1 := 223) (tgt := 224) d_Mod_tellOne_220 (by decide) rfl (fun c43 => ?_) (fun c43 => ?_)
    · replace h := itp h c43
      refine g_aload_n (pc1 := 225) d_Mod_tellOne_224 rfl 0 rfl ?_
      refine g_callV0 (pc1 := 228) (As := []) (rest := []) d_Mod_tellOne_225 rfl mo_Mod_270 mi_Mod_named mv_Mod_named rfl sh_401 (by decide) (by decide) rfl rfl (Nat.le_of_ble_eq_true rfl) ?_
      obtain ⟨r45, M46, hq44, h⟩ := bnd2 h
      refine f_Mod_named hld  hq44 ?_
      dsimp only [psh]
      refine g_istore_n (pc1 := 229) (lv' := [(0, .ref 401), (1, .int r45)]) d_Mod_tellOne_228 rfl rfl (by decide) [1, 0] rfl ?_
      refine g_aload_n (pc1 := 230) d_Mod_tellOne_229 rfl 0 rfl ?_
      refine g_getr (pc1 := 233) d_Mod_tellOne_230 rfl ⟨_, fo_Mod_76⟩ sh_401 (by decide) (rf_401_33 ld) ?_
      refine g_bipush (pc1 := 235) (v := 6) d_Mod_tellOne_233 rfl (by decide) ?_
      refine g_aload_n (pc1 := 236) d_Mod_tellOne_235 rfl 0 rfl ?_
      refine g_geti (pc1 := 239) d_Mod_tellOne_236 rfl ⟨_, fo_Mod_239⟩ sh_401 (by decide) ?_
      refine g_imul (pc1 := 240) d_Mod_tellOne_239 rfl ?_
      refine g_aload_n (pc1 := 241) d_Mod_tellOne_240 rfl 0 rfl ?_
      refine g_getr (pc1 := 244) d_Mod_tellOne_241 rfl ⟨_, fo_Mod_73⟩ sh_401 (by decide) (rf_401_32 ld) ?_
      refine g_aload_n (pc1 := 245) d_Mod_tellOne_244 rfl 0 rfl ?_
      refine g_geti (pc1 := 248) d_Mod_tellOne_245 rfl ⟨_, fo_Mod_239⟩ sh_401 (by decide) ?_
      obtain ⟨g47, h⟩ := gdn h
      refine g_iald (pc1 := 249) d_Mod_tellOne_248 rfl sh_420 (by decide) g47 ?_
      refine g_iadd (pc1 := 250) d_Mod_tellOne_249 rfl ?_
      refine g_aload_n (pc1 := 251) d_Mod_tellOne_250 rfl 0 rfl ?_
      refine g_iconst (pc1 := 252) (v := 0) d_Mod_tellOne_251 rfl (by decide) ?_
      refine g_iconst (pc1 := 253) (v := 2) d_Mod_tellOne_252 rfl (by decide) ?_
      refine g_callV0 (pc1 := 256) (As := [.int 0, .int 2]) (rest := [.int ((6 * (M46 401 19)) + (M46 420 ((M46 401 19) : Int32).toNatClampNeg)), .ref 421]) d_Mod_tellOne_253 rfl mo_Mod_274 mi_Mod_bounded mv_Mod_bounded rfl sh_401 (by decide) (by decide) rfl rfl (Nat.le_of_ble_eq_true rfl) ?_
      obtain ⟨r49, M50, hq48, h⟩ := bnd2 h
      refine f_Mod_bounded hld  hq48 ?_
      dsimp only [psh]
      obtain ⟨g51, h⟩ := gdn h
      refine g_iast (pc1 := 257) d_Mod_tellOne_256 rfl sh_421 (by decide) g51 ?_
      refine Wp.lM h (fun M52 h => ?_)
      refine g_aload_n (pc1 := 258) d_Mod_tellOne_257 rfl 0 rfl ?_
      refine g_getr (pc1 := 261) d_Mod_tellOne_258 rfl ⟨_, fo_Mod_79⟩ sh_401 (by decide) (rf_401_34 ld) ?_
      refine g_bipush (pc1 := 263) (v := 6) d_Mod_tellOne_261 rfl (by decide) ?_
      refine g_aload_n (pc1 := 264) d_Mod_tellOne_263 rfl 0 rfl ?_
      refine g_geti (pc1 := 267) d_Mod_tellOne_264 rfl ⟨_, fo_Mod_239⟩ sh_401 (by decide) ?_
      refine g_imul (pc1 := 268) d_Mod_tellOne_267 rfl ?_
      refine g_aload_n (pc1 := 269) d_Mod_tellOne_268 rfl 0 rfl ?_
      refine g_getr (pc1 := 272) d_Mod_tellOne_269 rfl ⟨_, fo_Mod_73⟩ sh_401 (by decide) (rf_401_32 ld) ?_
      refine g_aload_n (pc1 := 273) d_Mod_tellOne_272 rfl 0 rfl ?_
      refine g_geti (pc1 := 276) d_Mod_tellOne_273 rfl ⟨_, fo_Mod_239⟩ sh_401 (by decide) ?_
      obtain ⟨g53, h⟩ := gdn h
      refine g_iald (pc1 := 277) d_Mod_tellOne_276 rfl sh_420 (by decide) g53 ?_
      refine g_iadd (pc1 := 278) d_Mod_tellOne_277 rfl ?_
      refine g_aload_n (pc1 := 279) d_Mod_tellOne_278 rfl 0 rfl ?_
      refine g_iconst (pc1 := 280) (v := 0) d_Mod_tellOne_279 rfl (by decide) ?_
      refine g_bipush (pc1 := 282) (v := 99) d_Mod_tellOne_280 rfl (by decide) ?_
      refine g_callV0 (pc1 := 285) (As := [.int 0, .int 99]) (rest := [.int ((6 * (M52 401 19)) + (M52 420 ((M52 401 19) : Int32).toNatClampNeg)), .ref 422]) d_Mod_tellOne_282 rfl mo_Mod_274 mi_Mod_bounded mv_Mod_bounded rfl sh_401 (by decide) (by decide) rfl rfl (Nat.le_of_ble_eq_true rfl) ?_
      obtain ⟨r55, M56, hq54, h⟩ := bnd2 h
      refine f_Mod_bounded hld  hq54 ?_
      dsimp only [psh]
      obtain ⟨g57, h⟩ := gdn h
      refine g_iast (pc1 := 286) d_Mod_tellOne_285 rfl sh_422 (by decide) g57 ?_
      refine Wp.lM h (fun M58 h => ?_)
      refine g_aload_n (pc1 := 287) d_Mod_tellOne_286 rfl 0 rfl ?_
      refine g_iload_n (pc1 := 288) d_Mod_tellOne_287 rfl 1 rfl ?_
      refine g_iconst (pc1 := 289) (v := (-1)) d_Mod_tellOne_288 rfl (by decide) ?_
      refine g_callV0 (pc1 := 292) (As := [.int r45, .int (-1)]) (rest := []) d_Mod_tellOne_289 rfl mo_Mod_278 mi_Mod_ends mv_Mod_ends rfl sh_401 (by decide) (by decide) rfl rfl (Nat.le_of_ble_eq_true rfl) ?_
      obtain ⟨M60, L61, hq59, h⟩ := bnd2 h
      refine f_Mod_ends hld  hq59 ?_
      dsimp only [psh]
      refine g_aload_n (pc1 := 293) d_Mod_tellOne_292 rfl 0 rfl ?_
      refine g_geti (pc1 := 296) d_Mod_tellOne_293 rfl ⟨_, fo_Mod_206⟩ sh_401 (by decide) ?_
      refine g_if_ne (pc1 := 299) (tgt := 397) d_Mod_tellOne_296 (by decide) rfl (fun c62 => ?_) (fun c62 => ?_)
      · replace h := itn h c62
        refine g_return rfl d_Mod_tellOne_397 rfl ?_
        cases h; exact hQ
      · replace h := itp h c62
        refine g_aload_n (pc1 := 300) d_Mod_tellOne_299 rfl 0 rfl ?_
        refine g_getr (pc1 := 303) d_Mod_tellOne_300 rfl ⟨_, fo_Mod_73⟩ sh_401 (by decide) (rf_401_32 ld) ?_
        refine g_aload_n (pc1 := 304) d_Mod_tellOne_303 rfl 0 rfl ?_
        refine g_geti (pc1 := 307) d_Mod_tellOne_304 rfl ⟨_, fo_Mod_239⟩ sh_401 (by decide) ?_
        refine g_dup2 (pc1 := 308) d_Mod_tellOne_307 rfl rfl rfl ?_
        obtain ⟨g63, h⟩ := gdn h
        refine g_iald (pc1 := 309) d_Mod_tellOne_308 rfl sh_420 (by decide) g63 ?_
        refine g_iconst (pc1 := 310) (v := 1) d_Mod_tellOne_309 rfl (by decide) ?_
        refine g_iadd (pc1 := 311) d_Mod_tellOne_310 rfl ?_
        obtain ⟨g64, h⟩ := gdn h
        refine g_iast (pc1 := 312) d_Mod_tellOne_311 rfl sh_420 (by decide) g64 ?_
        refine Wp.lM h (fun M65 h => ?_)
        refine g_goto (tgt := 397) d_Mod_tellOne_312 (by decide) ?_
        refine g_return rfl d_Mod_tellOne_397 rfl ?_
        cases h; exact hQ
    · replace h := itn h c43
      refine g_return rfl d_Mod_tellOne_223 rfl ?_
      cases h; exact hQ
  replace h := itn h c39
  by_cases c66 : (M 404 ((M 401 11) : Int32).toNatClampNeg) = 24
  · replace h := itp h c66
    refine g_tabK (tgt := 344) (off := 335) d_Mod_tellOne_9 c66 (by decide) (by decide) (by decide) (by decide) ?_
    refine g_aload_n (pc1 := 345) d_Mod_tellOne_344 rfl 0 rfl ?_
    refine g_getr (pc1 := 348) d_Mod_tellOne_345 rfl ⟨_, fo_Mod_20⟩ sh_401 (by decide) (rf_401_5 ld) ?_
    refine g_aload_n (pc1 := 349) d_Mod_tellOne_348 rfl 0 rfl ?_
    refine g_geti (pc1 := 352) d_Mod_tellOne_349 rfl ⟨_, fo_Mod_209⟩ sh_401 (by decide) ?_
    obtain ⟨g67, h⟩ := gdn h
    refine g_iald (pc1 := 353) d_Mod_tellOne_352 rfl sh_404 (by decide) g67 ?_
    refine g_bipush (pc1 := 355) (v := 24) d_Mod_tellOne_353 rfl (by decide) ?_
    refine g_isub (pc1 := 356) d_Mod_tellOne_355 rfl ?_
    refine Wp.lI h (fun x68 h => ?_)
    refine g_istore_n (pc1 := 357) (lv' := [(0, .ref 401), (1, .int x68)]) d_Mod_tellOne_356 rfl rfl (by decide) [1, 0] rfl ?_
    refine g_iload_n (pc1 := 358) d_Mod_tellOne_357 rfl 1 rfl ?_
    refine g_if_lt (pc1 := 361) (tgt := 375) d_Mod_tellOne_358 (by decide) rfl (fun c69 => ?_) (fun c69 => ?_)
    · replace h := itp h c69
      exact j_Mod_tellOne_375 hld  hQ  h
    · replace h := itn h c69
      refine g_aload_n (pc1 := 362) d_Mod_tellOne_361 rfl 0 rfl ?_
      refine g_getr (pc1 := 365) d_Mod_tellOne_362 rfl ⟨_, fo_Mod_20⟩ sh_401 (by decide) (rf_401_5 ld) ?_
      refine g_aload_n (pc1 := 366) d_Mod_tellOne_365 rfl 0 rfl ?_
      refine g_geti (pc1 := 369) d_Mod_tellOne_366 rfl ⟨_, fo_Mod_209⟩ sh_401 (by decide) ?_
      obtain ⟨g77, h⟩ := gdn h
      refine g_iald (pc1 := 370) d_Mod_tellOne_369 rfl sh_404 (by decide) g77 ?_
      refine g_bipush (pc1 := 372) (v := 27) d_Mod_tellOne_370 rfl (by decide) ?_
      refine g_icmp_le (pc1 := 375) (tgt := 380) d_Mod_tellOne_372 (by decide) rfl (fun c78 => ?_) (fun c78 => ?_)
      · replace h := itp h c78
        exact j_Mod_tellOne_380 hld  hQ  h
      · replace h := itn h c78
        exact j_Mod_tellOne_375 hld  hQ  h
  replace h := itn h c66
  by_cases c79 : (M 404 ((M 401 11) : Int32).toNatClampNeg) = 25
  · replace h := itp h c79
    refine g_tabK (tgt := 344) (off := 335) d_Mod_tellOne_9 c79 (by decide) (by decide) (by decide) (by decide) ?_
    refine g_aload_n (pc1 := 345) d_Mod_tellOne_344 rfl 0 rfl ?_
    refine g_getr (pc1 := 348) d_Mod_tellOne_345 rfl ⟨_, fo_Mod_20⟩ sh_401 (by decide) (rf_401_5 ld) ?_
    refine g_aload_n (pc1 := 349) d_Mod_tellOne_348 rfl 0 rfl ?_
    refine g_geti (pc1 := 352) d_Mod_tellOne_349 rfl ⟨_, fo_Mod_209⟩ sh_401 (by decide) ?_
    obtain ⟨g80, h⟩ := gdn h
    refine g_iald (pc1 := 353) d_Mod_tellOne_352 rfl sh_404 (by decide) g80 ?_
    refine g_bipush (pc1 := 355) (v := 24) d_Mod_tellOne_353 rfl (by decide) ?_
    refine g_isub (pc1 := 356) d_Mod_tellOne_355 rfl ?_
    refine Wp.lI h (fun x81 h => ?_)
    refine g_istore_n (pc1 := 357) (lv' := [(0, .ref 401), (1, .int x81)]) d_Mod_tellOne_356 rfl rfl (by decide) [1, 0] rfl ?_
    refine g_iload_n (pc1 := 358) d_Mod_tellOne_357 rfl 1 rfl ?_
    refine g_if_lt (pc1 := 361) (tgt := 375) d_Mod_tellOne_358 (by decide) rfl (fun c82 => ?_) (fun c82 => ?_)
    · replace h := itp h c82
      exact j_Mod_tellOne_375 hld  hQ  h
    · replace h := itn h c82
      refine g_aload_n (pc1 := 362) d_Mod_tellOne_361 rfl 0 rfl ?_
      refine g_getr (pc1 := 365) d_Mod_tellOne_362 rfl ⟨_, fo_Mod_20⟩ sh_401 (by decide) (rf_401_5 ld) ?_
      refine g_aload_n (pc1 := 366) d_Mod_tellOne_365 rfl 0 rfl ?_
      refine g_geti (pc1 := 369) d_Mod_tellOne_366 rfl ⟨_, fo_Mod_209⟩ sh_401 (by decide) ?_
      obtain ⟨g83, h⟩ := gdn h
      refine g_iald (pc1 := 370) d_Mod_tellOne_369 rfl sh_404 (by decide) g83 ?_
      refine g_bipush (pc1 := 372) (v := 27) d_Mod_tellOne_370 rfl (by decide) ?_
      refine g_icmp_le (pc1 := 375) (tgt := 380) d_Mod_tellOne_372 (by decide) rfl (fun c84 => ?_) (fun c84 => ?_)
      · replace h := itp h c84
        exact j_Mod_tellOne_380 hld  hQ  h
      · replace h := itn h c84
        exact j_Mod_tellOne_375 hld  hQ  h
  replace h := itn h c79
  by_cases c85 : (M 404 ((M 401 11) : Int32).toNatClampNeg) = 26
  · replace h := itp h c85
    refine g_tabK (tgt := 344) (off := 335) d_Mod_tellOne_9 c85 (by decide) (by decide) (by decide) (by decide) ?_
    refine g_aload_n (pc1 := 345) d_Mod_tellOne_344 rfl 0 rfl ?_
    refine g_getr (pc1 := 348) d_Mod_tellOne_345 rfl ⟨_, fo_Mod_20⟩ sh_401 (by decide) (rf_401_5 ld) ?_
    refine g_aload_n (pc1 := 349) d_Mod_tellOne_348 rfl 0 rfl ?_
    refine g_geti (pc1 := 352) d_Mod_tellOne_349 rfl ⟨_, fo_Mod_209⟩ sh_401 (by decide) ?_
    obtain ⟨g86, h⟩ := gdn h
    refine g_iald (pc1 := 353) d_Mod_tellOne_352 rfl sh_404 (by decide) g86 ?_
    refine g_bipush (pc1 := 355) (v := 24) d_Mod_tellOne_353 rfl (by decide) ?_
    refine g_isub (pc1 := 356) d_Mod_tellOne_355 rfl ?_
    refine Wp.lI h (fun x87 h => ?_)
    refine g_istore_n (pc1 := 357) (lv' := [(0, .ref 401), (1, .int x87)]) d_Mod_tellOne_356 rfl rfl (by decide) [1, 0] rfl ?_
    refine g_iload_n (pc1 := 358) d_Mod_tellOne_357 rfl 1 rfl ?_
    refine g_if_lt (pc1 := 361) (tgt := 375) d_Mod_tellOne_358 (by decide) rfl (fun c88 => ?_) (fun c88 => ?_)
    · replace h := itp h c88
      exact j_Mod_tellOne_375 hld  hQ  h
    · replace h := itn h c88
      refine g_aload_n (pc1 := 362) d_Mod_tellOne_361 rfl 0 rfl ?_
      refine g_getr (pc1 := 365) d_Mod_tellOne_362 rfl ⟨_, fo_Mod_20⟩ sh_401 (by decide) (rf_401_5 ld) ?_
      refine g_aload_n (pc1 := 366) d_Mod_tellOne_365 rfl 0 rfl ?_
      refine g_geti (pc1 := 369) d_Mod_tellOne_366 rfl ⟨_, fo_Mod_209⟩ sh_401 (by decide) ?_
      obtain ⟨g89, h⟩ := gdn h
      refine g_iald (pc1 := 370) d_Mod_tellOne_369 rfl sh_404 (by decide) g89 ?_
      refine g_bipush (pc1 := 372) (v := 27) d_Mod_tellOne_370 rfl (by decide) ?_
      refine g_icmp_le (pc1 := 375) (tgt := 380) d_Mod_tellOne_372 (by decide) rfl (fun c90 => ?_) (fun c90 => ?_)
      · replace h := itp h c90
        exact j_Mod_tellOne_380 hld  hQ  h
      · replace h := itn h c90
        exact j_Mod_tellOne_375 hld  hQ  h
  replace h := itn h c85
  by_cases c91 : (M 404 ((M 401 11) : Int32).toNatClampNeg) = 27
  · replace h := itp h c91
    refine g_tabK (tgt := 344) (off := 335) d_Mod_tellOne_9 c91 (by decide) (by decide) (by decide) (by decide) ?_
    refine g_aload_n (pc1 := 345) d_Mod_tellOne_344 rfl 0 rfl ?_
    refine g_getr (pc1 := 348) d_Mod_tellOne_345 rfl ⟨_, fo_Mod_20⟩ sh_401 (by decide) (rf_401_5 ld) ?_
    refine g_aload_n (pc1 := 349) d_Mod_tellOne_348 rfl 0 rfl ?_
    refine g_geti (pc1 := 352) d_Mod_tellOne_349 rfl ⟨_, fo_Mod_209⟩ sh_401 (by decide) ?_
    obtain ⟨g92, h⟩ := gdn h
    refine g_iald (pc1 := 353) d_Mod_tellOne_352 rfl sh_404 (by decide) g92 ?_
    refine g_bipush (pc1 := 355) (v := 24) d_Mod_tellOne_353 rfl (by decide) ?_
    refine g_isub (pc1 := 356) d_Mod_tellOne_355 rfl ?_
    refine Wp.lI h (fun x93 h => ?_)
    refine g_istore_n (pc1 := 357) (lv' := [(0, .ref 401), (1, .int x93)]) d_Mod_tellOne_356 rfl rfl (by decide) [1, 0] rfl ?_
    refine g_iload_n (pc1 := 358) d_Mod_tellOne_357 rfl 1 rfl ?_
    refine g_if_lt (pc1 := 361) (tgt := 375) d_Mod_tellOne_358 (by decide) rfl (fun c94 => ?_) (fun c94 => ?_)
    · replace h := itp h c94
      exact j_Mod_tellOne_375 hld  hQ  h
    · replace h := itn h c94
      refine g_aload_n (pc1 := 362) d_Mod_tellOne_361 rfl 0 rfl ?_
      refine g_getr (pc1 := 365) d_Mod_tellOne_362 rfl ⟨_, fo_Mod_20⟩ sh_401 (by decide) (rf_401_5 ld) ?_
      refine g_aload_n (pc1 := 366) d_Mod_tellOne_365 rfl 0 rfl ?_
      refine g_geti (pc1 := 369) d_Mod_tellOne_366 rfl ⟨_, fo_Mod_209⟩ sh_401 (by decide) ?_
      obtain ⟨g95, h⟩ := gdn h
      refine g_iald (pc1 := 370) d_Mod_tellOne_369 rfl sh_404 (by decide) g95 ?_
      refine g_bipush (pc1 := 372) (v := 27) d_Mod_tellOne_370 rfl (by decide) ?_
      refine g_icmp_le (pc1 := 375) (tgt := 380) d_Mod_tellOne_372 (by decide) rfl (fun c96 => ?_) (fun c96 => ?_)
      · replace h := itp h c96
        exact j_Mod_tellOne_380 hld  hQ  h
      · replace h := itn h c96
        exact j_Mod_tellOne_375 hld  hQ  h
  replace h := itn h c91
  by_cases c97 : (M 404 ((M 401 11) : Int32).toNatClampNeg) = 28
  · replace h := itp h c97
    refine g_tabK (tgt := 315) (off := 306) d_Mod_tellOne_9 c97 (by decide) (by decide) (by decide) (by decide) ?_
    refine g_aload_n (pc1 := 316) d_Mod_tellOne_315 rfl 0 rfl ?_
    refine g_callV0 (pc1 := 319) (As := []) (rest := []) d_Mod_tellOne_316 rfl mo_Mod_227 mi_Mod_goesOn mv_Mod_goesOn rfl sh_401 (by decide) (by decide) rfl rfl (Nat.le_of_ble_eq_true rfl) ?_
    obtain ⟨M99, hq98, h⟩ := bnd h
    refine f_Mod_goesOn hld  hq98 ?_
    dsimp only [psh]
    refine g_aload_n (pc1 := 320) d_Mod_tellOne_319 rfl 0 rfl ?_
    refine g_getr (pc1 := 323) d_Mod_tellOne_320 rfl ⟨_, fo_Mod_82⟩ sh_401 (by decide) (rf_401_35 ld) ?_
    refine g_aload_n (pc1 := 324) d_Mod_tellOne_323 rfl 0 rfl ?_
    refine g_geti (pc1 := 327) d_Mod_tellOne_324 rfl ⟨_, fo_Mod_239⟩ sh_401 (by decide) ?_
    refine g_aload_n (pc1 := 328) d_Mod_tellOne_327 rfl 0 rfl ?_
    refine g_iconst (pc1 := 329) (v := 0) d_Mod_tellOne_328 rfl (by decide) ?_
    refine g_sipush (pc1 := 332) (v := 9999) d_Mod_tellOne_329 rfl (by decide) ?_
    refine g_callV0 (pc1 := 335) (As := [.int 0, .int 9999]) (rest := [.int (M99 401 19), .ref 423]) d_Mod_tellOne_332 rfl mo_Mod_274 mi_Mod_bounded mv_Mod_bounded rfl sh_401 (by decide) (by decide) rfl rfl (Nat.le_of_ble_eq_true rfl) ?_
    obtain ⟨r101, M102, hq100, h⟩ := bnd2 h
    refine f_Mod_bounded hld  hq100 ?_
    dsimp only [psh]
    obtain ⟨g103, h⟩ := gdn h
    refine g_iast (pc1 := 336) d_Mod_tellOne_335 rfl sh_423 (by decide) g103 ?_
    refine Wp.lM h (fun M104 h => ?_)
    refine g_aload_n (pc1 := 337) d_Mod_tellOne_336 rfl 0 rfl ?_
    refine g_iconst (pc1 := 338) (v := 4) d_Mod_tellOne_337 rfl (by decide) ?_
    refine g_callV0 (pc1 := 341) (As := [.int 4]) (rest := []) d_Mod_tellOne_338 rfl mo_Mod_281 mi_Mod_must mv_Mod_must rfl sh_401 (by decide) (by decide) rfl rfl (Nat.le_of_ble_eq_true rfl) ?_
    obtain ⟨M106, hq105, h⟩ := bnd h
    refine f_Mod_must hld  hq105 ?_
    dsimp only [psh]
    refine g_goto (tgt := 397) d_Mod_tellOne_341 (by decide) ?_
    refine g_return rfl d_Mod_tellOne_397 rfl ?_
    cases h; exact hQ
  replace h := itn h c97
  refine g_tabOut (tgt := 344) d_Mod_tellOne_9 (by
    have nc2 := neT (a := 20) c2 (by decide)
    have nc10 := neT (a := 21) c10 (by decide)
    have nc18 := neT (a := 22) c18 (by decide)
    have nc39 := neT (a := 23) c39 (by decide)
    have nc66 := neT (a := 24) c66 (by decide)
    have nc79 := neT (a := 25) c79 (by decide)
    have nc85 := neT (a := 26) c85 (by decide)
    have nc91 := neT (a := 27) c91 (by decide)
    have nc97 := neT (a := 28) c97 (by decide)
    omega) (by decide) ?_
  refine g_aload_n (pc1 := 345) d_Mod_tellOne_344 rfl 0 rfl ?_
  refine g_getr (pc1 := 348) d_Mod_tellOne_345 rfl ⟨_, fo_Mod_20⟩ sh_401 (by decide) (rf_401_5 ld) ?_
  refine g_aload_n (pc1 := 349) d_Mod_tellOne_348 rfl 0 rfl ?_
  refine g_geti (pc1 := 352) d_Mod_tellOne_349 rfl ⟨_, fo_Mod_209⟩ sh_401 (by decide) ?_
  obtain ⟨g107, h⟩ := gdn h
  refine g_iald (pc1 := 353) d_Mod_tellOne_352 rfl sh_404 (by decide) g107 ?_
  refine g_bipush (pc1 := 355) (v := 24) d_Mod_tellOne_353 rfl (by decide) ?_
  refine g_isub (pc1 := 356) d_Mod_tellOne_355 rfl ?_
  refine Wp.lI h (fun x108 h => ?_)
  refine g_istore_n (pc1 := 357) (lv' := [(0, .ref 401), (1, .int x108)]) d_Mod_tellOne_356 rfl rfl (by decide) [1, 0] rfl ?_
  refine g_iload_n (pc1 := 358) d_Mod_tellOne_357 rfl 1 rfl ?_
  refine g_if_lt (pc1 := 361) (tgt := 375) d_Mod_tellOne_358 (by decide) rfl (fun c109 => ?_) (fun c109 => ?_)
  · replace h := itp h c109
    exact j_Mod_tellOne_375 hld  hQ  h
  · replace h := itn h c109
    refine g_aload_n (pc1 := 362) d_Mod_tellOne_361 rfl 0 rfl ?_
    refine g_getr (pc1 := 365) d_Mod_tellOne_362 rfl ⟨_, fo_Mod_20⟩ sh_401 (by decide) (rf_401_5 ld) ?_
    refine g_aload_n (pc1 := 366) d_Mod_tellOne_365 rfl 0 rfl ?_
    refine g_geti (pc1 := 369) d_Mod_tellOne_366 rfl ⟨_, fo_Mod_209⟩ sh_401 (by decide) ?_
    obtain ⟨g110, h⟩ := gdn h
    refine g_iald (pc1 := 370) d_Mod_tellOne_369 rfl sh_404 (by decide) g110 ?_
    refine g_bipush (pc1 := 372) (v := 27) d_Mod_tellOne_370 rfl (by decide) ?_
    refine g_icmp_le (pc1 := 375) (tgt := 380) d_Mod_tellOne_372 (by decide) rfl (fun c111 => ?_) (fun c111 => ?_)
    · replace h := itp h c111
      exact j_Mod_tellOne_380 hld  hQ  h
    · replace h := itn h c111
      exact j_Mod_tellOne_375 hld  hQ  h

def J_Mod_eat_78 (v1 : Int32) (M : gM) : Option (Int32 × gM) :=
  (if ((31 + v1) : Int32) < 0 ∨ 38 ≤ ((31 + v1) : Int32).toNatClampNeg then none else (if ((31 + v1) : Int32) < 0 ∨ 38 ≤ ((31 + v1) : Int32).toNatClampNeg then none else nmM (uM M 437 ((31 + v1) : Int32).toNatClampNeg ((M 437 ((31 + v1) : Int32).toNatClampNeg) + 1)) (fun M12 => bI (F_Mod_records M12) (fun M14 => bI2 (F_Mod_freeBits v1 M14) (fun r16 M17 => some (r16, M17))))))
set_option maxHeartbeats 4000000 in
set_option maxRecDepth 20000 in
theorem j_Mod_eat_78 {l : Launch} {ld : Nat} {Q : Option Value → gM → gL → gR → Prop} (hld : isLa ld)   {q : Int32 × gM} {M : gM} {L : gL} (hQ : Q (some (.int q.1)) q.2 L (rf ld))  {v1 : Int32}  (h : J_Mod_eat_78 v1 M = some q) : Wp l y_Mod_eat (0, 0, 447) 447 0 0 78 [(0, .ref 401), (1, .int v1)] [] M L (rf ld) Q := by
  unfold J_Mod_eat_78 at h
  refine g_aload_n (pc1 := 79) d_Mod_eat_78 rfl 0 rfl ?_
  refine g_getr (pc1 := 82) d_Mod_eat_79 rfl ⟨_, fo_Mod_125⟩ sh_401 (by decide) (rf_401_53 ld) ?_
  refine g_bipush (pc1 := 84) (v := 31) d_Mod_eat_82 rfl (by decide) ?_
  refine g_iload_n (pc1 := 85) d_Mod_eat_84 rfl 1 rfl ?_
  refine g_iadd (pc1 := 86) d_Mod_eat_85 rfl ?_
  refine g_dup2 (pc1 := 87) d_Mod_eat_86 rfl rfl rfl ?_
  obtain ⟨g10, h⟩ := gdn h
  refine g_iald (pc1 := 88) d_Mod_eat_87 rfl sh_437 (by decide) g10 ?_
  refine g_iconst (pc1 := 89) (v := 1) d_Mod_eat_88 rfl (by decide) ?_
  refine g_iadd (pc1 := 90) d_Mod_eat_89 rfl ?_
  obtain ⟨g11, h⟩ := gdn h
  refine g_iast (pc1 := 91) d_Mod_eat_90 rfl sh_437 (by decide) g11 ?_
  refine Wp.lM h (fun M12 h => ?_)
  refine g_aload_n (pc1 := 92) d_Mod_eat_91 rfl 0 rfl ?_
  refine g_callV0 (pc1 := 95) (As := []) (rest := []) d_Mod_eat_92 rfl mo_Mod_392 mi_Mod_records mv_Mod_records rfl sh_401 (by decide) (by decide) rfl rfl (Nat.le_of_ble_eq_true rfl) ?_
  obtain ⟨M14, hq13, h⟩ := bnd h
  refine f_Mod_records hld  hq13 ?_
  dsimp only [psh]
  refine g_aload_n (pc1 := 96) d_Mod_eat_95 rfl 0 rfl ?_
  refine g_iload_n (pc1 := 97) d_Mod_eat_96 rfl 1 rfl ?_
  refine g_callV0 (pc1 := 100) (As := [.int v1]) (rest := []) d_Mod_eat_97 rfl mo_Mod_395 mi_Mod_freeBits mv_Mod_freeBits rfl sh_401 (by decide) (by decide) rfl rfl (Nat.le_of_ble_eq_true rfl) ?_
  obtain ⟨r16, M17, hq15, h⟩ := bnd2 h
  refine f_Mod_freeBits hld  hq15 ?_
  dsimp only [psh]
  refine g_ireturn (Or.inl rfl) d_Mod_eat_100 rfl ?_
  cases h; exact hQ
def B_Mod_eat_45 (v1 : Int32) (K45 : Int32 → gM → Option (Int32 × gM)) : Int32 → gM → Option (Int32 × gM) := fun v2 M =>
  (if 3 ≤ v2 then J_Mod_eat_78 v1 M else (if ((12 + v2) : Int32) < 0 ∨ 38 ≤ ((12 + v2) : Int32).toNatClampNeg then none else (if (((19 + (3 * v1)) + v2) : Int32) < 0 ∨ 38 ≤ (((19 + (3 * v1)) + v2) : Int32).toNatClampNeg then none else nmM (uM M 437 (((19 + (3 * v1)) + v2) : Int32).toNatClampNeg (M 437 ((12 + v2) : Int32).toNatClampNeg)) (fun M20 => nmI (v2 + 1) (fun x21 => K45 x21 M20)))))
def H_Mod_eat_45 (v1 : Int32) : Nat → Int32 → gM → Option (Int32 × gM) := lpK (B_Mod_eat_45 v1) (fun _ _ => none)
set_option maxHeartbeats 4000000 in
set_option maxRecDepth 20000 in
theorem h_Mod_eat_45 {l : Launch} {ld : Nat} {Q : Option Value → gM → gL → gR → Prop} (hld : isLa ld)   {q : Int32 × gM} {L : gL} (hQ : Q (some (.int q.1)) q.2 L (rf ld))  {v1 : Int32}  : ∀ (f : Nat) (v2 : Int32) (M : gM), H_Mod_eat_45 v1 f v2 M = some q → Wp l y_Mod_eat (0, 0, 447) 447 0 0 45 [(0, .ref 401), (1, .int v1), (2, .int v2)] [] M L (rf ld) Q := by
  intro f
  induction f with
  | zero => intro v2 M h; cases h
  | succ f hK45 =>
    intro v2 M h
    replace h : B_Mod_eat_45 v1 (H_Mod_eat_45 v1 f) v2 M = some q := h
    unfold B_Mod_eat_45 at h
    refine g_iload_n (pc1 := 46) d_Mod_eat_45 rfl 2 rfl ?_
    refine g_iconst (pc1 := 47) (v := 3) d_Mod_eat_46 rfl (by decide) ?_
    refine g_icmp_ge (pc1 := 50) (tgt := 78) d_Mod_eat_47 (by decide) rfl (fun c9 => ?_) (fun c9 => ?_)
    · replace h := itp h c9
      refine Wp.loc (lv' := [(0, .ref 401), (1, .int v1)]) [0, 1] rfl ?_
      exact j_Mod_eat_78 hld  hQ  h
    · replace h := itn h c9
      refine g_aload_n (pc1 := 51) d_Mod_eat_50 rfl 0 rfl ?_
      refine g_getr (pc1 := 54) d_Mod_eat_51 rfl ⟨_, fo_Mod_125⟩ sh_401 (by decide) (rf_401_53 ld) ?_
      refine g_bipush (pc1 := 56) (v := 19) d_Mod_eat_54 rfl (by decide) ?_
      refine g_iconst (pc1 := 57) (v := 3) d_Mod_eat_56 rfl (by decide) ?_
      refine g_iload_n (pc1 := 58) d_Mod_eat_57 rfl 1 rfl ?_
      refine g_imul (pc1 := 59) d_Mod_eat_58 rfl ?_
      refine g_iadd (pc1 := 60) d_Mod_eat_59 rfl ?_
      refine g_iload_n (pc1 := 61) d_Mod_eat_60 rfl 2 rfl ?_
      refine g_iadd (pc1 := 62) d_Mod_eat_61 rfl ?_
      refine g_aload_n (pc1 := 63) d_Mod_eat_62 rfl 0 rfl ?_
      refine g_getr (pc1 := 66) d_Mod_eat_63 rfl ⟨_, fo_Mod_125⟩ sh_401 (by decide) (rf_401_53 ld) ?_
      refine g_bipush (pc1 := 68) (v := 12) d_Mod_eat_66 rfl (by decide) ?_
      refine g_iload_n (pc1 := 69) d_Mod_eat_68 rfl 2 rfl ?_
      refine g_iadd (pc1 := 70) d_Mod_eat_69 rfl ?_
      obtain ⟨g18, h⟩ := gdn h
      refine g_iald (pc1 := 71) d_Mod_eat_70 rfl sh_437 (by decide) g18 ?_
      obtain ⟨g19, h⟩ := gdn h
      refine g_iast (pc1 := 72) d_Mod_eat_71 rfl sh_437 (by decide) g19 ?_
      refine Wp.lM h (fun M20 h => ?_)
      obtain ⟨x21, ex21, h⟩ := ltI h
      refine g_iinc (pc1 := 75) (v := x21) (lv' := [(0, .ref 401), (1, .int v1), (2, .int x21)]) d_Mod_eat_72 rfl 2 rfl (by rw [ex21]; rfl) (by decide) [1, 2, 0] rfl ?_
      refine g_goto (tgt := 45) d_Mod_eat_75 (by decide) ?_
      exact hK45 x21 M20 h
def F_Mod_eat (p1 : Int32) (M : gM) : Option (Int32 × gM) :=
  bI (F_Mod_isGuest p1 M) (fun r2 => (if r2 = 0 then some ((-1), M) else bI (F_Mod_copies M) (fun M5 => (if 0 ≤ (M5 437 11) then (if ((15 + p1) : Int32) < 0 ∨ 38 ≤ ((15 + p1) : Int32).toNatClampNeg then none else nmM (uM M5 437 ((15 + p1) : Int32).toNatClampNeg (M5 437 35)) (fun M8 => H_Mod_eat_45 p1 FU 0 M8)) else some ((-2), M5)))))
set_option maxHeartbeats 4000000 in
set_option maxRecDepth 20000 in
theorem f_Mod_eat {l : Launch} {ld : Nat} {M : gM} {L : gL} {Q : Option Value → gM → gL → gR → Prop} (hld : isLa ld) {p1 : Int32}  {q : Int32 × gM} (h : F_Mod_eat p1 M = some q) (hQ : Q (some (.int q.1)) q.2 L (rf ld)) : Tm l y_Mod_eat (0, 0, 447) 447 [.ref 401, .int p1] M L (rf ld) Q := by
  refine Tm.of (by decide) (Nat.le_of_ble_eq_true rfl) ?_
  show Wp l y_Mod_eat (0, 0, 447) 447 0 0 0 [(0, .ref 401), (1, .int p1)] [] M L (rf ld) Q
  unfold F_Mod_eat at h
  refine g_aload_n (pc1 := 1) d_Mod_eat_0 rfl 0 rfl ?_
  refine g_iload_n (pc1 := 2) d_Mod_eat_1 rfl 1 rfl ?_
  refine g_callV0 (pc1 := 5) (As := [.int p1]) (rest := []) d_Mod_eat_2 rfl mo_Mod_380 mi_Mod_isGuest mv_Mod_isGuest rfl sh_401 (by decide) (by decide) rfl rfl (Nat.le_of_ble_eq_true rfl) ?_
  obtain ⟨r2, hq1, h⟩ := bnd h
  refine f_Mod_isGuest hld  hq1 ?_
  dsimp only [psh]
  refine g_if_ne (pc1 := 8) (tgt := 10) d_Mod_eat_5 (by decide) rfl (fun c3 => ?_) (fun c3 => ?_)
  · replace h := itn h c3
    refine g_aload_n (pc1 := 11) d_Mod_eat_10 rfl 0 rfl ?_
    refine g_callV0 (pc1 := 14) (As := []) (rest := []) d_Mod_eat_11 rfl mo_Mod_377 mi_Mod_copies mv_Mod_copies rfl sh_401 (by decide) (by decide) rfl rfl (Nat.le_of_ble_eq_true rfl) ?_
    obtain ⟨M5, hq4, h⟩ := bnd h
    refine f_Mod_copies hld  hq4 ?_
    dsimp only [psh]
    refine g_aload_n (pc1 := 15) d_Mod_eat_14 rfl 0 rfl ?_
    refine g_getr (pc1 := 18) d_Mod_eat_15 rfl ⟨_, fo_Mod_125⟩ sh_401 (by decide) (rf_401_53 ld) ?_
    refine g_bipush (pc1 := 20) (v := 11) d_Mod_eat_18 rfl (by decide) ?_
    refine g_iald (pc1 := 21) d_Mod_eat_20 rfl sh_437 (by decide) (vin_lit (x := 11) (by decide)) ?_
    refine Wp.vali (y := (M5 437 11)) (congrArg (M5 437) (by decide)) ?_
    refine g_if_ge (pc1 := 24) (tgt := 27) d_Mod_eat_21 (by decide) rfl (fun c6 => ?_) (fun c6 => ?_)
    · replace h := itp h c6
      refine g_aload_n (pc1 := 28) d_Mod_eat_27 rfl 0 rfl ?_
      refine g_getr (pc1 := 31) d_Mod_eat_28 rfl ⟨_, fo_Mod_125⟩ sh_401 (by decide) (rf_401_53 ld) ?_
      refine g_bipush (pc1 := 33) (v := 15) d_Mod_eat_31 rfl (by decide) ?_
      refine g_iload_n (pc1 := 34) d_Mod_eat_33 rfl 1 rfl ?_
      refine g_iadd (pc1 := 35) d_Mod_eat_34 rfl ?_
      refine g_aload_n (pc1 := 36) d_Mod_eat_35 rfl 0 rfl ?_
      refine g_getr (pc1 := 39) d_Mod_eat_36 rfl ⟨_, fo_Mod_125⟩ sh_401 (by decide) (rf_401_53 ld) ?_
      refine g_bipush (pc1 := 41) (v := 35) d_Mod_eat_39 rfl (by decide) ?_
      refine g_iald (pc1 := 42) d_Mod_eat_41 rfl sh_437 (by decide) (vin_lit (x := 35) (by decide)) ?_
      refine Wp.vali (y := (M5 437 35)) (congrArg (M5 437) (by decide)) ?_
      obtain ⟨g7, h⟩ := gdn h
      refine g_iast (pc1 := 43) d_Mod_eat_42 rfl sh_437 (by decide) g7 ?_
      refine Wp.lM h (fun M8 h => ?_)
      refine g_iconst (pc1 := 44) (v := 0) d_Mod_eat_43 rfl (by decide) ?_
      refine g_istore_n (pc1 := 45) (lv' := [(0, .ref 401), (1, .int p1), (2, .int 0)]) d_Mod_eat_44 rfl rfl (by decide) [1, 2, 0] rfl ?_
      exact h_Mod_eat_45 hld  hQ  _ 0 M8 h
    · replace h := itn h c6
      refine g_bipush (pc1 := 26) (v := (-2)) d_Mod_eat_24 rfl (by decide) ?_
      refine g_ireturn (Or.inl rfl) d_Mod_eat_26 rfl ?_
      cases h; exact hQ
  · replace h := itp h c3
    refine g_iconst (pc1 := 9) (v := (-1)) d_Mod_eat_8 rfl (by decide) ?_
    refine g_ireturn (Or.inl rfl) d_Mod_eat_9 rfl ?_
    cases h; exact hQ

def J_Mod_freestOf_63 (K10 : Int32 → Int32 → gM → Option (Int32 × gM)) (v1 : Int32) (v2 : Int32) (v3 : Int32) (M : gM) : Option (Int32 × gM) :=
  nmI (v3 + 1) (fun x15 => K10 v2 x15 M)
set_option maxHeartbeats 4000000 in
set_option maxRecDepth 20000 in
theorem j_Mod_freestOf_63 {l : Launch} {ld : Nat} {Q : Option Value → gM → gL → gR → Prop} (hld : isLa ld)   {q : Int32 × gM} {M : gM} {L : gL} (hQ : Q (some (.int q.1)) q.2 L (rf ld)) {K10 : Int32 → Int32 → gM → Option (Int32 × gM)} {v1 : Int32} {v2 : Int32} {v3 : Int32} (hK10 : ∀ (w2 : Int32) (w3 : Int32) (M : gM), K10 w2 w3 M = some q → Wp l y_Mod_freestOf (0, 0, 447) 447 0 0 10 [(0, .ref 401), (1, .int v1), (2, .int w2), (3, .int w3)] [] M L (rf ld) Q) (h : J_Mod_freestOf_63 K10 v1 v2 v3 M = some q) : Wp l y_Mod_freestOf (0, 0, 447) 447 0 0 63 [(0, .ref 401), (1, .int v1), (2, .int v2), (3, .int v3)] [] M L (rf ld) Q := by
  unfold J_Mod_freestOf_63 at h
  obtain ⟨x15, ex15, h⟩ := ltI h
  refine g_iinc (pc1 := 66) (v := x15) (lv' := [(0, .ref 401), (1, .int v1), (2, .int v2), (3, .int x15)]) d_Mod_freestOf_63 rfl 3 rfl (by rw [ex15]; rfl) (by decide) [1, 2, 3, 0] rfl ?_
  refine g_goto (tgt := 10) d_Mod_freestOf_66 (by decide) ?_
  exact hK10 v2 x15 M h
def B_Mod_freestOf_10 (v1 : Int32) (K10 : Int32 → Int32 → gM → Option (Int32 × gM)) : Int32 → Int32 → gM → Option (Int32 × gM) := fun v2 v3 M =>
  (if ((M 401 18) : Int32) < 0 ∨ 2 ≤ ((M 401 18) : Int32).toNatClampNeg then none else (if (M 415 ((M 401 18) : Int32).toNatClampNeg) ≤ v3 then some (v2, M) else bI (F_Mod_copies M) (fun M5 => bI (F_Mod_eatsDish v1 v3 M5) (fun M7 => bI2 (F_Mod_freeBits v1 M7) (fun r9 M10 => bI (F_Mod_bits r9) (fun r12 => (if (M10 401 63) < r12 then nmM (uM M10 401 63 r12) (fun M14 => J_Mod_freestOf_63 K10 v1 v3 v3 M14) else J_Mod_freestOf_63 K10 v1 v2 v3 M10)))))))
def H_Mod_freestOf_10 (v1 : Int32) : Nat → Int32 → Int32 → gM → Option (Int32 × gM) := lpK (B_Mod_freestOf_10 v1) (fun _ _ _ => none)
set_option maxHeartbeats 4000000 in
set_option maxRecDepth 20000 in
theorem h_Mod_freestOf_10 {l : Launch} {ld : Nat} {Q : Option Value → gM → gL → gR → Prop} (hld : isLa ld)   {q : Int32 × gM} {L : gL} (hQ : Q (some (.int q.1)) q.2 L (rf ld))  {v1 : Int32}  : ∀ (f : Nat) (v2 : Int32) (v3 : Int32) (M : gM), H_Mod_freestOf_10 v1 f v2 v3 M = some q → Wp l y_Mod_freestOf (0, 0, 447) 447 0 0 10 [(0, .ref 401), (1, .int v1), (2, .int v2), (3, .int v3)] [] M L (rf ld) Q := by
  intro f
  induction f with
  | zero => intro v2 v3 M h; cases h
  | succ f hK10 =>
    intro v2 v3 M h
    replace h : B_Mod_freestOf_10 v1 (H_Mod_freestOf_10 v1 f) v2 v3 M = some q := h
    unfold B_Mod_freestOf_10 at h
    refine g_iload_n (pc1 := 11) d_Mod_freestOf_10 rfl 3 rfl ?_
    refine g_aload_n (pc1 := 12) d_Mod_freestOf_11 rfl 0 rfl ?_
    refine g_getr (pc1 := 15) d_Mod_freestOf_12 rfl ⟨_, fo_Mod_58⟩ sh_401 (by decide) (rf_401_27 ld) ?_
    refine g_aload_n (pc1 := 16) d_Mod_freestOf_15 rfl 0 rfl ?_
    refine g_geti (pc1 := 19) d_Mod_freestOf_16 rfl ⟨_, fo_Mod_236⟩ sh_401 (by decide) ?_
    obtain ⟨g2, h⟩ := gdn h
    refine g_iald (pc1 := 20) d_Mod_freestOf_19 rfl sh_415 (by decide) g2 ?_
    refine g_icmp_ge (pc1 := 23) (tgt := 69) d_Mod_freestOf_20 (by decide) rfl (fun c3 => ?_) (fun c3 => ?_)
    · replace h := itp h c3
      refine g_iload_n (pc1 := 70) d_Mod_freestOf_69 rfl 2 rfl ?_
      refine g_ireturn (Or.inl rfl) d_Mod_freestOf_70 rfl ?_
      cases h; exact hQ
    · replace h := itn h c3
      refine g_aload_n (pc1 := 24) d_Mod_freestOf_23 rfl 0 rfl ?_
      refine g_callV0 (pc1 := 27) (As := []) (rest := []) d_Mod_freestOf_24 rfl mo_Mod_377 mi_Mod_copies mv_Mod_copies rfl sh_401 (by decide) (by decide) rfl rfl (Nat.le_of_ble_eq_true rfl) ?_
      obtain ⟨M5, hq4, h⟩ := bnd h
      refine f_Mod_copies hld  hq4 ?_
      dsimp only [psh]
      refine g_aload_n (pc1 := 28) d_Mod_freestOf_27 rfl 0 rfl ?_
      refine g_iload_n (pc1 := 29) d_Mod_freestOf_28 rfl 1 rfl ?_
      refine g_iload_n (pc1 := 30) d_Mod_freestOf_29 rfl 3 rfl ?_
      refine g_callV0 (pc1 := 33) (As := [.int v1, .int v3]) (rest := []) d_Mod_freestOf_30 rfl mo_Mod_431 mi_Mod_eatsDish mv_Mod_eatsDish rfl sh_401 (by decide) (by decide) rfl rfl (Nat.le_of_ble_eq_true rfl) ?_
      obtain ⟨M7, hq6, h⟩ := bnd h
      refine f_Mod_eatsDish hld  hq6 ?_
      dsimp only [psh]
      refine g_aload_n (pc1 := 34) d_Mod_freestOf_33 rfl 0 rfl ?_
      refine g_iload_n (pc1 := 35) d_Mod_freestOf_34 rfl 1 rfl ?_
      refine g_callV0 (pc1 := 38) (As := [.int v1]) (rest := []) d_Mod_freestOf_35 rfl mo_Mod_395 mi_Mod_freeBits mv_Mod_freeBits rfl sh_401 (by decide) (by decide) rfl rfl (Nat.le_of_ble_eq_true rfl) ?_
      obtain ⟨r9, M10, hq8, h⟩ := bnd2 h
      refine f_Mod_freeBits hld  hq8 ?_
      dsimp only [psh]
      refine g_callS0 (pc1 := 41) (As := [.int r9]) (rest := []) d_Mod_freestOf_38 rfl mo_Mod_434 ms_Mod_bits (by decide) rfl rfl (Nat.le_of_ble_eq_true rfl) ?_
      obtain ⟨r12, hq11, h⟩ := bnd h
      refine f_Mod_bits hld  hq11 ?_
      dsimp only [psh]
      refine g_istore (pc1 := 43) (lv' := [(0, .ref 401), (1, .int v1), (2, .int v2), (3, .int v3), (4, .int r12)]) d_Mod_freestOf_41 rfl (by decide) [1, 2, 3, 4, 0] rfl ?_
      refine g_iload (pc1 := 45) d_Mod_freestOf_43 rfl 4 rfl ?_
      refine g_aload_n (pc1 := 46) d_Mod_freestOf_45 rfl 0 rfl ?_
      refine g_geti (pc1 := 49) d_Mod_freestOf_46 rfl ⟨_, fo_Mod_428⟩ sh_401 (by decide) ?_
      refine g_icmp_gt (pc1 := 52) (tgt := 55) d_Mod_freestOf_49 (by decide) rfl (fun c13 => ?_) (fun c13 => ?_)
      · replace h := itp h c13
        refine g_iload_n (pc1 := 56) d_Mod_freestOf_55 rfl 3 rfl ?_
        refine g_istore_n (pc1 := 57) (lv' := [(0, .ref 401), (1, .int v1), (2, .int v3), (3, .int v3), (4, .int r12)]) d_Mod_freestOf_56 rfl rfl (by decide) [1, 2, 0, 3, 4] rfl ?_
        refine g_aload_n (pc1 := 58) d_Mod_freestOf_57 rfl 0 rfl ?_
        refine g_iload (pc1 := 60) d_Mod_freestOf_58 rfl 4 rfl ?_
        refine g_puti (pc1 := 63) d_Mod_freestOf_60 rfl fo_Mod_428 (po_12_63 _) sh_401 (by decide) ?_
        refine Wp.lM h (fun M14 h => ?_)
        refine Wp.loc (lv' := [(0, .ref 401), (1, .int v1), (2, .int v3), (3, .int v3)]) [0, 1, 2, 3] rfl ?_
        exact j_Mod_freestOf_63 hld  hQ hK10 h
      · replace h := itn h c13
        refine g_goto (tgt := 63) d_Mod_freestOf_52 (by decide) ?_
        refine Wp.loc (lv' := [(0, .ref 401), (1, .int v1), (2, .int v2), (3, .int v3)]) [0, 1, 2, 3] rfl ?_
        exact j_Mod_freestOf_63 hld  hQ hK10 h
def F_Mod_freestOf (p1 : Int32) (M : gM) : Option (Int32 × gM) :=
  nmM (uM M 401 63 (-1)) (fun M1 => H_Mod_freestOf_10 p1 FU (-2) 0 M1)
set_option maxHeartbeats 4000000 in
set_option maxRecDepth 20000 in
theorem f_Mod_freestOf {l : Launch} {ld : Nat} {M : gM} {L : gL} {Q : Option Value → gM → gL → gR → Prop} (hld : isLa ld) {p1 : Int32}  {q : Int32 × gM} (h : F_Mod_freestOf p1 M = some q) (hQ : Q (some (.int q.1)) q.2 L (rf ld)) : Tm l y_Mod_freestOf (0, 0, 447) 447 [.ref 401, .int p1] M L (rf ld) Q := by
  refine Tm.of (by decide) (Nat.le_of_ble_eq_true rfl) ?_
  show Wp l y_Mod_freestOf (0, 0, 447) 447 0 0 0 [(0, .ref 401), (1, .int p1)] [] M L (rf ld) Q
  unfold F_Mod_freestOf at h
  refine g_bipush (pc1 := 2) (v := (-2)) d_Mod_freestOf_0 rfl (by decide) ?_
  refine g_istore_n (pc1 := 3) (lv' := [(0, .ref 401), (1, .int p1), (2, .int (-2))]) d_Mod_freestOf_2 rfl rfl (by decide) [1, 2, 0] rfl ?_
  refine g_aload_n (pc1 := 4) d_Mod_freestOf_3 rfl 0 rfl ?_
  refine g_iconst (pc1 := 5) (v := (-1)) d_Mod_freestOf_4 rfl (by decide) ?_
  refine g_puti (pc1 := 8) d_Mod_freestOf_5 rfl fo_Mod_428 (po_12_63 _) sh_401 (by decide) ?_
  refine Wp.lM h (fun M1 h => ?_)
  refine g_iconst (pc1 := 9) (v := 0) d_Mod_freestOf_8 rfl (by decide) ?_
  refine g_istore_n (pc1 := 10) (lv' := [(0, .ref 401), (1, .int p1), (2, .int (-2)), (3, .int 0)]) d_Mod_freestOf_9 rfl rfl (by decide) [1, 2, 3, 0] rfl ?_
  exact h_Mod_freestOf_10 hld  hQ  _ (-2) 0 M1 h

def J_Mod_mealsBy_65 (K10 : Int32 → Int32 → gM → Option (Int32 × gM)) (v1 : Int32) (v2 : Int32) (v3 : Int32) (v4 : Int32) (v5 : Int32) (v6 : Int32) (M : gM) : Option (Int32 × gM) :=
  bI2 (F_Mod_freeBits v2 M) (fun r12 M13 => (if (v4 &&& (r12 ^^^ (-1))) = 0 then nmM (uM M13 437 35 ((M13 437 35) + 1)) (fun M15 => nmI (v6 + 1) (fun x16 => K10 v5 x16 M15)) else some ((-1), M13)))
set_option maxHeartbeats 4000000 in
set_option maxRecDepth 20000 in
theorem j_Mod_mealsBy_65 {l : Launch} {ld : Nat} {Q : Option Value → gM → gL → gR → Prop} (hld : isLa ld)   {q : Int32 × gM} {M : gM} {L : gL} (hQ : Q (some (.int q.1)) q.2 L (rf ld)) {K10 : Int32 → Int32 → gM → Option (Int32 × gM)} {v1 : Int32} {v2 : Int32} {v3 : Int32} {v4 : Int32} {v5 : Int32} {v6 : Int32} (hK10 : ∀ (w5 : Int32) (w6 : Int32) (M : gM), K10 w5 w6 M = some q → Wp l y_Mod_mealsBy (0, 0, 447) 447 0 0 10 [(0, .ref 401), (1, .int v1), (2, .int v2), (3, .int v3), (4, .int v4), (5, .int w5), (6, .int w6)] [] M L (rf ld) Q) (h : J_Mod_mealsBy_65 K10 v1 v2 v3 v4 v5 v6 M = some q) : Wp l y_Mod_mealsBy (0, 0, 447) 447 0 0 65 [(0, .ref 401), (1, .int v1), (2, .int v2), (3, .int v3), (4, .int v4), (5, .int v5), (6, .int v6)] [] M L (rf ld) Q := by
  unfold J_Mod_mealsBy_65 at h
  refine g_iload (pc1 := 67) d_Mod_mealsBy_65 rfl 4 rfl ?_
  refine g_aload_n (pc1 := 68) d_Mod_mealsBy_67 rfl 0 rfl ?_
  refine g_iload_n (pc1 := 69) d_Mod_mealsBy_68 rfl 2 rfl ?_
  refine g_callV0 (pc1 := 72) (As := [.int v2]) (rest := [.int v4]) d_Mod_mealsBy_69 rfl mo_Mod_395 mi_Mod_freeBits mv_Mod_freeBits rfl sh_401 (by decide) (by decide) rfl rfl (Nat.le_of_ble_eq_true rfl) ?_
  obtain ⟨r12, M13, hq11, h⟩ := bnd2 h
  refine f_Mod_freeBits hld  hq11 ?_
  dsimp only [psh]
  refine g_iconst (pc1 := 73) (v := (-1)) d_Mod_mealsBy_72 rfl (by decide) ?_
  refine g_ixor (pc1 := 74) d_Mod_mealsBy_73 rfl ?_
  refine g_iand (pc1 := 75) d_Mod_mealsBy_74 rfl ?_
  refine g_if_eq (pc1 := 78) (tgt := 80) d_Mod_mealsBy_75 (by decide) rfl (fun c14 => ?_) (fun c14 => ?_)
  · replace h := itp h c14
    refine g_aload_n (pc1 := 81) d_Mod_mealsBy_80 rfl 0 rfl ?_
    refine g_getr (pc1 := 84) d_Mod_mealsBy_81 rfl ⟨_, fo_Mod_125⟩ sh_401 (by decide) (rf_401_53 ld) ?_
    refine g_bipush (pc1 := 86) (v := 35) d_Mod_mealsBy_84 rfl (by decide) ?_
    refine g_dup2 (pc1 := 87) d_Mod_mealsBy_86 rfl rfl rfl ?_
    refine g_iald (pc1 := 88) d_Mod_mealsBy_87 rfl sh_437 (by decide) (vin_lit (x := 35) (by decide)) ?_
    refine Wp.vali (y := (M13 437 35)) (congrArg (M13 437) (by decide)) ?_
    refine g_iconst (pc1 := 89) (v := 1) d_Mod_mealsBy_88 rfl (by decide) ?_
    refine g_iadd (pc1 := 90) d_Mod_mealsBy_89 rfl ?_
    refine g_iast (pc1 := 91) d_Mod_mealsBy_90 rfl sh_437 (by decide) (vin_lit (x := 35) (by decide)) ?_
    refine Wp.eqM (M' := uM M13 437 35 ((M13 437 35) + 1)) (congrArg (fun z => uM M13 437 z ((M13 437 35) + 1)) (by decide)) ?_
    refine Wp.lM h (fun M15 h => ?_)
    obtain ⟨x16, ex16, h⟩ := ltI h
    refine g_iinc (pc1 := 94) (v := x16) (lv' := [(0, .ref 401), (1, .int v1), (2, .int v2), (3, .int v3), (4, .int v4), (5, .int v5), (6, .int x16)]) d_Mod_mealsBy_91 rfl 6 rfl (by rw [ex16]; rfl) (by decide) [1, 2, 3, 4, 5, 6, 0] rfl ?_
    refine g_goto (tgt := 10) d_Mod_mealsBy_94 (by decide) ?_
    exact hK10 v5 x16 M15 h
  · replace h := itn h c14
    refine g_iconst (pc1 := 79) (v := (-1)) d_Mod_mealsBy_78 rfl (by decide) ?_
    refine g_ireturn (Or.inl rfl) d_Mod_mealsBy_79 rfl ?_
    cases h; exact hQ
def B_Mod_mealsBy_10 (v1 : Int32) (v2 : Int32) (v3 : Int32) (v4 : Int32) (K10 : Int32 → Int32 → gM → Option (Int32 × gM)) : Int32 → Int32 → gM → Option (Int32 × gM) := fun v5 v6 M =>
  (if v3 ≤ v6 then some (v5, M) else bI (F_Mod_sixes ((v3 - 1) - v6)) (fun r5 => (if r5 = 0 then none else nmI (((v1 / r5) - (v1 / r5) / 6 * 6) - 1) (fun x7 => (if ((M 401 18) : Int32) < 0 ∨ 2 ≤ ((M 401 18) : Int32).toNatClampNeg then none else (if x7 < (M 415 ((M 401 18) : Int32).toNatClampNeg) then (if x7 < 0 then J_Mod_mealsBy_65 K10 v1 v2 v3 v4 v5 v6 M else bI (F_Mod_eatsDish v2 x7 M) (fun M18 => nmI (v5 + 1) (fun x19 => J_Mod_mealsBy_65 K10 v1 v2 v3 v4 x19 v6 M18))) else some ((-1), M)))))))
def H_Mod_mealsBy_10 (v1 : Int32) (v2 : Int32) (v3 : Int32) (v4 : Int32) : Nat → Int32 → Int32 → gM → Option (Int32 × gM) := lpK (B_Mod_mealsBy_10 v1 v2 v3 v4) (fun _ _ _ => none)
set_option maxHeartbeats 4000000 in
set_option maxRecDepth 20000 in
theorem h_Mod_mealsBy_10 {l : Launch} {ld : Nat} {Q : Option Value → gM → gL → gR → Prop} (hld : isLa ld)   {q : Int32 × gM} {L : gL} (hQ : Q (some (.int q.1)) q.2 L (rf ld))  {v1 : Int32} {v2 : Int32} {v3 : Int32} {v4 : Int32}  : ∀ (f : Nat) (v5 : Int32) (v6 : Int32) (M : gM), H_Mod_mealsBy_10 v1 v2 v3 v4 f v5 v6 M = some q → Wp l y_Mod_mealsBy (0, 0, 447) 447 0 0 10 [(0, .ref 401), (1, .int v1), (2, .int v2), (3, .int v3), (4, .int v4), (5, .int v5), (6, .int v6)] [] M L (rf ld) Q := by
  intro f
  induction f with
  | zero => intro v5 v6 M h; cases h
  | succ f hK10 =>
    intro v5 v6 M h
    replace h : B_Mod_mealsBy_10 v1 v2 v3 v4 (H_Mod_mealsBy_10 v1 v2 v3 v4 f) v5 v6 M = some q := h
    unfold B_Mod_mealsBy_10 at h
    refine g_iload (pc1 := 12) d_Mod_mealsBy_10 rfl 6 rfl ?_
    refine g_iload_n (pc1 := 13) d_Mod_mealsBy_12 rfl 3 rfl ?_
    refine g_icmp_ge (pc1 := 16) (tgt := 97) d_Mod_mealsBy_13 (by decide) rfl (fun c3 => ?_) (fun c3 => ?_)
    · replace h := itp h c3
      refine g_iload (pc1 := 99) d_Mod_mealsBy_97 rfl 5 rfl ?_
      refine g_ireturn (Or.inl rfl) d_Mod_mealsBy_99 rfl ?_
      cases h; exact hQ
    · replace h := itn h c3
      refine g_iload_n (pc1 := 17) d_Mod_mealsBy_16 rfl 1 rfl ?_
      refine g_iload_n (pc1 := 18) d_Mod_mealsBy_17 rfl 3 rfl ?_
      refine g_iconst (pc1 := 19) (v := 1) d_Mod_mealsBy_18 rfl (by decide) ?_
      refine g_isub (pc1 := 20) d_Mod_mealsBy_19 rfl ?_
      refine g_iload (pc1 := 22) d_Mod_mealsBy_20 rfl 6 rfl ?_
      refine g_isub (pc1 := 23) d_Mod_mealsBy_22 rfl ?_
      refine g_callS0 (pc1 := 26) (As := [.int ((v3 - 1) - v6)]) (rest := [.int v1]) d_Mod_mealsBy_23 rfl mo_Mod_440 ms_Mod_sixes (by decide) rfl rfl (Nat.le_of_ble_eq_true rfl) ?_
      obtain ⟨r5, hq4, h⟩ := bnd h
      refine f_Mod_sixes hld  hq4 ?_
      dsimp only [psh]
      obtain ⟨g6, h⟩ := gdn h
      refine g_idiv (pc1 := 27) d_Mod_mealsBy_26 rfl g6 ?_
      refine g_bipush (pc1 := 29) (v := 6) d_Mod_mealsBy_27 rfl (by decide) ?_
      refine g_irem (pc1 := 30) d_Mod_mealsBy_29 rfl (by decide) ?_
      refine g_iconst (pc1 := 31) (v := 1) d_Mod_mealsBy_30 rfl (by decide) ?_
      refine g_isub (pc1 := 32) d_Mod_mealsBy_31 rfl ?_
      refine Wp.lI h (fun x7 h => ?_)
      refine g_istore (pc1 := 34) (lv' := [(0, .ref 401), (1, .int v1), (2, .int v2), (3, .int v3), (4, .int v4), (5, .int v5), (6, .int v6), (7, .int x7)]) d_Mod_mealsBy_32 rfl (by decide) [1, 2, 3, 4, 5, 6, 7, 0] rfl ?_
      refine g_iload (pc1 := 36) d_Mod_mealsBy_34 rfl 7 rfl ?_
      refine g_aload_n (pc1 := 37) d_Mod_mealsBy_36 rfl 0 rfl ?_
      refine g_getr (pc1 := 40) d_Mod_mealsBy_37 rfl ⟨_, fo_Mod_58⟩ sh_401 (by decide) (rf_401_27 ld) ?_
      refine g_aload_n (pc1 := 41) d_Mod_mealsBy_40 rfl 0 rfl ?_
      refine g_geti (pc1 := 44) d_Mod_mealsBy_41 rfl ⟨_, fo_Mod_236⟩ sh_401 (by decide) ?_
      obtain ⟨g8, h⟩ := gdn h
      refine g_iald (pc1 := 45) d_Mod_mealsBy_44 rfl sh_415 (by decide) g8 ?_
      refine g_icmp_lt (pc1 := 48) (tgt := 50) d_Mod_mealsBy_45 (by decide) rfl (fun c9 => ?_) (fun c9 => ?_)
      · replace h := itp h c9
        refine g_iload (pc1 := 52) d_Mod_mealsBy_50 rfl 7 rfl ?_
        refine g_if_lt (pc1 := 55) (tgt := 65) d_Mod_mealsBy_52 (by decide) rfl (fun c10 => ?_) (fun c10 => ?_)
        · replace h := itp h c10
          refine Wp.loc (lv' := [(0, .ref 401), (1, .int v1), (2, .int v2), (3, .int v3), (4, .int v4), (5, .int v5), (6, .int v6)]) [0, 1, 2, 3, 4, 5, 6] rfl ?_
          exact j_Mod_mealsBy_65 hld  hQ hK10 h
        · replace h := itn h c10
          refine g_aload_n (pc1 := 56) d_Mod_mealsBy_55 rfl 0 rfl ?_
          refine g_iload_n (pc1 := 57) d_Mod_mealsBy_56 rfl 2 rfl ?_
          refine g_iload (pc1 := 59) d_Mod_mealsBy_57 rfl 7 rfl ?_
          refine g_callV0 (pc1 := 62) (As := [.int v2, .int x7]) (rest := []) d_Mod_mealsBy_59 rfl mo_Mod_431 mi_Mod_eatsDish mv_Mod_eatsDish rfl sh_401 (by decide) (by decide) rfl rfl (Nat.le_of_ble_eq_true rfl) ?_
          obtain ⟨M18, hq17, h⟩ := bnd h
          refine f_Mod_eatsDish hld  hq17 ?_
          dsimp only [psh]
          obtain ⟨x19, ex19, h⟩ := ltI h
          refine g_iinc (pc1 := 65) (v := x19) (lv' := [(0, .ref 401), (1, .int v1), (2, .int v2), (3, .int v3), (4, .int v4), (5, .int x19), (6, .int v6), (7, .int x7)]) d_Mod_mealsBy_62 rfl 5 rfl (by rw [ex19]; rfl) (by decide) [1, 2, 3, 4, 5, 0, 6, 7] rfl ?_
          refine Wp.loc (lv' := [(0, .ref 401), (1, .int v1), (2, .int v2), (3, .int v3), (4, .int v4), (5, .int x19), (6, .int v6)]) [0, 1, 2, 3, 4, 5, 6] rfl ?_
          exact j_Mod_mealsBy_65 hld  hQ hK10 h
      · replace h := itn h c9
        refine g_iconst (pc1 := 49) (v := (-1)) d_Mod_mealsBy_48 rfl (by decide) ?_
        refine g_ireturn (Or.inl rfl) d_Mod_mealsBy_49 rfl ?_
        cases h; exact hQ
def F_Mod_mealsBy (p1 : Int32) (p2 : Int32) (p3 : Int32) (p4 : Int32) (M : gM) : Option (Int32 × gM) :=
  bI (F_Mod_copies M) (fun M2 => H_Mod_mealsBy_10 p1 p2 p3 p4 FU 0 0 M2)
set_option maxHeartbeats 4000000 in
set_option maxRecDepth 20000 in
theorem f_Mod_mealsBy {l : Launch} {ld : Nat} {M : gM} {L : gL} {Q : Option Value → gM → gL → gR → Prop} (hld : isLa ld) {p1 : Int32} {p2 : Int32} {p3 : Int32} {p4 : Int32}  {q : Int32 × gM} (h : F_Mod_mealsBy p1 p2 p3 p4 M = some q) (hQ : Q (some (.int q.1)) q.2 L (rf ld)) : Tm l y_Mod_mealsBy (0, 0, 447) 447 [.ref 401, .int p1, .int p2, .int p3, .int p4] M L (rf ld) Q := by
  refine Tm.of (by decide) (Nat.le_of_ble_eq_true rfl) ?_
  show Wp l y_Mod_mealsBy (0, 0, 447) 447 0 0 0 [(0, .ref 401), (1, .int p1), (2, .int p2), (3, .int p3), (4, .int p4)] [] M L (rf ld) Q
  unfold F_Mod_mealsBy at h
  refine g_aload_n (pc1 := 1) d_Mod_mealsBy_0 rfl 0 rfl ?_
  refine g_callV0 (pc1 := 4) (As := []) (rest := []) d_Mod_mealsBy_1 rfl mo_Mod_377 mi_Mod_copies mv_Mod_copies rfl sh_401 (by decide) (by decide) rfl rfl (Nat.le_of_ble_eq_true rfl) ?_
  obtain ⟨M2, hq1, h⟩ := bnd h
  refine f_Mod_copies hld  hq1 ?_
  dsimp only [psh]
  refine g_iconst (pc1 := 5) (v := 0) d_Mod_mealsBy_4 rfl (by decide) ?_
  refine g_istore (pc1 := 7) (lv' := [(0, .ref 401), (1, .int p1), (2, .int p2), (3, .int p3), (4, .int p4), (5, .int 0)]) d_Mod_mealsBy_5 rfl (by decide) [1, 2, 3, 4, 5, 0] rfl ?_
  refine g_iconst (pc1 := 8) (v := 0) d_Mod_mealsBy_7 rfl (by decide) ?_
  refine g_istore (pc1 := 10) (lv' := [(0, .ref 401), (1, .int p1), (2, .int p2), (3, .int p3), (4, .int p4), (5, .int 0), (6, .int 0)]) d_Mod_mealsBy_8 rfl (by decide) [1, 2, 3, 4, 5, 6, 0] rfl ?_
  exact h_Mod_mealsBy_10 hld  hQ  _ 0 0 M2 h

