def J_Mod_menu_115 (v2 : Int32) (v4 : Int32) (v5 : Int32) (v6 : Int32) (M : gM) : Option (Int32 × gM) :=
  (if 0 ≤ v5 then (if v4 = (-1) then some (v6, M) else bI (F_Mod_sixes ((v2 - 1) - v4)) (fun q19 => (if q19 = 0 then none else nmI (((v5 / q19) - (v5 / q19) / 6 * 6) - 1) (fun x22 => (if 0 ≤ x22 then some (x22, M) else some ((-2), M)))))) else (if v4 = (-1) then some ((-2), M) else some ((-3), M)))
set_option maxHeartbeats 4000000 in
set_option maxRecDepth 20000 in
theorem j_Mod_menu_115 {l : Launch} {ld : Nat} {Q : Option Value → gM → gL → gR → Prop} (hld : isLa ld)   {q : Int32 × gM} {M : gM} {L : gL} (hQ : Q (some (.int q.1)) q.2 L (rf ld))  {v2 : Int32} {v4 : Int32} {v5 : Int32} {v6 : Int32}  (h : J_Mod_menu_115 v2 v4 v5 v6 M = some q) : Wp l y_Mod_menu (0, 0, 447) 447 0 0 115 [(2, .int v2), (4, .int v4), (5, .int v5), (6, .int v6)] [] M L (rf ld) Q := by
  unfold J_Mod_menu_115 at h
  refine g_iload (pc1 := 117) d_Mod_menu_115 rfl 2 rfl ?_
  refine g_if_ge (pc1 := 120) (tgt := 134) d_Mod_menu_117 (by decide) rfl (fun c17 => ?_) (fun c17 => ?_)
  · replace h := itp h c17
    refine g_iload (pc1 := 136) d_Mod_menu_134 rfl 1 rfl ?_
    refine g_iconst (pc1 := 137) (v := (-1)) d_Mod_menu_136 rfl (by decide) ?_
    refine g_icmp_ne (pc1 := 140) (tgt := 143) d_Mod_menu_137 (by decide) rfl (fun c18 => ?_) (fun c18 => ?_)
    · replace h := itn h c18
      refine g_iload (pc1 := 145) d_Mod_menu_143 rfl 2 rfl ?_
      refine g_iload_n (pc1 := 146) d_Mod_menu_145 rfl 0 rfl ?_
      refine g_iconst (pc1 := 147) (v := 1) d_Mod_menu_146 rfl (by decide) ?_
      refine g_isub (pc1 := 148) d_Mod_menu_147 rfl ?_
      refine g_iload (pc1 := 150) d_Mod_menu_148 rfl 1 rfl ?_
      refine g_isub (pc1 := 151) d_Mod_menu_150 rfl ?_
      refine g_callS0 (pc1 := 154) (As := [.int ((v2 - 1) - v4)]) (rest := [.int v5]) d_Mod_menu_151 rfl mo_Mod_440 ms_Mod_sixes (by decide) rfl rfl (Nat.le_of_ble_eq_true rfl) ?_
      obtain ⟨q19, hq20, h⟩ := bnd h
      refine f_Mod_sixes hld  hq20 ?_
      dsimp only [psh]
      obtain ⟨g21, h⟩ := gdn h
      refine g_idiv (pc1 := 155) d_Mod_menu_154 rfl g21 ?_
      refine g_bipush (pc1 := 157) (v := 6) d_Mod_menu_155 rfl (by decide) ?_
      refine g_irem (pc1 := 158) d_Mod_menu_157 rfl (by decide) ?_
      refine g_iconst (pc1 := 159) (v := 1) d_Mod_menu_158 rfl (by decide) ?_
      refine g_isub (pc1 := 160) d_Mod_menu_159 rfl ?_
      refine Wp.lI h (fun x22 h => ?_)
      refine g_istore (pc1 := 162) (lv' := [(2, .int v2), (4, .int v4), (5, .int v5), (6, .int v6), (7, .int x22)]) d_Mod_menu_160 rfl (by decide) [1, 2, 3, 4, 0] rfl ?_
      refine g_iload (pc1 := 164) d_Mod_menu_162 rfl 4 rfl ?_
      refine g_if_ge (pc1 := 167) (tgt := 172) d_Mod_menu_164 (by decide) rfl (fun c23 => ?_) (fun c23 => ?_)
      · replace h := itp h c23
        refine g_iload (pc1 := 174) d_Mod_menu_172 rfl 4 rfl ?_
        refine g_ireturn (Or.inl rfl) d_Mod_menu_174 rfl ?_
        cases h; exact hQ
      · replace h := itn h c23
        refine g_bipush (pc1 := 169) (v := (-2)) d_Mod_menu_167 rfl (by decide) ?_
        refine g_goto (tgt := 174) d_Mod_menu_169 (by decide) ?_
        refine g_ireturn (Or.inl rfl) d_Mod_menu_174 rfl ?_
        cases h; exact hQ
    · replace h := itp h c18
      refine g_iload (pc1 := 142) d_Mod_menu_140 rfl 3 rfl ?_
      refine g_ireturn (Or.inl rfl) d_Mod_menu_142 rfl ?_
      cases h; exact hQ
  · replace h := itn h c17
    refine g_iload (pc1 := 122) d_Mod_menu_120 rfl 1 rfl ?_
    refine g_iconst (pc1 := 123) (v := (-1)) d_Mod_menu_122 rfl (by decide) ?_
    refine g_icmp_ne (pc1 := 126) (tgt := 131) d_Mod_menu_123 (by decide) rfl (fun c24 => ?_) (fun c24 => ?_)
    · replace h := itn h c24
      refine g_bipush (pc1 := 133) (v := (-3)) d_Mod_menu_131 rfl (by decide) ?_
      refine g_ireturn (Or.inl rfl) d_Mod_menu_133 rfl ?_
      cases h; exact hQ
    · replace h := itp h c24
      refine g_bipush (pc1 := 128) (v := (-2)) d_Mod_menu_126 rfl (by decide) ?_
      refine g_goto (tgt := 133) d_Mod_menu_128 (by decide) ?_
      refine g_ireturn (Or.inl rfl) d_Mod_menu_133 rfl ?_
      cases h; exact hQ
def J_Mod_menu_109 (K61 : Int32 → Int32 → Int32 → gM → Option (Int32 × gM)) (v1 : Int32) (v2 : Int32) (v3 : Int32) (v4 : Int32) (v5 : Int32) (v6 : Int32) (v7 : Int32) (M : gM) : Option (Int32 × gM) :=
  nmI (v7 + 1) (fun x28 => K61 v5 v6 x28 M)
set_option maxHeartbeats 4000000 in
set_option maxRecDepth 20000 in
theorem j_Mod_menu_109 {l : Launch} {ld : Nat} {Q : Option Value → gM → gL → gR → Prop} (hld : isLa ld)   {q : Int32 × gM} {M : gM} {L : gL} (hQ : Q (some (.int q.1)) q.2 L (rf ld)) {K61 : Int32 → Int32 → Int32 → gM → Option (Int32 × gM)} {v1 : Int32} {v2 : Int32} {v3 : Int32} {v4 : Int32} {v5 : Int32} {v6 : Int32} {v7 : Int32} (hK61 : ∀ (w5 : Int32) (w6 : Int32) (w7 : Int32) (M : gM), K61 w5 w6 w7 M = some q → Wp l y_Mod_menu (0, 0, 447) 447 0 0 61 [(0, .ref 401), (1, .int v1), (2, .int v2), (3, .int v3), (4, .int v4), (5, .int w5), (6, .int w6), (7, .int w7)] [] M L (rf ld) Q) (h : J_Mod_menu_109 K61 v1 v2 v3 v4 v5 v6 v7 M = some q) : Wp l y_Mod_menu (0, 0, 447) 447 0 0 109 [(0, .ref 401), (1, .int v1), (2, .int v2), (3, .int v3), (4, .int v4), (5, .int v5), (6, .int v6), (7, .int v7)] [] M L (rf ld) Q := by
  unfold J_Mod_menu_109 at h
  obtain ⟨x28, ex28, h⟩ := ltI h
  refine g_iinc (pc1 := 112) (v := x28) (lv' := [(0, .ref 401), (1, .int v1), (2, .int v2), (3, .int v3), (4, .int v4), (5, .int v5), (6, .int v6), (7, .int x28)]) d_Mod_menu_109 rfl 7 rfl (by rw [ex28]; rfl) (by decide) [1, 2, 3, 4, 5, 6, 7, 0] rfl ?_
  refine g_goto (tgt := 61) d_Mod_menu_112 (by decide) ?_
  exact hK61 v5 v6 x28 M h
def J_Mod_menu_101 (K61 : Int32 → Int32 → Int32 → gM → Option (Int32 × gM)) (v1 : Int32) (v2 : Int32) (v3 : Int32) (v4 : Int32) (v7 : Int32) (v8 : Int32) (M : gM) : Option (Int32 × gM) :=
  J_Mod_menu_109 K61 v1 v2 v3 v4 v7 v8 v7 M
set_option maxHeartbeats 4000000 in
set_option maxRecDepth 20000 in
theorem j_Mod_menu_101 {l : Launch} {ld : Nat} {Q : Option Value → gM → gL → gR → Prop} (hld : isLa ld)   {q : Int32 × gM} {M : gM} {L : gL} (hQ : Q (some (.int q.1)) q.2 L (rf ld)) {K61 : Int32 → Int32 → Int32 → gM → Option (Int32 × gM)} {v1 : Int32} {v2 : Int32} {v3 : Int32} {v4 : Int32} {v7 : Int32} {v8 : Int32} (hK61 : ∀ (w5 : Int32) (w6 : Int32) (w7 : Int32) (M : gM), K61 w5 w6 w7 M = some q → Wp l y_Mod_menu (0, 0, 447) 447 0 0 61 [(0, .ref 401), (1, .int v1), (2, .int v2), (3, .int v3), (4, .int v4), (5, .int w5), (6, .int w6), (7, .int w7)] [] M L (rf ld) Q) (h : J_Mod_menu_101 K61 v1 v2 v3 v4 v7 v8 M = some q) : Wp l y_Mod_menu (0, 0, 447) 447 0 0 101 [(0, .ref 401), (1, .int v1), (2, .int v2), (3, .int v3), (4, .int v4), (7, .int v7), (8, .int v8)] [] M L (rf ld) Q := by
  unfold J_Mod_menu_101 at h
  refine g_iload (pc1 := 103) d_Mod_menu_101 rfl 5 rfl ?_
  refine g_istore (pc1 := 105) (lv' := [(0, .ref 401), (1, .int v1), (2, .int v2), (3, .int v3), (4, .int v4), (5, .int v7), (7, .int v7), (8, .int v8)]) d_Mod_menu_103 rfl (by decide) [1, 2, 3, 4, 5, 0, 6, 7] rfl ?_
  refine g_iload (pc1 := 107) d_Mod_menu_105 rfl 7 rfl ?_
  refine g_istore (pc1 := 109) (lv' := [(0, .ref 401), (1, .int v1), (2, .int v2), (3, .int v3), (4, .int v4), (5, .int v7), (6, .int v8), (7, .int v7), (8, .int v8)]) d_Mod_menu_107 rfl (by decide) [1, 2, 3, 4, 5, 6, 0, 7, 8] rfl ?_
  refine Wp.loc (lv' := [(0, .ref 401), (1, .int v1), (2, .int v2), (3, .int v3), (4, .int v4), (5, .int v7), (6, .int v8), (7, .int v7)]) [0, 1, 2, 3, 4, 5, 6, 7] rfl ?_
  exact j_Mod_menu_109 hld  hQ hK61 h
def B_Mod_menu_61 (v1 : Int32) (v2 : Int32) (v3 : Int32) (v4 : Int32) (K61 : Int32 → Int32 → Int32 → gM → Option (Int32 × gM)) : Int32 → Int32 → Int32 → gM → Option (Int32 × gM) := fun v5 v6 v7 M =>
  bI (F_Mod_sixes v2) (fun q14 => (if q14 ≤ v7 then J_Mod_menu_115 v2 v4 v5 v6 M else bI (F_Mod_mealsBy v7 v1 v2 v3 M) (fun q25 => (if q25.1 < 0 then J_Mod_menu_109 K61 v1 v2 v3 v4 v5 v6 v7 q25.2 else (if v5 < 0 then J_Mod_menu_101 K61 v1 v2 v3 v4 v7 q25.1 q25.2 else (if q25.1 < v6 then J_Mod_menu_101 K61 v1 v2 v3 v4 v7 q25.1 q25.2 else J_Mod_menu_109 K61 v1 v2 v3 v4 v5 v6 v7 q25.2))))))
def H_Mod_menu_61 (v1 : Int32) (v2 : Int32) (v3 : Int32) (v4 : Int32) : Nat → Int32 → Int32 → Int32 → gM → Option (Int32 × gM) := lpK (B_Mod_menu_61 v1 v2 v3 v4) (fun _ _ _ _ => none)
set_option maxHeartbeats 4000000 in
set_option maxRecDepth 20000 in
theorem h_Mod_menu_61 {l : Launch} {ld : Nat} {Q : Option Value → gM → gL → gR → Prop} (hld : isLa ld)   {q : Int32 × gM} {L : gL} (hQ : Q (some (.int q.1)) q.2 L (rf ld))  {v1 : Int32} {v2 : Int32} {v3 : Int32} {v4 : Int32}  : ∀ (f : Nat) (v5 : Int32) (v6 : Int32) (v7 : Int32) (M : gM), H_Mod_menu_61 v1 v2 v3 v4 f v5 v6 v7 M = some q → Wp l y_Mod_menu (0, 0, 447) 447 0 0 61 [(0, .ref 401), (1, .int v1), (2, .int v2), (3, .int v3), (4, .int v4), (5, .int v5), (6, .int v6), (7, .int v7)] [] M L (rf ld) Q := by
  intro f
  induction f with
  | zero => intro v5 v6 v7 M h; cases h
  | succ f hK61 =>
    intro v5 v6 v7 M h
    replace h : B_Mod_menu_61 v1 v2 v3 v4 (H_Mod_menu_61 v1 v2 v3 v4 f) v5 v6 v7 M = some q := h
    unfold B_Mod_menu_61 at h
    refine g_iload (pc1 := 63) d_Mod_menu_61 rfl 7 rfl ?_
    refine g_iload_n (pc1 := 64) d_Mod_menu_63 rfl 2 rfl ?_
    refine g_callS0 (pc1 := 67) (As := [.int v2]) (rest := [.int v7]) d_Mod_menu_64 rfl mo_Mod_440 ms_Mod_sixes (by decide) rfl rfl (Nat.le_of_ble_eq_true rfl) ?_
    obtain ⟨q14, hq15, h⟩ := bnd h
    refine f_Mod_sixes hld  hq15 ?_
    dsimp only [psh]
    refine g_icmp_ge (pc1 := 70) (tgt := 115) d_Mod_menu_67 (by decide) rfl (fun c16 => ?_) (fun c16 => ?_)
    · replace h := itp h c16
      refine Wp.loc (lv' := [(2, .int v2), (4, .int v4), (5, .int v5), (6, .int v6)]) [2, 4, 5, 6] rfl ?_
      exact j_Mod_menu_115 hld  hQ  h
    · replace h := itn h c16
      refine g_aload_n (pc1 := 71) d_Mod_menu_70 rfl 0 rfl ?_
      refine g_iload (pc1 := 73) d_Mod_menu_71 rfl 7 rfl ?_
      refine g_iload_n (pc1 := 74) d_Mod_menu_73 rfl 1 rfl ?_
      refine g_iload_n (pc1 := 75) d_Mod_menu_74 rfl 2 rfl ?_
      refine g_iload_n (pc1 := 76) d_Mod_menu_75 rfl 3 rfl ?_
      refine g_callV0 (pc1 := 79) (As := [.int v7, .int v1, .int v2, .int v3]) (rest := []) d_Mod_menu_76 rfl mo_Mod_443 mi_Mod_mealsBy mv_Mod_mealsBy rfl sh_401 (by decide) (by decide) rfl rfl (Nat.le_of_ble_eq_true rfl) ?_
      obtain ⟨q25, hq26, h⟩ := bnd h
      refine f_Mod_mealsBy hld  hq26 ?_
      dsimp only [psh]
      refine g_istore (pc1 := 81) (lv' := [(0, .ref 401), (1, .int v1), (2, .int v2), (3, .int v3), (4, .int v4), (5, .int v5), (6, .int v6), (7, .int v7), (8, .int q25.1)]) d_Mod_menu_79 rfl (by decide) [1, 2, 3, 4, 5, 6, 7, 8, 0] rfl ?_
      refine g_iload (pc1 := 83) d_Mod_menu_81 rfl 8 rfl ?_
      refine g_if_lt (pc1 := 86) (tgt := 109) d_Mod_menu_83 (by decide) rfl (fun c27 => ?_) (fun c27 => ?_)
      · replace h := itp h c27
        refine Wp.loc (lv' := [(0, .ref 401), (1, .int v1), (2, .int v2), (3, .int v3), (4, .int v4), (5, .int v5), (6, .int v6), (7, .int v7)]) [0, 1, 2, 3, 4, 5, 6, 7] rfl ?_
        exact j_Mod_menu_109 hld  hQ hK61 h
      · replace h := itn h c27
        refine g_iload (pc1 := 88) d_Mod_menu_86 rfl 5 rfl ?_
        refine g_if_lt (pc1 := 91) (tgt := 101) d_Mod_menu_88 (by decide) rfl (fun c29 => ?_) (fun c29 => ?_)
        · replace h := itp h c29
          refine Wp.loc (lv' := [(0, .ref 401), (1, .int v1), (2, .int v2), (3, .int v3), (4, .int v4), (7, .int v7), (8, .int q25.1)]) [0, 1, 2, 3, 4, 7, 8] rfl ?_
          exact j_Mod_menu_101 hld  hQ hK61 h
        · replace h := itn h c29
          refine g_iload (pc1 := 93) d_Mod_menu_91 rfl 8 rfl ?_
          refine g_iload (pc1 := 95) d_Mod_menu_93 rfl 6 rfl ?_
          refine g_icmp_lt (pc1 := 98) (tgt := 101) d_Mod_menu_95 (by decide) rfl (fun c30 => ?_) (fun c30 => ?_)
          · replace h := itp h c30
            refine Wp.loc (lv' := [(0, .ref 401), (1, .int v1), (2, .int v2), (3, .int v3), (4, .int v4), (7, .int v7), (8, .int q25.1)]) [0, 1, 2, 3, 4, 7, 8] rfl ?_
            exact j_Mod_menu_101 hld  hQ hK61 h
          · replace h := itn h c30
            refine g_goto (tgt := 109) d_Mod_menu_98 (by decide) ?_
            refine Wp.loc (lv' := [(0, .ref 401), (1, .int v1), (2, .int v2), (3, .int v3), (4, .int v4), (5, .int v5), (6, .int v6), (7, .int v7)]) [0, 1, 2, 3, 4, 5, 6, 7] rfl ?_
            exact j_Mod_menu_109 hld  hQ hK61 h
def F_Mod_menu (p1 : Int32) (p2 : Int32) (p3 : Int32) (p4 : Int32) (M : gM) : Option (Int32 × gM) :=
  bI (F_Mod_isGuest p1 M) (fun q1 => (if q1 = 0 then some ((-1), M) else bI (F_Mod_in p2 1 4) (fun q4 => (if q4 = 0 then some ((-1), M) else (if ((M 401 18) : Int32) < 0 ∨ 2 ≤ ((M 401 18) : Int32).toNatClampNeg then none else bI (F_Mod_in p3 0 ((1 <<< ((M 420 ((M 401 18) : Int32).toNatClampNeg) &&& 31)) - 1)) (fun q8 => (if q8 = 0 then some ((-1), M) else bI (F_Mod_in p4 (-1) (p2 - 1)) (fun q11 => (if q11 = 0 then some ((-1), M) else H_Mod_menu_61 p1 p2 p3 p4 FU (-1) 0 0 M)))))))))
set_option maxHeartbeats 4000000 in
set_option maxRecDepth 20000 in
theorem f_Mod_menu {l : Launch} {ld : Nat} {M : gM} {L : gL} {Q : Option Value → gM → gL → gR → Prop} (hld : isLa ld) {p1 : Int32} {p2 : Int32} {p3 : Int32} {p4 : Int32}  {q : Int32 × gM} (h : F_Mod_menu p1 p2 p3 p4 M = some q) (hQ : Q (some (.int q.1)) q.2 L (rf ld)) : Tm l y_Mod_menu (0, 0, 447) 447 [.ref 401, .int p1, .int p2, .int p3, .int p4] M L (rf ld) Q := by
  refine Tm.of (by decide) (Nat.le_of_ble_eq_true rfl) ?_
  show Wp l y_Mod_menu (0, 0, 447) 447 0 0 0 [(0, .ref 401), (1, .int p1), (2, .int p2), (3, .int p3), (4, .int p4)] [] M L (rf ld) Q
  unfold F_Mod_menu at h
  refine g_aload_n (pc1 := 1) d_Mod_menu_0 rfl 0 rfl ?_
  refine g_iload_n (pc1 := 2) d_Mod_menu_1 rfl 1 rfl ?_
  refine g_callV0 (pc1 := 5) (As := [.int p1]) (rest := []) d_Mod_menu_2 rfl mo_Mod_380 mi_Mod_isGuest mv_Mod_isGuest rfl sh_401 (by decide) (by decide) rfl rfl (Nat.le_of_ble_eq_true rfl) ?_
  obtain ⟨q1, hq2, h⟩ := bnd h
  refine f_Mod_isGuest hld  hq2 ?_
  dsimp only [psh]
  refine g_if_eq (pc1 := 8) (tgt := 50) d_Mod_menu_5 (by decide) rfl (fun c3 => ?_) (fun c3 => ?_)
  · replace h := itp h c3
    refine g_iconst (pc1 := 51) (v := (-1)) d_Mod_menu_50 rfl (by decide) ?_
    refine g_ireturn (Or.inl rfl) d_Mod_menu_51 rfl ?_
    cases h; exact hQ
  · replace h := itn h c3
    refine g_iload_n (pc1 := 9) d_Mod_menu_8 rfl 2 rfl ?_
    refine g_iconst (pc1 := 10) (v := 1) d_Mod_menu_9 rfl (by decide) ?_
    refine g_iconst (pc1 := 11) (v := 4) d_Mod_menu_10 rfl (by decide) ?_
    refine g_callS0 (pc1 := 14) (As := [.int p2, .int 1, .int 4]) (rest := []) d_Mod_menu_11 rfl mo_Mod_316 ms_Mod_in (by decide) rfl rfl (Nat.le_of_ble_eq_true rfl) ?_
    obtain ⟨q4, hq5, h⟩ := bnd h
    refine f_Mod_in hld  hq5 ?_
    dsimp only [psh]
    refine g_if_eq (pc1 := 17) (tgt := 50) d_Mod_menu_14 (by decide) rfl (fun c6 => ?_) (fun c6 => ?_)
    · replace h := itp h c6
      refine g_iconst (pc1 := 51) (v := (-1)) d_Mod_menu_50 rfl (by decide) ?_
      refine g_ireturn (Or.inl rfl) d_Mod_menu_51 rfl ?_
      cases h; exact hQ
    · replace h := itn h c6
      refine g_iload_n (pc1 := 18) d_Mod_menu_17 rfl 3 rfl ?_
      refine g_iconst (pc1 := 19) (v := 0) d_Mod_menu_18 rfl (by decide) ?_
      refine g_iconst (pc1 := 20) (v := 1) d_Mod_menu_19 rfl (by decide) ?_
      refine g_aload_n (pc1 := 21) d_Mod_menu_20 rfl 0 rfl ?_
      refine g_getr (pc1 := 24) d_Mod_menu_21 rfl ⟨_, fo_Mod_73⟩ sh_401 (by decide) (rf_401_32 ld) ?_
      refine g_aload_n (pc1 := 25) d_Mod_menu_24 rfl 0 rfl ?_
      refine g_geti (pc1 := 28) d_Mod_menu_25 rfl ⟨_, fo_Mod_236⟩ sh_401 (by decide) ?_
      obtain ⟨g7, h⟩ := gdn h
      refine g_iald (pc1 := 29) d_Mod_menu_28 rfl sh_420 (by decide) g7 ?_
      refine g_ishl (pc1 := 30) d_Mod_menu_29 rfl ?_
      refine g_iconst (pc1 := 31) (v := 1) d_Mod_menu_30 rfl (by decide) ?_
      refine g_isub (pc1 := 32) d_Mod_menu_31 rfl ?_
      refine g_callS0 (pc1 := 35) (As := [.int p3, .int 0, .int ((1 <<< ((M 420 ((M 401 18) : Int32).toNatClampNeg) &&& 31)) - 1)]) (rest := []) d_Mod_menu_32 rfl mo_Mod_316 ms_Mod_in (by decide) rfl rfl (Nat.le_of_ble_eq_true rfl) ?_
      obtain ⟨q8, hq9, h⟩ := bnd h
      refine f_Mod_in hld  hq9 ?_
      dsimp only [psh]
      refine g_if_eq (pc1 := 38) (tgt := 50) d_Mod_menu_35 (by decide) rfl (fun c10 => ?_) (fun c10 => ?_)
      · replace h := itp h c10
        refine g_iconst (pc1 := 51) (v := (-1)) d_Mod_menu_50 rfl (by decide) ?_
        refine g_ireturn (Or.inl rfl) d_Mod_menu_51 rfl ?_
        cases h; exact hQ
      · replace h := itn h c10
        refine g_iload (pc1 := 40) d_Mod_menu_38 rfl 4 rfl ?_
        refine g_iconst (pc1 := 41) (v := (-1)) d_Mod_menu_40 rfl (by decide) ?_
        refine g_iload_n (pc1 := 42) d_Mod_menu_41 rfl 2 rfl ?_
        refine g_iconst (pc1 := 43) (v := 1) d_Mod_menu_42 rfl (by decide) ?_
        refine g_isub (pc1 := 44) d_Mod_menu_43 rfl ?_
        refine g_callS0 (pc1 := 47) (As := [.int p4, .int (-1), .int (p2 - 1)]) (rest := []) d_Mod_menu_44 rfl mo_Mod_316 ms_Mod_in (by decide) rfl rfl (Nat.le_of_ble_eq_true rfl) ?_
        obtain ⟨q11, hq12, h⟩ := bnd h
        refine f_Mod_in hld  hq12 ?_
        dsimp only [psh]
        refine g_if_ne (pc1 := 50) (tgt := 52) d_Mod_menu_47 (by decide) rfl (fun c13 => ?_) (fun c13 => ?_)
        · replace h := itn h c13
          refine g_iconst (pc1 := 53) (v := (-1)) d_Mod_menu_52 rfl (by decide) ?_
          refine g_istore (pc1 := 55) (lv' := [(0, .ref 401), (1, .int p1), (2, .int p2), (3, .int p3), (4, .int p4), (5, .int (-1))]) d_Mod_menu_53 rfl (by decide) [1, 2, 3, 4, 5, 0] rfl ?_
          refine g_iconst (pc1 := 56) (v := 0) d_Mod_menu_55 rfl (by decide) ?_
          refine g_istore (pc1 := 58) (lv' := [(0, .ref 401), (1, .int p1), (2, .int p2), (3, .int p3), (4, .int p4), (5, .int (-1)), (6, .int 0)]) d_Mod_menu_56 rfl (by decide) [1, 2, 3, 4, 5, 6, 0] rfl ?_
          refine g_iconst (pc1 := 59) (v := 0) d_Mod_menu_58 rfl (by decide) ?_
          refine g_istore (pc1 := 61) (lv' := [(0, .ref 401), (1, .int p1), (2, .int p2), (3, .int p3), (4, .int p4), (5, .int (-1)), (6, .int 0), (7, .int 0)]) d_Mod_menu_59 rfl (by decide) [1, 2, 3, 4, 5, 6, 7, 0] rfl ?_
          exact h_Mod_menu_61 hld  hQ  _ (-1) 0 0 M h
        · replace h := itp h c13
          refine g_iconst (pc1 := 51) (v := (-1)) d_Mod_menu_50 rfl (by decide) ?_
          refine g_ireturn (Or.inl rfl) d_Mod_menu_51 rfl ?_
          cases h; exact hQ

def B_Mod_supper_4  (K4 : Int32 → Int32 → gM → Option (Int32 × gM)) : Int32 → Int32 → gM → Option (Int32 × gM) := fun v1 v2 M =>
  (if ((M 401 18) : Int32) < 0 ∨ 2 ≤ ((M 401 18) : Int32).toNatClampNeg then none else (if (M 418 ((M 401 18) : Int32).toNatClampNeg) ≤ v2 then some (v1, M) else (if ((M 401 18) : Int32) < 0 ∨ 2 ≤ ((M 401 18) : Int32).toNatClampNeg then none else (if (M 415 ((M 401 18) : Int32).toNatClampNeg) ≤ 0 then some (v1, M) else bI (F_Mod_freestOf v2 M) (fun q5 => nmI (v1 + (q5.2 401 63)) (fun x7 => nmI (v2 + 1) (fun x8 => K4 x7 x8 q5.2)))))))
def H_Mod_supper_4  : Nat → Int32 → Int32 → gM → Option (Int32 × gM) := lpK (B_Mod_supper_4 ) (fun _ _ _ => none)
set_option maxHeartbeats 4000000 in
set_option maxRecDepth 20000 in
theorem h_Mod_supper_4 {l : Launch} {ld : Nat} {Q : Option Value → gM → gL → gR → Prop} (hld : isLa ld)   {q : Int32 × gM} {L : gL} (hQ : Q (some (.int q.1)) q.2 L (rf ld))    : ∀ (f : Nat) (v1 : Int32) (v2 : Int32) (M : gM), H_Mod_supper_4  f v1 v2 M = some q → Wp l y_Mod_supper (0, 0, 447) 447 0 0 4 [(0, .ref 401), (1, .int v1), (2, .int v2)] [] M L (rf ld) Q := by
  intro f
  induction f with
  | zero => intro v1 v2 M h; cases h
  | succ f hK4 =>
    intro v1 v2 M h
    replace h : B_Mod_supper_4  (H_Mod_supper_4  f) v1 v2 M = some q := h
    unfold B_Mod_supper_4 at h
    refine g_iload_n (pc1 := 5) d_Mod_supper_4 rfl 2 rfl ?_
    refine g_aload_n (pc1 := 6) d_Mod_supper_5 rfl 0 rfl ?_
    refine g_getr (pc1 := 9) d_Mod_supper_6 rfl ⟨_, fo_Mod_67⟩ sh_401 (by decide) (rf_401_30 ld) ?_
    refine g_aload_n (pc1 := 10) d_Mod_supper_9 rfl 0 rfl ?_
    refine g_geti (pc1 := 13) d_Mod_supper_10 rfl ⟨_, fo_Mod_236⟩ sh_401 (by decide) ?_
    obtain ⟨g1, h⟩ := gdn h
    refine g_iald (pc1 := 14) d_Mod_supper_13 rfl sh_418 (by decide) g1 ?_
    refine g_icmp_ge (pc1 := 17) (tgt := 48) d_Mod_supper_14 (by decide) rfl (fun c2 => ?_) (fun c2 => ?_)
    · replace h := itp h c2
      refine g_iload_n (pc1 := 49) d_Mod_supper_48 rfl 1 rfl ?_
      refine g_ireturn (Or.inl rfl) d_Mod_supper_49 rfl ?_
      cases h; exact hQ
    · replace h := itn h c2
      refine g_aload_n (pc1 := 18) d_Mod_supper_17 rfl 0 rfl ?_
      refine g_getr (pc1 := 21) d_Mod_supper_18 rfl ⟨_, fo_Mod_58⟩ sh_401 (by decide) (rf_401_27 ld) ?_
      refine g_aload_n (pc1 := 22) d_Mod_supper_21 rfl 0 rfl ?_
      refine g_geti (pc1 := 25) d_Mod_supper_22 rfl ⟨_, fo_Mod_236⟩ sh_401 (by decide) ?_
      obtain ⟨g3, h⟩ := gdn h
      refine g_iald (pc1 := 26) d_Mod_supper_25 rfl sh_415 (by decide) g3 ?_
      refine g_if_le (pc1 := 29) (tgt := 48) d_Mod_supper_26 (by decide) rfl (fun c4 => ?_) (fun c4 => ?_)
      · replace h := itp h c4
        refine g_iload_n (pc1 := 49) d_Mod_supper_48 rfl 1 rfl ?_
        refine g_ireturn (Or.inl rfl) d_Mod_supper_49 rfl ?_
        cases h; exact hQ
      · replace h := itn h c4
        refine g_aload_n (pc1 := 30) d_Mod_supper_29 rfl 0 rfl ?_
        refine g_iload_n (pc1 := 31) d_Mod_supper_30 rfl 2 rfl ?_
        refine g_callV0 (pc1 := 34) (As := [.int v2]) (rest := []) d_Mod_supper_31 rfl mo_Mod_437 mi_Mod_freestOf mv_Mod_freestOf rfl sh_401 (by decide) (by decide) rfl rfl (Nat.le_of_ble_eq_true rfl) ?_
        obtain ⟨q5, hq6, h⟩ := bnd h
        refine f_Mod_freestOf hld  hq6 ?_
        dsimp only [psh]
        refine g_pop (pc1 := 35) d_Mod_supper_34 rfl rfl ?_
        refine g_iload_n (pc1 := 36) d_Mod_supper_35 rfl 1 rfl ?_
        refine g_aload_n (pc1 := 37) d_Mod_supper_36 rfl 0 rfl ?_
        refine g_geti (pc1 := 40) d_Mod_supper_37 rfl ⟨_, fo_Mod_428⟩ sh_401 (by decide) ?_
        refine g_iadd (pc1 := 41) d_Mod_supper_40 rfl ?_
        refine Wp.lI h (fun x7 h => ?_)
        refine g_istore_n (pc1 := 42) (lv' := [(0, .ref 401), (1, .int x7), (2, .int v2)]) d_Mod_supper_41 rfl rfl (by decide) [1, 0, 2] rfl ?_
        obtain ⟨x8, ex8, h⟩ := ltI h
        refine g_iinc (pc1 := 45) (v := x8) (lv' := [(0, .ref 401), (1, .int x7), (2, .int x8)]) d_Mod_supper_42 rfl 2 rfl (by rw [ex8]; rfl) (by decide) [1, 2, 0] rfl ?_
        refine g_goto (tgt := 4) d_Mod_supper_45 (by decide) ?_
        exact hK4 x7 x8 q5.2 h
def F_Mod_supper (M : gM) : Option (Int32 × gM) :=
  H_Mod_supper_4 FU 0 0 M
set_option maxHeartbeats 4000000 in
set_option maxRecDepth 20000 in
theorem f_Mod_supper {l : Launch} {ld : Nat} {M : gM} {L : gL} {Q : Option Value → gM → gL → gR → Prop} (hld : isLa ld)   {q : Int32 × gM} (h : F_Mod_supper M = some q) (hQ : Q (some (.int q.1)) q.2 L (rf ld)) : Tm l y_Mod_supper (0, 0, 447) 447 [.ref 401] M L (rf ld) Q := by
  refine Tm.of (by decide) (Nat.le_of_ble_eq_true rfl) ?_
  show Wp l y_Mod_supper (0, 0, 447) 447 0 0 0 [(0, .ref 401)] [] M L (rf ld) Q
  unfold F_Mod_supper at h
  refine g_iconst (pc1 := 1) (v := 0) d_Mod_supper_0 rfl (by decide) ?_
  refine g_istore_n (pc1 := 2) (lv' := [(0, .ref 401), (1, .int 0)]) d_Mod_supper_1 rfl rfl (by decide) [1, 0] rfl ?_
  refine g_iconst (pc1 := 3) (v := 0) d_Mod_supper_2 rfl (by decide) ?_
  refine g_istore_n (pc1 := 4) (lv' := [(0, .ref 401), (1, .int 0), (2, .int 0)]) d_Mod_supper_3 rfl rfl (by decide) [1, 2, 0] rfl ?_
  exact h_Mod_supper_4 hld  hQ  _ 0 0 M h

