section MG17x0
/-! calls whose answers are not compared here -/
section PAR41
theorem v_pot {q ld : Nat} {M : gM} {L : gL} (h : G1 q ld M L) (hq : q < 512) (a b c d : Int32) : ∃ r M1 r' M2, F_Main_pot ld a b c d M = some (r, M1) ∧ F_Mod_pot a b c d M1 = some (r', M2) ∧ G1 (q + 1) ld M2 L := by
  obtain ⟨r, M1, e1, -, k1⟩ := tf_Main_pot (p1 := a) (p2 := b) (p3 := c) (p4 := d) (M := M) h.1.la
  have g1 := h.1.kC1 k1
  obtain ⟨r', M2, e2, -, k2⟩ := tf_Mod_pot (p0 := a) (p1 := b) (p2 := c) (p3 := d) g1.inv
  exact ⟨r, M1, r', M2, e1, e2, h.q2 (g1.kM1 k2) k1 k2⟩
theorem v_menu {q ld : Nat} {M : gM} {L : gL} (h : G1 q ld M L) (hq : q < 512) (a b c d : Int32) : ∃ r M1 r' M2, F_Main_menu ld a b c d M = some (r, M1) ∧ F_Mod_menu a b c d M1 = some (r', M2) ∧ G1 (q + 1) ld M2 L := by
  obtain ⟨r, M1, e1, -, k1⟩ := tf_Main_menu (p1 := a) (p2 := b) (p3 := c) (p4 := d) (M := M) h.1.la
  have g1 := h.1.kC1 k1
  obtain ⟨r', M2, e2, -, k2⟩ := tf_Mod_menu (p0 := a) (p1 := b) (p2 := c) (p3 := d) g1.inv
  exact ⟨r, M1, r', M2, e1, e2, h.q2 (g1.kM1 k2) k1 k2⟩
theorem v_often {q ld : Nat} {M : gM} {L : gL} (h : G1 q ld M L) (hq : q < 512) (a : Int32) : ∃ r M1 r' M2, F_Main_often ld a M = some (r, M1) ∧ F_Mod_often a M1 = some (r', M2) ∧ G1 (q + 1) ld M2 L := by
  obtain ⟨r, M1, e1, -, k1⟩ := tf_Main_often (p1 := a) (M := M) h.1.la
  have g1 := h.1.kC1 k1
  obtain ⟨r', M2, e2, -, k2⟩ := tf_Mod_often (p0 := a) g1.inv
  exact ⟨r, M1, r', M2, e1, e2, h.q2 (g1.kM1 k2) k1 k2⟩
theorem v_taste {q ld : Nat} {M : gM} {L : gL} (h : G1 q ld M L) (hq : q < 512) (a : Int32) : ∃ r M1 r' M2, F_Main_taste ld a M = some (r, M1) ∧ F_Mod_taste a M1 = some (r', M2) ∧ G1 (q + 1) ld M2 L := by
  obtain ⟨r, M1, e1, -, k1⟩ := tf_Main_taste (p1 := a) (M := M) h.1.la
  have g1 := h.1.kC1 k1
  obtain ⟨r', M2, e2, -, k2⟩ := tf_Mod_taste (p0 := a) g1.inv
  exact ⟨r, M1, r', M2, e1, e2, h.q2 (g1.kM1 k2) k1 k2⟩
end PAR41
end MG17x0
section MG17x1
/-! the law over the calls -/
section PAR99
variable {xs : Nat → Int32} {Lx q ld : Nat} {M : gM} {L : gL} {K : Int32 → gM → gL → Nat → Option Int32}
theorem lt_1 (h : 6 * q + 6 ≤ Lx) (hL : Lx ≤ 3072) : (nI (6 * q) + 1).toNatClampNeg = 6 * q + 1 := by rw [show (1 : Int32) = nI 1 from rfl, nI_add, nI_clamp (by omega)]
theorem lg_1 (h : 6 * q + 6 ≤ Lx) (hL : Lx ≤ 3072) : ¬ (nI (6 * q) + 1 < 0 ∨ Lx ≤ 6 * q + 1) := by rw [show (1 : Int32) = nI 1 from rfl, nI_add]; exact nI_inc (by omega) (by omega)
theorem lt_2 (h : 6 * q + 6 ≤ Lx) (hL : Lx ≤ 3072) : (nI (6 * q) + 2).toNatClampNeg = 6 * q + 2 := by rw [show (2 : Int32) = nI 2 from rfl, nI_add, nI_clamp (by omega)]
theorem lg_2 (h : 6 * q + 6 ≤ Lx) (hL : Lx ≤ 3072) : ¬ (nI (6 * q) + 2 < 0 ∨ Lx ≤ 6 * q + 2) := by rw [show (2 : Int32) = nI 2 from rfl, nI_add]; exact nI_inc (by omega) (by omega)
theorem lt_3 (h : 6 * q + 6 ≤ Lx) (hL : Lx ≤ 3072) : (nI (6 * q) + 3).toNatClampNeg = 6 * q + 3 := by rw [show (3 : Int32) = nI 3 from rfl, nI_add, nI_clamp (by omega)]
theorem lg_3 (h : 6 * q + 6 ≤ Lx) (hL : Lx ≤ 3072) : ¬ (nI (6 * q) + 3 < 0 ∨ Lx ≤ 6 * q + 3) := by rw [show (3 : Int32) = nI 3 from rfl, nI_add]; exact nI_inc (by omega) (by omega)
theorem lt_4 (h : 6 * q + 6 ≤ Lx) (hL : Lx ≤ 3072) : (nI (6 * q) + 4).toNatClampNeg = 6 * q + 4 := by rw [show (4 : Int32) = nI 4 from rfl, nI_add, nI_clamp (by omega)]
theorem lg_4 (h : 6 * q + 6 ≤ Lx) (hL : Lx ≤ 3072) : ¬ (nI (6 * q) + 4 < 0 ∨ Lx ≤ 6 * q + 4) := by rw [show (4 : Int32) = nI 4 from rfl, nI_add]; exact nI_inc (by omega) (by omega)
theorem lt_5 (h : 6 * q + 6 ≤ Lx) (hL : Lx ≤ 3072) : (nI (6 * q) + 5).toNatClampNeg = 6 * q + 5 := by rw [show (5 : Int32) = nI 5 from rfl, nI_add, nI_clamp (by omega)]
theorem lg_5 (h : 6 * q + 6 ≤ Lx) (hL : Lx ≤ 3072) : ¬ (nI (6 * q) + 5 < 0 ∨ Lx ≤ 6 * q + 5) := by rw [show (5 : Int32) = nI 5 from rfl, nI_add]; exact nI_inc (by omega) (by omega)
theorem lg_6 : nI (6 * q) + 6 = nI (6 * (q + 1)) := by rw [show (6 : Int32) = nI 6 from rfl, nI_add, Nat.mul_add]
theorem kk_0 (h6 : 6 * q + 6 ≤ Lx) (hL : Lx ≤ 3072) (h : G1 q ld M L) (hK : ∀ M L ld, G1 (q + 1) ld M L → K (nI (6 * (q + 1))) M L ld = some 1) : C_law_0 xs Lx K (nI (6 * q)) M L ld = some 1 := by
  have hq : q < 512 := by omega
  unfold C_law_0
  obtain ⟨r, M1, r2, M2, e1, e2, h2, e3⟩ := v_feed h hq (xs (6 * q + 1)) (xs (6 * q + 2)) (xs (6 * q + 3)) (xs (6 * q + 4)) (xs (6 * q + 5))
  rw [lt_1 h6 hL, lt_2 h6 hL, lt_3 h6 hL, lt_4 h6 hL, lt_5 h6 hL, if_neg (lg_1 h6 hL), if_neg (lg_2 h6 hL), if_neg (lg_3 h6 hL), if_neg (lg_4 h6 hL), if_neg (lg_5 h6 hL), e1, bI2_s, if_neg (lg_1 h6 hL), if_neg (lg_2 h6 hL), if_neg (lg_3 h6 hL), if_neg (lg_4 h6 hL), if_neg (lg_5 h6 hL), e2, bI2_s, nmI_e, lg_6]
  exact hK _ _ _ h2
theorem kk_1 (h6 : 6 * q + 6 ≤ Lx) (hL : Lx ≤ 3072) (h : G1 q ld M L) (hK : ∀ M L ld, G1 (q + 1) ld M L → K (nI (6 * (q + 1))) M L ld = some 1) : C_law_1 xs Lx K (nI (6 * q)) M L ld = some 1 := by
  have hq : q < 512 := by omega
  unfold C_law_1
  obtain ⟨r, M1, r2, M2, e1, e2, h2, e3⟩ := v_back h hq (xs (6 * q + 1))
  rw [lt_1 h6 hL, if_neg (lg_1 h6 hL), e1, bI2_s, if_neg (lg_1 h6 hL), e2, bI2_s, nmI_e, lg_6]
  exact hK _ _ _ h2
theorem kk_2 (h6 : 6 * q + 6 ≤ Lx) (hL : Lx ≤ 3072) (h : G1 q ld M L) (hK : ∀ M L ld, G1 (q + 1) ld M L → K (nI (6 * (q + 1))) M L ld = some 1) : C_law_2 xs Lx K (nI (6 * q)) M L ld = some 1 := by
  have hq : q < 512 := by omega
  unfold C_law_2
  obtain ⟨k, M1, L1, ld1, M2, L2, e1, e2, h2⟩ := v_read h hq
  rw [e1]
  show bI3 (F_Mod_read M1 L1) _ = _
  rw [e2, bI3_s, nmI_e, lg_6]
  exact hK _ _ _ h2
theorem kk_3 (h6 : 6 * q + 6 ≤ Lx) (hL : Lx ≤ 3072) (h : G1 q ld M L) (hK : ∀ M L ld, G1 (q + 1) ld M L → K (nI (6 * (q + 1))) M L ld = some 1) : C_law_3 xs Lx K (nI (6 * q)) M L ld = some 1 := by
  have hq : q < 512 := by omega
  unfold C_law_3
  obtain ⟨r, r2, e1, e2, h2, e3⟩ := v_place h hq
  rw [e1, bI_s, e2, bI_s, nmI_e, lg_6]
  exact hK _ _ _ h2
theorem kk_4 (h6 : 6 * q + 6 ≤ Lx) (hL : Lx ≤ 3072) (h : G1 q ld M L) (hK : ∀ M L ld, G1 (q + 1) ld M L → K (nI (6 * (q + 1))) M L ld = some 1) : C_law_4 xs Lx K (nI (6 * q)) M L ld = some 1 := by
  have hq : q < 512 := by omega
  unfold C_law_4
  obtain ⟨r, r2, e1, e2, h2, e3⟩ := v_food h hq (xs (6 * q + 1)) (xs (6 * q + 2))
  rw [lt_1 h6 hL, lt_2 h6 hL, if_neg (lg_1 h6 hL), if_neg (lg_2 h6 hL), e1, bI_s, if_neg (lg_1 h6 hL), if_neg (lg_2 h6 hL), e2, bI_s, nmI_e, lg_6]
  exact hK _ _ _ h2
theorem kk_5 (h6 : 6 * q + 6 ≤ Lx) (hL : Lx ≤ 3072) (h : G1 q ld M L) (hK : ∀ M L ld, G1 (q + 1) ld M L → K (nI (6 * (q + 1))) M L ld = some 1) : C_law_5 xs Lx K (nI (6 * q)) M L ld = some 1 := by
  have hq : q < 512 := by omega
  unfold C_law_5
  obtain ⟨r, M1, r2, M2, e1, e2, h2, e3⟩ := v_dish h hq (xs (6 * q + 1)) (xs (6 * q + 2))
  rw [lt_1 h6 hL, lt_2 h6 hL, if_neg (lg_1 h6 hL), if_neg (lg_2 h6 hL), e1, bI2_s, if_neg (lg_1 h6 hL), if_neg (lg_2 h6 hL), e2, bI2_s, nmI_e, lg_6]
  exact hK _ _ _ h2
theorem kk_6 (h6 : 6 * q + 6 ≤ Lx) (hL : Lx ≤ 3072) (h : G1 q ld M L) (hK : ∀ M L ld, G1 (q + 1) ld M L → K (nI (6 * (q + 1))) M L ld = some 1) : C_law_6 xs Lx K (nI (6 * q)) M L ld = some 1 := by
  have hq : q < 512 := by omega
  unfold C_law_6
  obtain ⟨r, r2, e1, e2, h2, e3⟩ := v_amount h hq (xs (6 * q + 1)) (xs (6 * q + 2))
  rw [lt_1 h6 hL, lt_2 h6 hL, if_neg (lg_1 h6 hL), if_neg (lg_2 h6 hL), e1, bI_s, if_neg (lg_1 h6 hL), if_neg (lg_2 h6 hL), e2, bI_s, nmI_e, lg_6]
  exact hK _ _ _ h2
theorem kk_7 (h6 : 6 * q + 6 ≤ Lx) (hL : Lx ≤ 3072) (h : G1 q ld M L) (hK : ∀ M L ld, G1 (q + 1) ld M L → K (nI (6 * (q + 1))) M L ld = some 1) : C_law_7 xs Lx K (nI (6 * q)) M L ld = some 1 := by
  have hq : q < 512 := by omega
  unfold C_law_7
  obtain ⟨r, M1, r2, M2, e1, e2, h2, e3⟩ := v_guest h hq (xs (6 * q + 1)) (xs (6 * q + 2))
  rw [lt_1 h6 hL, lt_2 h6 hL, if_neg (lg_1 h6 hL), if_neg (lg_2 h6 hL), e1, bI2_s, if_neg (lg_1 h6 hL), if_neg (lg_2 h6 hL), e2, bI2_s, nmI_e, lg_6]
  exact hK _ _ _ h2
theorem kk_8 (h6 : 6 * q + 6 ≤ Lx) (hL : Lx ≤ 3072) (h : G1 q ld M L) (hK : ∀ M L ld, G1 (q + 1) ld M L → K (nI (6 * (q + 1))) M L ld = some 1) : C_law_8 xs Lx K (nI (6 * q)) M L ld = some 1 := by
  have hq : q < 512 := by omega
  unfold C_law_8
  obtain ⟨r, M1, r2, M2, e1, e2, h2, e3⟩ := v_deed h hq (xs (6 * q + 1)) (xs (6 * q + 2))
  rw [lt_1 h6 hL, lt_2 h6 hL, if_neg (lg_1 h6 hL), if_neg (lg_2 h6 hL), e1, bI2_s, if_neg (lg_1 h6 hL), if_neg (lg_2 h6 hL), e2, bI2_s, nmI_e, lg_6]
  exact hK _ _ _ h2
theorem kk_9 (h6 : 6 * q + 6 ≤ Lx) (hL : Lx ≤ 3072) (h : G1 q ld M L) (hK : ∀ M L ld, G1 (q + 1) ld M L → K (nI (6 * (q + 1))) M L ld = some 1) : C_law_9 xs Lx K (nI (6 * q)) M L ld = some 1 := by
  have hq : q < 512 := by omega
  unfold C_law_9
  obtain ⟨r, M1, r2, M2, e1, e2, h2, e3⟩ := v_cook h hq (xs (6 * q + 1))
  rw [lt_1 h6 hL, if_neg (lg_1 h6 hL), e1, bI2_s, if_neg (lg_1 h6 hL), e2, bI2_s, nmI_e, lg_6]
  exact hK _ _ _ h2
theorem kk_10 (h6 : 6 * q + 6 ≤ Lx) (hL : Lx ≤ 3072) (h : G1 q ld M L) (hK : ∀ M L ld, G1 (q + 1) ld M L → K (nI (6 * (q + 1))) M L ld = some 1) : C_law_10 xs Lx K (nI (6 * q)) M L ld = some 1 := by
  have hq : q < 512 := by omega
  unfold C_law_10
  obtain ⟨r, M1, r2, M2, e1, e2, h2, e3⟩ := v_eat h hq (xs (6 * q + 1))
  rw [lt_1 h6 hL, if_neg (lg_1 h6 hL), e1, bI2_s, if_neg (lg_1 h6 hL), e2, bI2_s, nmI_e, lg_6]
  exact hK _ _ _ h2
theorem kk_11 (h6 : 6 * q + 6 ≤ Lx) (hL : Lx ≤ 3072) (h : G1 q ld M L) (hK : ∀ M L ld, G1 (q + 1) ld M L → K (nI (6 * (q + 1))) M L ld = some 1) : C_law_11 xs Lx K (nI (6 * q)) M L ld = some 1 := by
  have hq : q < 512 := by omega
  unfold C_law_11
  obtain ⟨r, M1, r2, M2, e1, e2, h2, e3⟩ := v_days h hq (xs (6 * q + 1))
  rw [lt_1 h6 hL, if_neg (lg_1 h6 hL), e1, bI2_s, if_neg (lg_1 h6 hL), e2, bI2_s, nmI_e, lg_6]
  exact hK _ _ _ h2
theorem kk_12 (h6 : 6 * q + 6 ≤ Lx) (hL : Lx ≤ 3072) (h : G1 q ld M L) (hK : ∀ M L ld, G1 (q + 1) ld M L → K (nI (6 * (q + 1))) M L ld = some 1) : C_law_12 xs Lx K (nI (6 * q)) M L ld = some 1 := by
  have hq : q < 512 := by omega
  unfold C_law_12
  obtain ⟨r, M1, r2, M2, e1, e2, h2, e3⟩ := v_undo h hq
  rw [e1, bI2_s, e2, bI2_s, nmI_e, lg_6]
  exact hK _ _ _ h2
theorem kk_13 (h6 : 6 * q + 6 ≤ Lx) (hL : Lx ≤ 3072) (h : G1 q ld M L) (hK : ∀ M L ld, G1 (q + 1) ld M L → K (nI (6 * (q + 1))) M L ld = some 1) : C_law_13 xs Lx K (nI (6 * q)) M L ld = some 1 := by
  have hq : q < 512 := by omega
  unfold C_law_13
  obtain ⟨r, M1, r2, M2, e1, e2, h2⟩ := v_pot h hq (xs (6 * q + 1)) (xs (6 * q + 2)) (xs (6 * q + 3)) (xs (6 * q + 4))
  rw [lt_1 h6 hL, lt_2 h6 hL, lt_3 h6 hL, lt_4 h6 hL, if_neg (lg_1 h6 hL), if_neg (lg_2 h6 hL), if_neg (lg_3 h6 hL), if_neg (lg_4 h6 hL), e1, bI2_s, if_neg (lg_1 h6 hL), if_neg (lg_2 h6 hL), if_neg (lg_3 h6 hL), if_neg (lg_4 h6 hL), e2, bI2_s, nmI_e, lg_6]
  exact hK _ _ _ h2
theorem kk_14 (h6 : 6 * q + 6 ≤ Lx) (hL : Lx ≤ 3072) (h : G1 q ld M L) (hK : ∀ M L ld, G1 (q + 1) ld M L → K (nI (6 * (q + 1))) M L ld = some 1) : C_law_14 xs Lx K (nI (6 * q)) M L ld = some 1 := by
  have hq : q < 512 := by omega
  unfold C_law_14
  obtain ⟨r, M1, r2, M2, e1, e2, h2, e3⟩ := v_pinch h hq (xs (6 * q + 1)) (xs (6 * q + 2))
  rw [lt_1 h6 hL, lt_2 h6 hL, if_neg (lg_1 h6 hL), if_neg (lg_2 h6 hL), e1, bI2_s, if_neg (lg_1 h6 hL), if_neg (lg_2 h6 hL), e2, bI2_s, nmI_e, lg_6]
  exact hK _ _ _ h2
theorem kk_15 (h6 : 6 * q + 6 ≤ Lx) (hL : Lx ≤ 3072) (h : G1 q ld M L) (hK : ∀ M L ld, G1 (q + 1) ld M L → K (nI (6 * (q + 1))) M L ld = some 1) : C_law_15 xs Lx K (nI (6 * q)) M L ld = some 1 := by
  have hq : q < 512 := by omega
  unfold C_law_15
  obtain ⟨r, M1, r2, M2, e1, e2, h2, e3⟩ := v_freest h hq (xs (6 * q + 1)) (xs (6 * q + 2))
  rw [lt_1 h6 hL, lt_2 h6 hL, if_neg (lg_1 h6 hL), if_neg (lg_2 h6 hL), e1, bI2_s, if_neg (lg_1 h6 hL), if_neg (lg_2 h6 hL), e2, bI2_s, nmI_e, lg_6]
  exact hK _ _ _ h2
theorem kk_16 (h6 : 6 * q + 6 ≤ Lx) (hL : Lx ≤ 3072) (h : G1 q ld M L) (hK : ∀ M L ld, G1 (q + 1) ld M L → K (nI (6 * (q + 1))) M L ld = some 1) : C_law_16 xs Lx K (nI (6 * q)) M L ld = some 1 := by
  have hq : q < 512 := by omega
  unfold C_law_16
  obtain ⟨r, M1, r2, M2, e1, e2, h2, e3⟩ := v_supper h hq
  rw [e1, bI2_s, e2, bI2_s, nmI_e, lg_6]
  exact hK _ _ _ h2
theorem kk_17 (h6 : 6 * q + 6 ≤ Lx) (hL : Lx ≤ 3072) (h : G1 q ld M L) (hK : ∀ M L ld, G1 (q + 1) ld M L → K (nI (6 * (q + 1))) M L ld = some 1) : C_law_17 xs Lx K (nI (6 * q)) M L ld = some 1 := by
  have hq : q < 512 := by omega
  unfold C_law_17
  obtain ⟨r, M1, r2, M2, e1, e2, h2, e3⟩ := v_feud h hq (xs (6 * q + 1)) (xs (6 * q + 2)) (xs (6 * q + 3))
  rw [lt_1 h6 hL, lt_2 h6 hL, lt_3 h6 hL, if_neg (lg_1 h6 hL), if_neg (lg_2 h6 hL), if_neg (lg_3 h6 hL), e1, bI2_s, if_neg (lg_1 h6 hL), if_neg (lg_2 h6 hL), if_neg (lg_3 h6 hL), e2, bI2_s, nmI_e, lg_6]
  exact hK _ _ _ h2
theorem kk_18 (h6 : 6 * q + 6 ≤ Lx) (hL : Lx ≤ 3072) (h : G1 q ld M L) (hK : ∀ M L ld, G1 (q + 1) ld M L → K (nI (6 * (q + 1))) M L ld = some 1) : C_law_18 xs Lx K (nI (6 * q)) M L ld = some 1 := by
  have hq : q < 512 := by omega
  unfold C_law_18
  obtain ⟨r, M1, r2, M2, e1, e2, h2⟩ := v_menu h hq (xs (6 * q + 1)) (xs (6 * q + 2)) (xs (6 * q + 3)) (xs (6 * q + 4))
  rw [lt_1 h6 hL, lt_2 h6 hL, lt_3 h6 hL, lt_4 h6 hL, if_neg (lg_1 h6 hL), if_neg (lg_2 h6 hL), if_neg (lg_3 h6 hL), if_neg (lg_4 h6 hL), e1, bI2_s, if_neg (lg_1 h6 hL), if_neg (lg_2 h6 hL), if_neg (lg_3 h6 hL), if_neg (lg_4 h6 hL), e2, bI2_s, nmI_e, lg_6]
  exact hK _ _ _ h2
theorem kk_19 (h6 : 6 * q + 6 ≤ Lx) (hL : Lx ≤ 3072) (h : G1 q ld M L) (hK : ∀ M L ld, G1 (q + 1) ld M L → K (nI (6 * (q + 1))) M L ld = some 1) : C_law_19 xs Lx K (nI (6 * q)) M L ld = some 1 := by
  have hq : q < 512 := by omega
  unfold C_law_19
  obtain ⟨r, M1, r2, M2, e1, e2, h2⟩ := v_often h hq (xs (6 * q + 1))
  rw [lt_1 h6 hL, if_neg (lg_1 h6 hL), e1, bI2_s, if_neg (lg_1 h6 hL), e2, bI2_s, nmI_e, lg_6]
  exact hK _ _ _ h2
theorem kk_20 (h6 : 6 * q + 6 ≤ Lx) (hL : Lx ≤ 3072) (h : G1 q ld M L) (hK : ∀ M L ld, G1 (q + 1) ld M L → K (nI (6 * (q + 1))) M L ld = some 1) : C_law_20 xs Lx K (nI (6 * q)) M L ld = some 1 := by
  have hq : q < 512 := by omega
  unfold C_law_20
  obtain ⟨r, M1, r2, M2, e1, e2, h2, e3⟩ := v_hunger h hq (xs (6 * q + 1)) (xs (6 * q + 2))
  rw [lt_1 h6 hL, lt_2 h6 hL, if_neg (lg_1 h6 hL), if_neg (lg_2 h6 hL), e1, bI2_s, if_neg (lg_1 h6 hL), if_neg (lg_2 h6 hL), e2, bI2_s, nmI_e, lg_6]
  exact hK _ _ _ h2
theorem kk_21 (h6 : 6 * q + 6 ≤ Lx) (hL : Lx ≤ 3072) (h : G1 q ld M L) (hK : ∀ M L ld, G1 (q + 1) ld M L → K (nI (6 * (q + 1))) M L ld = some 1) : C_law_21 xs Lx K (nI (6 * q)) M L ld = some 1 := by
  have hq : q < 512 := by omega
  unfold C_law_21
  obtain ⟨r, M1, r2, M2, e1, e2, h2, e3⟩ := v_stockIn h hq (xs (6 * q + 1)) (xs (6 * q + 2))
  rw [lt_1 h6 hL, lt_2 h6 hL, if_neg (lg_1 h6 hL), if_neg (lg_2 h6 hL), e1, bI2_s, if_neg (lg_1 h6 hL), if_neg (lg_2 h6 hL), e2, bI2_s, nmI_e, lg_6]
  exact hK _ _ _ h2
theorem kk_22 (h6 : 6 * q + 6 ≤ Lx) (hL : Lx ≤ 3072) (h : G1 q ld M L) (hK : ∀ M L ld, G1 (q + 1) ld M L → K (nI (6 * (q + 1))) M L ld = some 1) : C_law_22 xs Lx K (nI (6 * q)) M L ld = some 1 := by
  have hq : q < 512 := by omega
  unfold C_law_22
  obtain ⟨r, M1, r2, M2, e1, e2, h2, e3⟩ := v_boundIn h hq (xs (6 * q + 1)) (xs (6 * q + 2)) (xs (6 * q + 3))
  rw [lt_1 h6 hL, lt_2 h6 hL, lt_3 h6 hL, if_neg (lg_1 h6 hL), if_neg (lg_2 h6 hL), if_neg (lg_3 h6 hL), e1, bI2_s, if_neg (lg_1 h6 hL), if_neg (lg_2 h6 hL), if_neg (lg_3 h6 hL), e2, bI2_s, nmI_e, lg_6]
  exact hK _ _ _ h2
theorem kk_23 (h6 : 6 * q + 6 ≤ Lx) (hL : Lx ≤ 3072) (h : G1 q ld M L) (hK : ∀ M L ld, G1 (q + 1) ld M L → K (nI (6 * (q + 1))) M L ld = some 1) : C_law_23 xs Lx K (nI (6 * q)) M L ld = some 1 := by
  have hq : q < 512 := by omega
  unfold C_law_23
  obtain ⟨r, M1, r2, M2, e1, e2, h2, e3⟩ := v_year h hq (xs (6 * q + 1)) (xs (6 * q + 2)) (xs (6 * q + 3)) (xs (6 * q + 4))
  rw [lt_1 h6 hL, lt_2 h6 hL, lt_3 h6 hL, lt_4 h6 hL, if_neg (lg_1 h6 hL), if_neg (lg_2 h6 hL), if_neg (lg_3 h6 hL), if_neg (lg_4 h6 hL), e1, bI2_s, if_neg (lg_1 h6 hL), if_neg (lg_2 h6 hL), if_neg (lg_3 h6 hL), if_neg (lg_4 h6 hL), e2, bI2_s, nmI_e, lg_6]
  exact hK _ _ _ h2
theorem kk_24 (h6 : 6 * q + 6 ≤ Lx) (hL : Lx ≤ 3072) (h : G1 q ld M L) (hK : ∀ M L ld, G1 (q + 1) ld M L → K (nI (6 * (q + 1))) M L ld = some 1) : C_law_24 xs Lx K (nI (6 * q)) M L ld = some 1 := by
  have hq : q < 512 := by omega
  unfold C_law_24
  obtain ⟨r, M1, r2, M2, e1, e2, h2, e3⟩ := v_tell h hq (xs (6 * q + 1)) (xs (6 * q + 2)) (xs (6 * q + 3))
  rw [lt_1 h6 hL, lt_2 h6 hL, lt_3 h6 hL, if_neg (lg_1 h6 hL), if_neg (lg_2 h6 hL), if_neg (lg_3 h6 hL), e1, bI2_s, if_neg (lg_1 h6 hL), if_neg (lg_2 h6 hL), if_neg (lg_3 h6 hL), e2, bI2_s, nmI_e, lg_6]
  exact hK _ _ _ h2
theorem kk_25 (h6 : 6 * q + 6 ≤ Lx) (hL : Lx ≤ 3072) (h : G1 q ld M L) (hK : ∀ M L ld, G1 (q + 1) ld M L → K (nI (6 * (q + 1))) M L ld = some 1) : C_law_25 xs Lx K (nI (6 * q)) M L ld = some 1 := by
  have hq : q < 512 := by omega
  unfold C_law_25
  obtain ⟨r, M1, r2, M2, e1, e2, h2, e3⟩ := v_forget h hq
  rw [e1, bI2_s, e2, bI2_s, nmI_e, lg_6]
  exact hK _ _ _ h2
theorem kk_26 (h6 : 6 * q + 6 ≤ Lx) (hL : Lx ≤ 3072) (h : G1 q ld M L) (hK : ∀ M L ld, G1 (q + 1) ld M L → K (nI (6 * (q + 1))) M L ld = some 1) : C_law_26 xs Lx K (nI (6 * q)) M L ld = some 1 := by
  have hq : q < 512 := by omega
  unfold C_law_26
  obtain ⟨r, M1, r2, M2, e1, e2, h2, e3⟩ := v_blame h hq (xs (6 * q + 1))
  rw [lt_1 h6 hL, if_neg (lg_1 h6 hL), e1, bI2_s, if_neg (lg_1 h6 hL), e2, bI2_s, nmI_e, lg_6]
  exact hK _ _ _ h2
theorem kk_27 (h6 : 6 * q + 6 ≤ Lx) (hL : Lx ≤ 3072) (h : G1 q ld M L) (hK : ∀ M L ld, G1 (q + 1) ld M L → K (nI (6 * (q + 1))) M L ld = some 1) : C_law_27 xs Lx K (nI (6 * q)) M L ld = some 1 := by
  have hq : q < 512 := by omega
  unfold C_law_27
  obtain ⟨r, M1, r2, M2, e1, e2, h2, e3⟩ := v_sure h hq (xs (6 * q + 1))
  rw [lt_1 h6 hL, if_neg (lg_1 h6 hL), e1, bI2_s, if_neg (lg_1 h6 hL), e2, bI2_s, if_pos e3, nmI_e, lg_6]
  exact hK _ _ _ h2
theorem kk_28 (h6 : 6 * q + 6 ≤ Lx) (hL : Lx ≤ 3072) (h : G1 q ld M L) (hK : ∀ M L ld, G1 (q + 1) ld M L → K (nI (6 * (q + 1))) M L ld = some 1) : C_law_28 xs Lx K (nI (6 * q)) M L ld = some 1 := by
  have hq : q < 512 := by omega
  unfold C_law_28
  obtain ⟨r, M1, r2, M2, e1, e2, h2⟩ := v_taste h hq (xs (6 * q + 1))
  rw [lt_1 h6 hL, if_neg (lg_1 h6 hL), e1, bI2_s, if_neg (lg_1 h6 hL), e2, bI2_s, nmI_e, lg_6]
  exact hK _ _ _ h2
theorem kk_29 (h6 : 6 * q + 6 ≤ Lx) (hL : Lx ≤ 3072) (h : G1 q ld M L) (hK : ∀ M L ld, G1 (q + 1) ld M L → K (nI (6 * (q + 1))) M L ld = some 1) : C_law_29 xs Lx K (nI (6 * q)) M L ld = some 1 := by
  have hq : q < 512 := by omega
  unfold C_law_29
  obtain ⟨r, M1, r2, M2, e1, e2, h2, e3⟩ := v_hold h hq (xs (6 * q + 1))
  rw [lt_1 h6 hL, if_neg (lg_1 h6 hL), e1, bI2_s, if_neg (lg_1 h6 hL), e2, bI2_s, nmI_e, lg_6]
  exact hK _ _ _ h2
theorem kk_30 (h6 : 6 * q + 6 ≤ Lx) (hL : Lx ≤ 3072) (h : G1 q ld M L) (hK : ∀ M L ld, G1 (q + 1) ld M L → K (nI (6 * (q + 1))) M L ld = some 1) : C_law_30 xs Lx K (nI (6 * q)) M L ld = some 1 := by
  have hq : q < 512 := by omega
  unfold C_law_30
  obtain ⟨r, M1, r2, M2, e1, e2, h2, e3⟩ := v_restore h hq (xs (6 * q + 1))
  rw [lt_1 h6 hL, if_neg (lg_1 h6 hL), e1, bI2_s, if_neg (lg_1 h6 hL), e2, bI2_s, nmI_e, lg_6]
  exact hK _ _ _ h2
theorem kk_31 (h6 : 6 * q + 6 ≤ Lx) (hL : Lx ≤ 3072) (h : G1 q ld M L) (hK : ∀ M L ld, G1 (q + 1) ld M L → K (nI (6 * (q + 1))) M L ld = some 1) : C_law_31 xs Lx K (nI (6 * q)) M L ld = some 1 := by
  have hq : q < 512 := by omega
  unfold C_law_31
  obtain ⟨r, r2, e1, e2, h2, e3⟩ := v_count h hq (xs (6 * q + 1))
  rw [lt_1 h6 hL, if_neg (lg_1 h6 hL), e1, bI_s, if_neg (lg_1 h6 hL), e2, bI_s, nmI_e, lg_6]
  exact hK _ _ _ h2
theorem law_run (hL : Lx ≤ 3072) : ∀ (d q f : Nat) (M : gM) (L : gL) (ld : Nat), G1 q ld M L → Lx < 6 * q + 6 * d + 6 → d < f → 6 * q ≤ 3072 → H_law xs Lx f (nI (6 * q)) M L ld = some 1 := by
  have stop : ∀ (q f : Nat) (M : gM) (L : gL) (ld : Nat), Lx < 6 * q + 6 → 6 * q ≤ 3072 → H_law xs Lx (f + 1) (nI (6 * q)) M L ld = some 1 := by
    intro q f M L ld h hq
    show B_law xs Lx (H_law xs Lx f) (nI (6 * q)) M L ld = some 1
    unfold B_law
    rw [if_pos]
    rw [i_lt, i_subE (x := Int32.ofNat Lx) (y := 6) (a := (Lx : Int)) (b := 6) (nI_toInt (by omega)) (by decide) (by omega), nI_toInt (by omega)]
    omega
  intro d
  induction d with
  | zero =>
    intro q f M L ld h h1 h2 h3
    obtain ⟨f, rfl⟩ : ∃ g, f = g + 1 := ⟨f - 1, by omega⟩
    exact stop q f M L ld (by omega) h3
  | succ d ih =>
    intro q f M L ld h h1 h2 h3
    obtain ⟨f, rfl⟩ : ∃ g, f = g + 1 := ⟨f - 1, by omega⟩
    by_cases hc : Lx < 6 * q + 6
    · exact stop q f M L ld hc h3
    have h6 : 6 * q + 6 ≤ Lx := by omega
    have hK : ∀ M L ld, G1 (q + 1) ld M L → H_law xs Lx f (nI (6 * (q + 1))) M L ld = some 1 := fun M L ld g => ih (q + 1) f M L ld g (by omega) (by omega) (by omega)
    show B_law xs Lx (H_law xs Lx f) (nI (6 * q)) M L ld = some 1
    unfold B_law
    rw [if_neg, if_neg (nI_in (by omega) (by omega)), nI_clamp (by omega)]
    rotate_left
    · rw [i_lt, i_subE (x := Int32.ofNat Lx) (y := 6) (a := (Lx : Int)) (b := 6) (nI_toInt (by omega)) (by decide) (by omega), nI_toInt (by omega)]
      omega
    have op := op_32 (xs (6 * q))
    generalize xs (6 * q) &&& 31 = y at op ⊢
    by_cases c0 : y = 0
    · rw [if_pos c0]; exact kk_0 h6 hL h hK
    rw [if_neg c0]
    by_cases c1 : y = 1
    · rw [if_pos c1]; exact kk_1 h6 hL h hK
    rw [if_neg c1]
    by_cases c2 : y = 2
    · rw [if_pos c2]; exact kk_2 h6 hL h hK
    rw [if_neg c2]
    by_cases c3 : y = 3
    · rw [if_pos c3]; exact kk_3 h6 hL h hK
    rw [if_neg c3]
    by_cases c4 : y = 4
    · rw [if_pos c4]; exact kk_4 h6 hL h hK
    rw [if_neg c4]
    by_cases c5 : y = 5
    · rw [if_pos c5]; exact kk_5 h6 hL h hK
    rw [if_neg c5]
    by_cases c6 : y = 6
    · rw [if_pos c6]; exact kk_6 h6 hL h hK
    rw [if_neg c6]
    by_cases c7 : y = 7
    · rw [if_pos c7]; exact kk_7 h6 hL h hK
    rw [if_neg c7]
    by_cases c8 : y = 8
    · rw [if_pos c8]; exact kk_8 h6 hL h hK
    rw [if_neg c8]
    by_cases c9 : y = 9
    · rw [if_pos c9]; exact kk_9 h6 hL h hK
    rw [if_neg c9]
    by_cases c10 : y = 10
    · rw [if_pos c10]; exact kk_10 h6 hL h hK
    rw [if_neg c10]
    by_cases c11 : y = 11
    · rw [if_pos c11]; exact kk_11 h6 hL h hK
    rw [if_neg c11]
    by_cases c12 : y = 12
    · rw [if_pos c12]; exact kk_12 h6 hL h hK
    rw [if_neg c12]
    by_cases c13 : y = 13
    · rw [if_pos c13]; exact kk_13 h6 hL h hK
    rw [if_neg c13]
    by_cases c14 : y = 14
    · rw [if_pos c14]; exact kk_14 h6 hL h hK
    rw [if_neg c14]
    by_cases c15 : y = 15
    · rw [if_pos c15]; exact kk_15 h6 hL h hK
    rw [if_neg c15]
    by_cases c16 : y = 16
    · rw [if_pos c16]; exact kk_16 h6 hL h hK
    rw [if_neg c16]
    by_cases c17 : y = 17
    · rw [if_pos c17]; exact kk_17 h6 hL h hK
    rw [if_neg c17]
    by_cases c18 : y = 18
    · rw [if_pos c18]; exact kk_18 h6 hL h hK
    rw [if_neg c18]
    by_cases c19 : y = 19
    · rw [if_pos c19]; exact kk_19 h6 hL h hK
    rw [if_neg c19]
    by_cases c20 : y = 20
    · rw [if_pos c20]; exact kk_20 h6 hL h hK
    rw [if_neg c20]
    by_cases c21 : y = 21
    · rw [if_pos c21]; exact kk_21 h6 hL h hK
    rw [if_neg c21]
    by_cases c22 : y = 22
    · rw [if_pos c22]; exact kk_22 h6 hL h hK
    rw [if_neg c22]
    by_cases c23 : y = 23
    · rw [if_pos c23]; exact kk_23 h6 hL h hK
    rw [if_neg c23]
    by_cases c24 : y = 24
    · rw [if_pos c24]; exact kk_24 h6 hL h hK
    rw [if_neg c24]
    by_cases c25 : y = 25
    · rw [if_pos c25]; exact kk_25 h6 hL h hK
    rw [if_neg c25]
    by_cases c26 : y = 26
    · rw [if_pos c26]; exact kk_26 h6 hL h hK
    rw [if_neg c26]
    by_cases c27 : y = 27
    · rw [if_pos c27]; exact kk_27 h6 hL h hK
    rw [if_neg c27]
    by_cases c28 : y = 28
    · rw [if_pos c28]; exact kk_28 h6 hL h hK
    rw [if_neg c28]
    by_cases c29 : y = 29
    · rw [if_pos c29]; exact kk_29 h6 hL h hK
    rw [if_neg c29]
    by_cases c30 : y = 30
    · rw [if_pos c30]; exact kk_30 h6 hL h hK
    rw [if_neg c30]
    by_cases c31 : y = 31
    · rw [if_pos c31]; exact kk_31 h6 hL h hK
    rw [if_neg c31]
    exfalso
    rcases op with w | w | w | w | w | w | w | w | w | w | w | w | w | w | w | w | w | w | w | w | w | w | w | w | w | w | w | w | w | w | w | w
    · exact c0 w
    · exact c1 w
    · exact c2 w
    · exact c3 w
    · exact c4 w
    · exact c5 w
    · exact c6 w
    · exact c7 w
    · exact c8 w
    · exact c9 w
    · exact c10 w
    · exact c11 w
    · exact c12 w
    · exact c13 w
    · exact c14 w
    · exact c15 w
    · exact c16 w
    · exact c17 w
    · exact c18 w
    · exact c19 w
    · exact c20 w
    · exact c21 w
    · exact c22 w
    · exact c23 w
    · exact c24 w
    · exact c25 w
    · exact c26 w
    · exact c27 w
    · exact c28 w
    · exact c29 w
    · exact c30 w
    · exact c31 w
end PAR99
theorem law_pure {L : Nat} (hL : L ≤ 3072) (xs : Nat → Int32) : H_law xs L FU 0 M00 L00 12 = some 1 := law_run hL L 0 FU M00 L00 12 G1_start (by omega) (by unfold FU; omega) (by decide)
end MG17x1
