/-! calls whose answers are not compared here -/
section PAR41
theorem v_pot {q ld : Nat} {M : gM} {L : gL} (h : G1 q ld M L) (hq : q < 512) (a b c d : Int32) : ∃ r M1 r' M2, F_Main_pot ld a b c d M = some (r, M1) ∧ F_Mod_pot a b c d M1 = some (r', M2) ∧ G1 (q + 1) ld M2 L := by
  obtain ⟨r, M1, e1, -, k1⟩ := tf_Main_pot (p1 := a) (p2 := b) (p3 := c) (p4 := d) (M := M) h.1.la
  have g1 := h.1.kC1 k1
  obtain ⟨r', M2, e2, -, k2⟩ := tf_Mod_pot (p0 := a) (p1 := b) (p2 := c) (p3 := d) g1.inv
  exact ⟨r, M1, r', M2, e1, e2, h.q2 (g1.kM1 k2) k1 k2⟩
theorem v_menu {q ld : Nat} {M : gM} {L : gL} (h : G1 q ld M L) (hq : q < 512) (a b c d : Int32) : ∃ r M1 r' M2, F_Main_menu ld a b c d M = some (r, M1) ∧ F_Mod_menu a b c d M1 = some (r', M2) ∧ G1 (q + 1) ld M2 L := by
  obtain ⟨r, M1, e1, -, k1⟩ := tf_Main_menu (p1 := a) (p2 := b) (p3 := c) (p4 := d) (M := M) h.1.la
  have g1 := h.1.kC1 k1
  obtain ⟨r', M2, e2, -, k2⟩ := tf_Mod_menu (p0 := a) (p1 := b) (p2 := c) (p3 := d) g1.inv
  exact ⟨r, M1, r', M2, e1, e2, h.q2 (g1.kM1 k2) k1 k2⟩
theorem v_often {q ld : Nat} {M : gM} {L : gL} (h : G1 q ld M L) (hq : q < 512) (a : Int32) : ∃ r M1 r' M2, F_Main_often ld a M = some (r, M1) ∧ F_Mod_often a M1 = some (r', M2) ∧ G1 (q + 1) ld M2 L := by
  obtain ⟨r, M1, e1, -, k1⟩ := tf_Main_often (p1 := a) (M := M) h.1.la
  have g1 := h.1.kC1 k1
  obtain ⟨r', M2, e2, -, k2⟩ := tf_Mod_often (p0 := a) g1.inv
  exact ⟨r, M1, r', M2, e1, e2, h.q2 (g1.kM1 k2) k1 k2⟩
theorem v_taste {q ld : Nat} {M : gM} {L : gL} (h : G1 q ld M L) (hq : q < 512) (a : Int32) : ∃ r M1 r' M2, F_Main_taste ld a M = some (r, M1) ∧ F_Mod_taste a M1 = some (r', M2) ∧ G1 (q + 1) ld M2 L := by
  obtain ⟨r, M1, e1, -, k1⟩ := tf_Main_taste (p1 := a) (M := M) h.1.la
  have g1 := h.1.kC1 k1
  obtain ⟨r', M2, e2, -, k2⟩ := tf_Mod_taste (p0 := a) g1.inv
  exact ⟨r, M1, r', M2, e1, e2, h.q2 (g1.kM1 k2) k1 k2⟩
end PAR41
