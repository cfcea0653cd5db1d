/-! all tells -/
section PAR16
variable {b : Nat → Nat} {n m : Nat}
def mP (sd c j : Nat) : Prop := mT sd c j ∨ (c = 401 ∧ j = 12)
theorem pd7 {ld j : Nat} (h : isLa ld) : PD ld 7 j = false := by
  have := La_12 h
  exact PD_m (by omega)
theorem pw7 {W j : Nat} (h : isLw W) : PW W 7 j = false := by
  have := Lw_12 h
  unfold PW
  have h1 : P3 7 j = false := rfl
  rw [h1, Bool.false_or, Bool.and_eq_false_iff]
  exact Or.inl (decide_eq_false (by omega))
theorem l_parse {ld sd : Nat} (hld : isLa ld) (hsd : sd ≤ 1) : ∀ (d t : Nat), 401 - t = d → ∀ (v f g nf nd ng ne c i : Nat) (l : Nat → List Nat) (a : Nat → Int32) (M : gM) (L : gL) (N : gM) (K : gL), RS b n m ld sd t nf nd ng ne l a c i M L N K → v ≤ t → d < f → d < g →
    ∃ M' L' N' K', H_Reader_parse_34 ld f (nI v) M L = J_Reader_parse_215 ld M' L' ∧ H_Mod_read_112 g N K = J_Mod_read_134 N' K' ∧ ((∃ t' nf nd ng ne l a c i, RS b n m ld sd t' nf nd ng ne l a c i M' L' N' K') ∨ (Dd b n m M' N' ∧ Mcnt sd N')) ∧ Eo (mP sd) N N' ∧ (∀ c j, c ≠ 409 → K' c j = K c j) ∧ Kq (PD ld) M L M' L' := by
  intro d
  induction d using Nat.strongRecOn with
  | ind d ih =>
  intro t ht v f g nf nd ng ne c i l a M L N K hR hv hf hg
  obtain ⟨f, rfl⟩ : ∃ x, f = x + 1 := ⟨f - 1, by omega⟩
  obtain ⟨g, rfl⟩ : ∃ x, g = x + 1 := ⟨g - 1, by omega⟩
  have hI := hR.1
  have hm := hI.1.m400
  have htm := hI.2.1.2.2.2.2
  have eM : H_Reader_parse_34 ld (f + 1) (nI v) M L = B_Reader_parse_34 ld (H_Reader_parse_34 ld f) (nI v) M L := rfl
  have eN : H_Mod_read_112 (g + 1) N K = B_Mod_read_112 (H_Mod_read_112 g) N K := rfl
  rw [eM, eN]
  unfold B_Reader_parse_34 B_Mod_read_112
  rw [if_neg (by rw [show (400 : Int32) = nI 400 from rfl, nI_ltI (by omega) (by omega)]; omega), hI.2.1.2.1, if_pos rfl, r_is hI.1 (k := 0) (kk := 0) rfl hI.2.1.1 htm (by decide), bI_s, hI.2.1.2.2.2.1, if_pos rfl, q_is hI.1 (k := 0) (kk := 0) rfl (Or.inl (by decide)) hI.2.1.2.2.1 hI.2.1.2.2.2.1 htm, bI_s]
  by_cases h0 : tkK b n t = 0
  · rw [if_pos h0, if_neg (show ¬ (1 : Int32) = 0 by decide), if_neg (show ¬ (1 : Int32) = 0 by decide)]
    exact ⟨M, L, N, K, rfl, rfl, Or.inl ⟨t, nf, nd, ng, ne, l, a, c, i, hR⟩, Eo.rf, fun _ _ _ => rfl, Kq.rf⟩
  rw [if_neg h0, if_pos (show (0 : Int32) = 0 from rfl), if_pos (show (0 : Int32) = 0 from rfl), r_kind hI.1 hI.2.1.1 htm, bI_s]
  have fin : ∀ (M' : gM) (L' : gL) (N' : gM) (K' : gL), ((∃ t' nf nd ng ne l a c i, t + 1 ≤ t' ∧ RS b n m ld sd t' nf nd ng ne l a c i M' L' N' K') ∨ (Dd b n m M' N' ∧ Mcnt sd N')) → Eo (mP sd) N N' → (∀ c j, c ≠ 409 → K' c j = K c j) → Kq (PD ld) M L M' L' →
      ∃ M2 L2 N2 K2, J_Reader_parse_209 ld (H_Reader_parse_34 ld f) (nI v) M' L' = J_Reader_parse_215 ld M2 L2 ∧ H_Mod_read_112 g N' K' = J_Mod_read_134 N2 K2 ∧ ((∃ t' nf nd ng ne l a c i, RS b n m ld sd t' nf nd ng ne l a c i M2 L2 N2 K2) ∨ (Dd b n m M2 N2 ∧ Mcnt sd N2)) ∧ Eo (mP sd) N N2 ∧ (∀ c j, c ≠ 409 → K2 c j = K c j) ∧ Kq (PD ld) M L M2 L2 := by
    intro M' L' N' K' h hN hK h7
    unfold J_Reader_parse_209
    rw [nmI_e, nI_1]
    rcases h with ⟨t', nf', nd', ng', ne', l', a', c', i', h1, h2⟩ | ⟨h1, h2⟩
    · have htm' := h2.1.2.1.2.2.2.2
      obtain ⟨M2, L2, N2, K2, y1, y2, y3, y4, y5, y6⟩ := ih (401 - t') (by omega) t' rfl (v + 1) f g nf' nd' ng' ne' c' i' l' a' M' L' N' K' h2 (by omega) (by omega) (by omega)
      exact ⟨M2, L2, N2, K2, y1, y2, y3, hN.tr y4, fun c j q => (y5 c j q).trans (hK c j q), h7.trans y6⟩
    · obtain ⟨f, rfl⟩ : ∃ x, f = x + 1 := ⟨f - 1, by omega⟩
      obtain ⟨g, rfl⟩ : ∃ x, g = x + 1 := ⟨g - 1, by omega⟩
      refine ⟨M', L', N', K', ?_, ?_, Or.inr ⟨h1, h2⟩, hN, hK, h7⟩
      · show B_Reader_parse_34 ld (H_Reader_parse_34 ld f) (nI (v + 1)) M' L' = _
        unfold B_Reader_parse_34
        by_cases h4 : 400 < nI (v + 1)
        · rw [if_pos h4]
        · rw [if_neg h4, if_neg h1.nf.2]
      · show B_Mod_read_112 (H_Mod_read_112 g) N' K' = _
        unfold B_Mod_read_112
        rw [if_neg h1.nf.1]
  have ne : ∀ k : Nat, k ≤ 148 → tkK b n t ≠ k → ¬ nI (tkK b n t) = nI k := fun k hk h q => h ((nI_eq (by have := tkK_148 (b := b) (n := n) (i := t); omega) (by omega)).mp q)
  by_cases k0 : tkK b n t = 128
  · obtain ⟨M', L', N', K', e1, e2, e3, e4, e5⟩ := t_food hld hsd hR k0
    rw [if_pos (by rw [k0]; rfl), e1, bI2_s, e2, bI2_s]
    have h7 : Kq (PD ld) M L M' L' := by
      obtain ⟨M9, L9, f1, f2⟩ := tq_Reader_takeFood (Ld1 := ld) (M := M) (L := L) hld
      have f3 := Option.some.inj (f1.symm.trans e1)
      injection f3 with f4 f5
      subst f4
      subst f5
      exact f2
    exact fin M' L' N' K' e3 (e4.mono (fun _ _ q => Or.inl q)) e5 h7
  rw [if_neg (show ¬ nI (tkK b n t) = 128 from ne 128 (by decide) k0)]
  by_cases k1 : tkK b n t = 129
  · obtain ⟨M', L', N', K', e1, e2, e3, e4, e5⟩ := t_dish hld hsd hR k1
    rw [if_pos (by rw [k1]; rfl), e1, bI2_s, e2, bI2_s]
    have h7 : Kq (PD ld) M L M' L' := by
      obtain ⟨M9, L9, f1, f2⟩ := tq_Reader_takeDish (Ld1 := ld) (M := M) (L := L) hld
      have f3 := Option.some.inj (f1.symm.trans e1)
      injection f3 with f4 f5
      subst f4
      subst f5
      exact f2
    exact fin M' L' N' K' e3 (e4.mono (fun _ _ q => Or.inl q)) e5 h7
  rw [if_neg (show ¬ nI (tkK b n t) = 129 from ne 129 (by decide) k1)]
  by_cases k2 : tkK b n t = 130
  · obtain ⟨M', L', N', K', e1, e2, e3, e4, e5⟩ := t_guest hld hsd hR k2
    rw [if_pos (by rw [k2]; rfl), e1, bI2_s, e2, bI2_s]
    have h7 : Kq (PD ld) M L M' L' := by
      obtain ⟨M9, L9, f1, f2⟩ := tq_Reader_takeGuest (Ld1 := ld) (M := M) (L := L) hld
      have f3 := Option.some.inj (f1.symm.trans e1)
      injection f3 with f4 f5
      subst f4
      subst f5
      exact f2
    exact fin M' L' N' K' e3 (e4.mono (fun _ _ q => Or.inl q)) e5 h7
  rw [if_neg (show ¬ nI (tkK b n t) = 130 from ne 130 (by decide) k2)]
  by_cases k3 : tkK b n t = 131
  · obtain ⟨M', L', N', K', e1, e2, e3, e4, e5⟩ := t_deed hld hsd hR k3
    rw [if_pos (by rw [k3]; rfl), e1, bI2_s, e2, bI2_s]
    have h7 : Kq (PD ld) M L M' L' := by
      obtain ⟨M9, L9, f1, f2⟩ := tq_Reader_takeDeed (Ld1 := ld) (M := M) (L := L) hld
      have f3 := Option.some.inj (f1.symm.trans e1)
      injection f3 with f4 f5
      subst f4
      subst f5
      exact f2
    exact fin M' L' N' K' e3 (e4.mono (fun _ _ q => Or.inl q)) e5 h7
  rw [if_neg (show ¬ nI (tkK b n t) = 131 from ne 131 (by decide) k3)]
  by_cases k4 : tkK b n t = 132
  · obtain ⟨M', N', e1, e2, e3, e4⟩ := t_law (w := 0) hld hsd hR (by decide) k4
    rw [if_pos (by rw [k4]; rfl), show F_Reader_takeLaw (ld + 9) M L = some M' from e1, bI_s, e2, bI2_s]
    have h7 : Kq (PD ld) M L M' L := by
      obtain ⟨M9, f1, f2⟩ := tq_Reader_takeLaw (Wl1 := ld + 9) (M := M) (L := L) (Lw_of (w := 0) hld (by decide))
      have f3 := Option.some.inj (f1.symm.trans e1)
      subst f3
      exact f2.mono (PW_PD (by decide))
    exact fin M' L N' K e3 e4 (fun _ _ _ => rfl) h7
  rw [if_neg (show ¬ nI (tkK b n t) = 132 from ne 132 (by decide) k4)]
  by_cases k5 : tkK b n t = 133
  · obtain ⟨M', N', e1, e2, e3, e4⟩ := t_law (w := 1) hld hsd hR (by decide) k5
    rw [if_pos (by rw [k5]; rfl), show F_Reader_takeLaw (ld + 13) M L = some M' from e1, bI_s, e2, bI2_s]
    have h7 : Kq (PD ld) M L M' L := by
      obtain ⟨M9, f1, f2⟩ := tq_Reader_takeLaw (Wl1 := ld + 13) (M := M) (L := L) (Lw_of (w := 1) hld (by decide))
      have f3 := Option.some.inj (f1.symm.trans e1)
      subst f3
      exact f2.mono (PW_PD (by decide))
    exact fin M' L N' K e3 e4 (fun _ _ _ => rfl) h7
  rw [if_neg (show ¬ nI (tkK b n t) = 133 from ne 133 (by decide) k5)]
  by_cases k6 : tkK b n t = 134
  · obtain ⟨M', N', e1, e2, e3, e4⟩ := t_law (w := 2) hld hsd hR (by decide) k6
    rw [if_pos (by rw [k6]; rfl), show F_Reader_takeLaw (ld + 17) M L = some M' from e1, bI_s, e2, bI2_s]
    have h7 : Kq (PD ld) M L M' L := by
      obtain ⟨M9, f1, f2⟩ := tq_Reader_takeLaw (Wl1 := ld + 17) (M := M) (L := L) (Lw_of (w := 2) hld (by decide))
      have f3 := Option.some.inj (f1.symm.trans e1)
      subst f3
      exact f2.mono (PW_PD (by decide))
    exact fin M' L N' K e3 e4 (fun _ _ _ => rfl) h7
  rw [if_neg (show ¬ nI (tkK b n t) = 134 from ne 134 (by decide) k6)]
  by_cases k7 : tkK b n t = 135
  · obtain ⟨M', N', e1, e2, e3, e4⟩ := t_law (w := 3) hld hsd hR (by decide) k7
    rw [if_pos (by rw [k7]; rfl), show F_Reader_takeLaw (ld + 21) M L = some M' from e1, bI_s, e2, bI2_s]
    have h7 : Kq (PD ld) M L M' L := by
      obtain ⟨M9, f1, f2⟩ := tq_Reader_takeLaw (Wl1 := ld + 21) (M := M) (L := L) (Lw_of (w := 3) hld (by decide))
      have f3 := Option.some.inj (f1.symm.trans e1)
      subst f3
      exact f2.mono (PW_PD (by decide))
    exact fin M' L N' K e3 e4 (fun _ _ _ => rfl) h7
  rw [if_neg (show ¬ nI (tkK b n t) = 135 from ne 135 (by decide) k7)]
  by_cases k8 : tkK b n t = 136
  · obtain ⟨M', N', K', e1, e2, e3, e4, e5⟩ := t_seed hld hsd hR k8
    rw [if_pos (by rw [k8]; rfl), e1, bI_s, e2, bI2_s]
    have h7 : Kq (PD ld) M L M' L := by
      obtain ⟨M9, f1, f2⟩ := tq_Reader_takeSeed (Ld1 := ld) (M := M) (L := L) hld
      have f3 := Option.some.inj (f1.symm.trans e1)
      subst f3
      exact f2
    exact fin M' L N' K' e3 (e4.mono (fun _ _ q => Or.inl q)) e5 h7
  rw [if_neg (show ¬ nI (tkK b n t) = 136 from ne 136 (by decide) k8)]
  obtain ⟨M1, N1, q1, q2, q3, q4⟩ := p_fail (k := 1) (kk := 1) rfl (Or.inl rfl) (Or.inl ⟨hI.1, hI.2.1⟩)
  obtain ⟨kk, ft, u, a1, a2, a3, a4, a5, a6, a7, a8⟩ := id q3
  rw [q1, bI_s, m_tellX (k := tkK b n t) hI.2.1.2.2.1 (by omega) (hI.1.2.2.1 t (by omega)).1 (by unfold othK; simp only [Bool.or_eq_true, decide_eq_true_eq]; omega) tkK_dom, q2, bI_s]
  unfold J_Mod_tellOne_380
  rw [if_neg (by rw [a5]; exact nI_nle (by omega) (by omega)), bI2_s]
  exact fin M1 L N1 K (Or.inr ⟨q3, hR.2.2.1.mc.keep (fun c hc => q4 c sd (by unfold mS; omega))⟩) (q4.mono (fun _ _ q => Or.inl (mS_mT _ _ q))) (fun _ _ _ => rfl) (by
    obtain ⟨M9, f1, f2⟩ := tq_Reader_stop (p1 := 1) (M := M) (L := L)
    have f3 := Option.some.inj (f1.symm.trans q1)
    subst f3
    exact f2.mono P3_PD)
end PAR16
