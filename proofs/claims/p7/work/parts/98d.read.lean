/-! the answer of a read and its place -/
section PAR18
variable {b : Nat → Nat} {n m : Nat}
theorem p_ans {ld sd : Nat} {M N : gM} {L K : gL} (h : (∃ t' nf nd ng ne l a c i, RS b n m ld sd t' nf nd ng ne l a c i M L N K) ∨ (Dd b n m M N ∧ Mcnt sd N)) (hl : isLast b n m) (h7 : ∀ j, j ≤ m → M 7 j = nI (tkF b n j)) :
    ∃ k M3 pl, k ≤ 5 ∧ J_Reader_parse_215 ld M L = some (nI k, M3, L) ∧ F_Reader_placeOfFault M3 = some pl ∧ J_Mod_read_134 N K = J_Mod_read_164 pl N K ∧ Eo (fun c j => c = 3 ∧ (j = 2 ∨ j = 3)) M M3 ∧
      ((k = 0 ∧ pl = -1 ∧ M 3 4 = 0 ∧ N 401 13 = 0 ∧ N 401 15 = 0 ∧ ∃ t' nf nd ng ne l a c i, RS b n m ld sd t' nf nd ng ne l a c i M L N K) ∨ (k ≠ 0 ∧ J_Mod_read_164 pl N K = some (nI k, uM N 401 17 pl, K) ∧ Mcnt sd N)) := by
  have hm := hl.1
  rcases h with ⟨t', nf, nd, ng, ne, l, a, c, i, hR⟩ | ⟨hd, hmc⟩
  · obtain ⟨lf, hL⟩ := hR.1.2.2
    have hlv := hR.1.2.1
    have htm := hlv.2.2.2.2
    have e1 : J_Reader_parse_215 ld M L = some (nI lf, uM (uM M 3 2 (nI lf)) 3 3 (M 3 5), L) := by
      unfold J_Reader_parse_215
      rw [hlv.2.1, if_pos rfl, nmM_e, hL.1, uM_diff (by omega), nmM_e, uM_diff (by omega), uM_same]
    have hE : Eo (fun c j => c = 3 ∧ (j = 2 ∨ j = 3)) M (uM (uM M 3 2 (nI lf)) 3 3 (M 3 5)) := (Eo.rf.u ⟨rfl, Or.inl rfl⟩).u ⟨rfl, Or.inr rfl⟩
    have s2 : uM (uM M 3 2 (nI lf)) 3 3 (M 3 5) 3 2 = nI lf := by rw [uM_diff (by omega), uM_same]
    by_cases h0 : lf = 0
    · subst h0
      refine ⟨0, _, -1, by decide, e1, ?_, ?_, hE, Or.inl ⟨rfl, rfl, hL.1, hlv.2.2.2.1, hL.2.1, t', nf, nd, ng, ne, l, a, c, i, hR⟩⟩
      · unfold F_Reader_placeOfFault
        rw [s2, if_pos (show nI 0 = 0 from rfl)]
      · unfold J_Mod_read_134
        rw [hlv.2.2.2.1, if_pos (by decide), hL.2.1, if_pos (by decide)]
    · obtain ⟨la, a1, a2, a3⟩ := hL.2.2.2 h0
      have hlf := hL.2.2.1
      refine ⟨lf, _, nI (tkF b n la), hlf, e1, ?_, ?_, hE, Or.inr ⟨h0, ?_, hR.2.2.1.mc⟩⟩
      · unfold F_Reader_placeOfFault
        rw [s2, if_neg (nI_ne0 (by omega) (by omega)), uM_same, a2, s_at (by omega) (by decide), bI_s, uM_diff (by omega), uM_diff (by omega), h7 la (by omega)]
      · unfold J_Mod_read_134
        rw [hlv.2.2.2.1, if_pos (by decide), hL.2.1, if_neg (nI_nle (by omega) (by omega)), a3]
      · unfold J_Mod_read_164
        rw [nmM_e, uM_diff (by omega), hlv.2.2.2.1, if_pos (by decide), uM_diff (by omega), hL.2.1, if_neg (nI_nle (by omega) (by omega))]
  · obtain ⟨k, ft, u, a1, a2, a3, a4, a5, a6, a7, a8⟩ := id hd
    refine ⟨k, M, nI (tkF b n ft), by omega, ?_, ?_, ?_, Eo.rf, Or.inr ⟨by omega, ?_, hmc⟩⟩
    · unfold J_Reader_parse_215
      rw [if_neg hd.nf.2, a3]
    · unfold F_Reader_placeOfFault
      rw [if_neg hd.nf.2, a4, s_at (by omega) (by decide), bI_s, h7 ft a2]
    · unfold J_Mod_read_134
      rw [if_neg (by rw [a5]; exact nI_nle (by omega) (by omega)), a6]
    · unfold J_Mod_read_164
      rw [nmM_e, uM_diff (by omega), if_neg (by rw [a5]; exact nI_nle (by omega) (by omega)), a5]
end PAR18
