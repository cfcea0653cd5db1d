/-! from the bytes to the first token -/
section PAR17
variable {b : Nat → Nat} {n m : Nat}
theorem c_clear {ld : Nat} {M : gM} (hld : 12 ≤ ld) : ∃ M', F_Land_clear ld M = some M' ∧ (∀ j, j < 5 → M' ld j = 0) ∧ (∀ j, j < 30 → M' (ld + 5) j = 0) ∧ (∀ w, w < 4 → M' (ld + 9 + 4 * w) 1 = 0) ∧ Eo (fun c _ => (ld ≤ c ∧ c ≤ ld + 5) ∨ c = ld + 9 ∨ c = ld + 13 ∨ c = ld + 17 ∨ c = ld + 21) M M' := by
  unfold F_Land_clear F_Law_clear
  rw [nmM_e, nmM_e, nmM_e, nmM_e, nmM_e, s_wipe (by decide), bI_s, nmM_e, bI_s, nmM_e, bI_s, nmM_e, bI_s, nmM_e, bI_s]
  refine ⟨_, rfl, fun j hj => ?_, fun j hj => ?_, fun w hw => ?_, ?_⟩
  · rw [uM_diff (by omega), uM_diff (by omega), uM_diff (by omega), uM_diff (by omega), fl_out (by omega)]
    rcases (show j = 0 ∨ j = 1 ∨ j = 2 ∨ j = 3 ∨ j = 4 by omega) with e | e | e | e | e <;> subst e
    · rw [uM_diff (by omega), uM_diff (by omega), uM_diff (by omega), uM_diff (by omega), uM_same]
    · rw [uM_diff (by omega), uM_diff (by omega), uM_diff (by omega), uM_same]
    · rw [uM_diff (by omega), uM_diff (by omega), uM_same]
    · rw [uM_diff (by omega), uM_same]
    · rw [uM_same]
  · rw [uM_diff (by omega), uM_diff (by omega), uM_diff (by omega), uM_diff (by omega), fl_in (by omega)]
  · rcases (show w = 0 ∨ w = 1 ∨ w = 2 ∨ w = 3 by omega) with e | e | e | e <;> subst e
    · rw [uM_diff (by omega), uM_diff (by omega), uM_diff (by omega)]; exact uM_same
    · rw [uM_diff (by omega), uM_diff (by omega)]; exact uM_same
    · rw [uM_diff (by omega)]; exact uM_same
    · exact uM_same
  · intro c j q
    rw [uM_diff (by omega), uM_diff (by omega), uM_diff (by omega), uM_diff (by omega), fl_out (by omega), uM_diff (by omega), uM_diff (by omega), uM_diff (by omega), uM_diff (by omega), uM_diff (by omega)]
theorem m_plainL {sd : Nat} (hsd : sd ≤ 1) : ∀ (d v g : Nat) (N : gM), v + d = 4 → d < g → ∃ N', H_Mod_plain_37 (nI sd) g (nI v) N = some N' ∧ (∀ w, v ≤ w → w < 4 → N' 424 (4 * sd + w) = 0 ∧ N' 425 (4 * sd + w) = 0) ∧ Eo (fun c j => (c = 424 ∨ c = 425) ∧ 4 * sd + v ≤ j ∧ j < 4 * sd + 4) N N' := by
  intro d
  induction d with
  | zero =>
    intro v g N hv hg
    obtain ⟨g, rfl⟩ : ∃ x, g = x + 1 := ⟨g - 1, by omega⟩
    obtain rfl : v = 4 := by omega
    refine ⟨N, ?_, fun w h1 h2 => absurd h2 (by omega), Eo.rf⟩
    show B_Mod_plain_37 (nI sd) (H_Mod_plain_37 (nI sd) g) (nI 4) N = _
    unfold B_Mod_plain_37
    rw [if_pos (by decide)]
  | succ d ih =>
    intro v g N hv hg
    obtain ⟨g, rfl⟩ : ∃ x, g = x + 1 := ⟨g - 1, by omega⟩
    have ew : (4 : Int32) * nI sd + nI v = nI (4 * sd + v) := by rw [show (4 : Int32) = nI 4 from rfl, nI_mul, nI_add]
    obtain ⟨N', e1, e2, e3⟩ := ih (v + 1) g (uM (uM N 424 (4 * sd + v) 0) 425 (4 * sd + v) 0) (by omega) (by omega)
    refine ⟨N', ?_, fun w h1 h2 => ?_, Eo.tr ((Eo.rf.u ⟨Or.inl rfl, by omega⟩).u ⟨Or.inr rfl, by omega⟩) (e3.mono (fun c j q => by omega))⟩
    · show B_Mod_plain_37 (nI sd) (H_Mod_plain_37 (nI sd) g) (nI v) N = _
      unfold B_Mod_plain_37
      rw [if_neg (by rw [show (4 : Int32) = nI 4 from rfl, nI_leI (by omega) (by omega)]; omega), ew, nI_clamp (by omega), if_neg (nI_inc (by omega) (by omega)), nmM_e, if_neg (nI_inc (by omega) (by omega)), nmM_e, nmI_e, nI_1]
      exact e1
    · by_cases e : w = v
      · rw [e, e3 424 _ (by omega), e3 425 _ (by omega), uM_diff (by omega), uM_same, uM_same]
        exact ⟨rfl, rfl⟩
      · exact e2 w (by omega) h2
theorem m_plain {sd : Nat} {N : gM} (hsd : sd ≤ 1) : ∃ N', F_Mod_plain (nI sd) N = some N' ∧ (∀ c, (c = 411 ∨ c = 415 ∨ c = 418 ∨ c = 420 ∨ c = 423) → N' c sd = 0) ∧ (∀ w, w < 4 → N' 424 (4 * sd + w) = 0 ∧ N' 425 (4 * sd + w) = 0) ∧ Eo (fun c j => ((c = 411 ∨ c = 415 ∨ c = 418 ∨ c = 420 ∨ c = 423) ∧ j = sd) ∨ ((c = 424 ∨ c = 425) ∧ 4 * sd ≤ j ∧ j < 4 * sd + 4)) N N' := by
  unfold F_Mod_plain
  have hg : ¬ (nI sd < 0 ∨ 2 ≤ sd) := nI_inc (by omega) (by omega)
  rw [nI_clamp (by omega), if_neg hg, nmM_e, if_neg hg, nmM_e, if_neg hg, nmM_e, if_neg hg, nmM_e, if_neg hg, nmM_e]
  obtain ⟨N', e1, e2, e3⟩ := m_plainL hsd 4 0 FU (uM (uM (uM (uM (uM N 411 sd 0) 415 sd 0) 418 sd 0) 420 sd 0) 423 sd 0) rfl (by unfold FU; omega)
  refine ⟨N', e1, fun c hc => ?_, fun w hw => e2 w (Nat.zero_le _) hw, ?_⟩
  · rw [e3 c sd (by omega)]
    rcases hc with e | e | e | e | e <;> subst e
    · rw [uM_diff (by omega), uM_diff (by omega), uM_diff (by omega), uM_diff (by omega), uM_same]
    · rw [uM_diff (by omega), uM_diff (by omega), uM_diff (by omega), uM_same]
    · rw [uM_diff (by omega), uM_diff (by omega), uM_same]
    · rw [uM_diff (by omega), uM_same]
    · rw [uM_same]
  · refine Eo.tr (((((Eo.rf.u ?_).u ?_).u ?_).u ?_).u ?_) (e3.mono (fun c j q => Or.inr (by omega))) <;> exact Or.inl ⟨by omega, rfl⟩
theorem tk_of {M N : gM} {L K : gL} {m2 : Nat} (h1 : isLast b n m) (h2 : Ck b n m M L) (h3 : m2 = 401 ∨ 0 < m2 ∧ tkK b n (m2 - 1) = 0) (h4 : Ckm b n m2 N K) (hn : n ≤ 2000) : Tk b n m M L N K := by
  refine ⟨h1, h2, fun i hi => h4 i ?_, hn⟩
  have hm := h1.1
  rcases h3 with h3 | ⟨h3, h5⟩
  · omega
  · rcases Nat.lt_or_ge (m2 - 1) m with g | g
    · exact absurd h5 (h1.2.1 _ g).1
    · omega
/-- both parsers, from the bytes on -/
theorem p_parse {ld sd : Nat} {M N : gM} {L K : gL} (hld : isLa ld) (hsd : sd ≤ 1) (hT : Tp b n M) (hW : Wdc L) (hX : Tx b n N) (hWm : Wdm K) (h18 : N 401 18 = nI (1 - sd)) :
    ∃ m M' L' N' K', F_Reader_parse ld M L = J_Reader_parse_215 ld M' L' ∧ J_Mod_read_36 N K = J_Mod_read_134 N' K' ∧ ((∃ t' nf nd ng ne l a c i, RS b n m ld sd t' nf nd ng ne l a c i M' L' N' K') ∨ (Dd b n m M' N' ∧ Mcnt sd N')) ∧ Eo (fun c j => mP sd c j ∨ tkS c j ∨ (c = 401 ∧ (j = 2 ∨ j = 19))) N N' ∧ (∀ c j, c ≠ 407 → c ≠ 409 → K' c j = K c j) ∧ isLast b n m ∧ (∀ j, j ≤ m → M' 7 j = nI (tkF b n j)) ∧ (∀ c j, PD ld c j = false → c ≠ 6 → c ≠ 7 → M' c j = M c j) ∧ (∀ c j, c ≠ 8 → c ≠ 9 → L' c j = L c j) ∧ N' 401 2 = 0 := by
  have h12 := La_12 hld
  obtain ⟨m, M2, L3, x1, x2, x3, x4, x5⟩ := c_cut hT hW
  have hX2 : Tx b n (uM N 401 2 0) := ⟨by rw [uM_diff (by omega)]; exact hX.1, hX.2.1, fun j hj => by rw [uM_diff (by omega)]; exact hX.2.2 j hj⟩
  obtain ⟨m2, N2, K2, y1, y2, y3, y4, y5⟩ := m_cut hX2 hWm
  obtain ⟨M5, z1, z2, z3, z4, z5⟩ := c_clear (ld := ld) (M := M2) h12
  unfold F_Reader_parse J_Mod_read_36
  rw [x2, bI2_s, z1, bI_s, nmM_e, nmM_e, nmM_e, nmM_e, nmM_e, y1, bI2_s, nmM_e, nmM_e, nmM_e, nmM_e, nmM_e, nmM_e]
  have e18 : N2 401 18 = nI (1 - sd) := by rw [y4 401 18 (by unfold tkS; omega), uM_diff (by omega)]; exact h18
  have e19 : (1 : Int32) - nI (1 - sd) = nI sd := by rw [show (1 : Int32) = nI 1 from rfl, nI_sub (by omega), show 1 - (1 - sd) = sd by omega]
  rw [show uM (uM (uM (uM N2 401 11 0) 401 12 0) 401 13 0) 401 15 0 401 18 = nI (1 - sd) by rw [uM_diff (by omega), uM_diff (by omega), uM_diff (by omega), uM_diff (by omega)]; exact e18, e19]
  generalize hN12 : uM (uM (uM (uM (uM (uM N2 401 11 0) 401 12 0) 401 13 0) 401 15 0) 401 19 (nI sd)) 401 20 0 = N12
  have q19 : N12 401 19 = nI sd := by rw [← hN12, uM_diff (by omega), uM_same]
  have f12 : Eo (fun c j => c = 401 ∧ (j = 11 ∨ j = 12 ∨ j = 13 ∨ j = 15 ∨ j = 19 ∨ j = 20)) N2 N12 := by
    rw [← hN12]
    exact (((((Eo.rf.u ⟨rfl, by omega⟩).u ⟨rfl, by omega⟩).u ⟨rfl, by omega⟩).u ⟨rfl, by omega⟩).u ⟨rfl, by omega⟩).u ⟨rfl, by omega⟩
  obtain ⟨N14, p1, p2, p3, p4⟩ := m_plain (sd := sd) (N := N12) hsd
  rw [q19, p1, bI_s, show N14 401 19 = nI sd by rw [p4 401 19 (by omega)]; exact q19, nmM_e, uM_diff (by omega), show N14 401 19 = nI sd by rw [p4 401 19 (by omega)]; exact q19, nmM_e, show (130 : Int32) = nI 130 from rfl, show (420 : Int32) = nI 420 from rfl, nI_mul, nI_mul]
  generalize hM9 : uM (uM (uM (uM M5 3 1 0) 3 2 0) 3 4 0) 3 8 0 = M9
  generalize hN16 : uM (uM N14 401 38 (nI (130 * sd))) 401 44 (nI (420 * sd)) = N16
  have fM : Eo (fun c j => c = 3 ∧ (j = 1 ∨ j = 2 ∨ j = 4 ∨ j = 8)) M5 M9 := by
    rw [← hM9]
    exact (((Eo.rf.u ⟨rfl, by omega⟩).u ⟨rfl, by omega⟩).u ⟨rfl, by omega⟩).u ⟨rfl, by omega⟩
  have fN : Eo (fun c j => c = 401 ∧ (j = 38 ∨ j = 44)) N14 N16 := by
    rw [← hN16]
    exact (Eo.rf.u ⟨rfl, by omega⟩).u ⟨rfl, by omega⟩
  have m1 : M9 3 1 = 0 := by rw [← hM9, uM_diff (by omega), uM_diff (by omega), uM_diff (by omega), uM_same]
  have m2' : M9 3 2 = 0 := by rw [← hM9, uM_diff (by omega), uM_diff (by omega), uM_same]
  have m4 : M9 3 4 = 0 := by rw [← hM9, uM_diff (by omega), uM_same]
  have m8 : M9 3 8 = 0 := by rw [← hM9, uM_same]
  have nn : ∀ j, j ≠ 38 → j ≠ 44 → N16 401 j = N12 401 j := fun j a1 a2 => by rw [fN 401 j (by omega), p4 401 j (by omega)]
  have n11 : N12 401 11 = 0 := by rw [← hN12, uM_diff (by omega), uM_diff (by omega), uM_diff (by omega), uM_diff (by omega), uM_diff (by omega), uM_same]
  have n12 : N12 401 12 = 0 := by rw [← hN12, uM_diff (by omega), uM_diff (by omega), uM_diff (by omega), uM_diff (by omega), uM_same]
  have n13 : N12 401 13 = 0 := by rw [← hN12, uM_diff (by omega), uM_diff (by omega), uM_diff (by omega), uM_same]
  have n15 : N12 401 15 = 0 := by rw [← hN12, uM_diff (by omega), uM_diff (by omega), uM_same]
  have n20 : N12 401 20 = 0 := by rw [← hN12, uM_same]
  have hTk : Tk b n m M9 L3 N16 K2 := (tk_of x1 x3 y2.2 y3 hT.2.1).keep (fun j => by rw [fM 6 j (by omega), z5 6 j (by omega)]) (fun j => by rw [fM 7 j (by omega), z5 7 j (by omega)]) (fun _ => rfl) (fun j => by rw [fN 404 j (by omega), p4 404 j (by omega), f12 404 j (by omega)]) (fun j => by rw [fN 405 j (by omega), p4 405 j (by omega), f12 405 j (by omega)]) (fun j => by rw [fN 406 j (by omega), p4 406 j (by omega), f12 406 j (by omega)]) (fun _ => rfl)
  have zz : ∀ j, j < 5 → M9 ld j = 0 := fun j hj => by rw [fM ld j (by omega)]; exact z2 j hj
  have pz : ∀ c, (c = 411 ∨ c = 415 ∨ c = 418 ∨ c = 420 ∨ c = 423) → N16 c sd = 0 := fun c hc => by rw [fN c sd (by omega)]; exact p2 c hc
  have hR : RS b n m ld sd 0 0 0 0 0 (fun _ => []) (fun _ => 0) (420 * sd) (130 * sd) M9 L3 N16 K2 := by
    refine ⟨⟨hTk, ⟨m1, m2', by rw [nn 11 (by omega) (by omega)]; exact n11, by rw [nn 13 (by omega) (by omega)]; exact n13, Nat.zero_le _⟩, 0, m4, by rw [nn 15 (by omega) (by omega)]; exact n15, Nat.zero_le _, fun q => absurd rfl q⟩, ⟨by rw [nn 19 (by omega) (by omega)]; exact q19, by rw [nn 12 (by omega) (by omega)]; exact n12, by rw [← hN16, uM_same], by rw [← hN16, uM_diff (by omega), uM_same], by omega, by omega⟩, ⟨⟨zz 0 (by decide), pz 411 (by omega), Nat.zero_le _⟩, ⟨zz 1 (by decide), pz 415 (by omega), Nat.zero_le _⟩, ⟨zz 2 (by decide), pz 418 (by omega), Nat.zero_le _⟩, ⟨zz 3 (by decide), pz 420 (by omega), Nat.zero_le _⟩⟩, ⟨by rw [nn 20 (by omega) (by omega)]; exact n20, fun k hk => absurd hk (Nat.not_lt_zero _)⟩, fun k hk => absurd hk (Nat.not_lt_zero _), fun _ => ⟨⟨m8, fun k hk => absurd hk (Nat.not_lt_zero _)⟩, fun i j hi => absurd hi (Nat.not_lt_zero _), fun k hk => absurd hk (Nat.not_lt_zero _), ⟨fun k hk => absurd hk (Nat.not_lt_zero _), fun j _ hj => by rw [fM (ld + 5) j (by omega)]; exact z3 j hj⟩, fun k hk => absurd hk (Nat.not_lt_zero _), fun k hk => absurd hk (Nat.not_lt_zero _), ⟨0, Nat.zero_le _, zz 4 (by decide), pz 423 (by omega)⟩⟩, fun w hw => Or.inl ⟨by rw [fM (ld + 9 + 4 * w) 1 (by omega)]; exact z4 w hw, ?_, ?_⟩⟩
    · rw [fN 424 _ (by omega)]; exact (p3 w hw).1
    · rw [fN 425 _ (by omega)]; exact (p3 w hw).2
  obtain ⟨M', L', N', K', r1, r2, r3, r4, r5, r6⟩ := l_parse hld hsd 401 0 rfl 0 FU FU _ _ _ _ _ _ _ _ M9 L3 N16 K2 hR (Nat.le_refl _) (by unfold FU; omega) (by unfold FU; omega)
  refine ⟨m, M', L', N', K', r1, r2, r3, ?_, fun c j a1 a2 => (r5 c j a2).trans (y5 c j a1), x1, fun j hj => (r6.1 7 j (pd7 hld)).trans (hTk.2.1 j hj).2.1, fun c j q1 q2 q3 => ?_, fun c j q1 q2 => (r6.2.1 c j q1 q2).trans (x5 c j q1), by rw [r4 401 2 (by unfold mP mT; omega), nn 2 (by omega) (by omega), f12 401 2 (by omega), y4 401 2 (by unfold tkS; omega), uM_same]⟩
  rotate_left
  · have q4 := PD_n q1
    rw [r6.1 c j q1, fM c j (by omega), z5 c j (by omega), x4 c j (by omega)]
  have e1 : Eo (fun c j => mP sd c j ∨ tkS c j ∨ (c = 401 ∧ (j = 2 ∨ j = 19))) N (uM N 401 2 0) := Eo.rf.u (Or.inr (Or.inr ⟨rfl, Or.inl rfl⟩))
  have e2 : Eo (fun c j => mP sd c j ∨ tkS c j ∨ (c = 401 ∧ (j = 2 ∨ j = 19))) (uM N 401 2 0) N2 := y4.mono (fun c j q => Or.inr (Or.inl q))
  have e3 : Eo (fun c j => mP sd c j ∨ tkS c j ∨ (c = 401 ∧ (j = 2 ∨ j = 19))) N2 N12 := f12.mono (fun c j q => by
    rcases q.2 with e | e | e | e | e | e
    · exact Or.inl (Or.inl (Or.inl ⟨q.1, by omega⟩))
    · exact Or.inl (Or.inr ⟨q.1, e⟩)
    · exact Or.inl (Or.inl (Or.inl ⟨q.1, by omega⟩))
    · exact Or.inl (Or.inl (Or.inl ⟨q.1, by omega⟩))
    · exact Or.inr (Or.inr ⟨q.1, Or.inr e⟩)
    · exact Or.inl (Or.inl (Or.inl ⟨q.1, by omega⟩)))
  have e4 : Eo (fun c j => mP sd c j ∨ tkS c j ∨ (c = 401 ∧ (j = 2 ∨ j = 19))) N12 N14 := p4.mono (fun c j q => by
    rcases q with q | q
    · exact Or.inl (Or.inl (by unfold mT; right; right; right; left; exact q))
    · exact Or.inl (Or.inl (by unfold mT; right; right; right; right; right; right; right; right; left; omega)))
  have e5 : Eo (fun c j => mP sd c j ∨ tkS c j ∨ (c = 401 ∧ (j = 2 ∨ j = 19))) N14 N16 := fN.mono (fun c j q => Or.inl (Or.inl (Or.inl ⟨q.1, by omega⟩)))
  exact ((((e1.tr e2).tr e3).tr e4).tr e5).tr (r4.mono (fun c j q => Or.inl q))
end PAR17
