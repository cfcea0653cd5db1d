/-! foods -/
section PAR12
variable {b : Nat → Nat} {n m : Nat}
theorem c_foodLD {ld nf : Nat} {N : gM} {L : gL} (hld : 12 ≤ ld) (hnf : nf < 6) : ∀ (d j f : Nat) (M : gM), j + d = 3 → d < f → Dd b n m M N → ∃ M', H_Reader_takeFood_56 ld (nI nf) L f (nI j) M = some (M', L) ∧ Dd b n m M' N := by
  intro d
  induction d with
  | zero =>
    intro j f M hj hf hd
    obtain ⟨f, rfl⟩ : ∃ x, f = x + 1 := ⟨f - 1, by omega⟩
    obtain rfl : j = 3 := by omega
    obtain ⟨M4, e4, h4⟩ := tq_Reader_need (p1 := 59) (M := M) (L := L)
    show ∃ M', B_Reader_takeFood_56 ld (nI nf) L (H_Reader_takeFood_56 ld (nI nf) L f) (nI 3) M = _ ∧ _
    unfold B_Reader_takeFood_56 J_Reader_takeFood_85
    rw [if_pos (by decide), e4, bI_s, nmM_e]
    exact ⟨_, rfl, (hd.cl h4).put1 hld⟩
  | succ d ih =>
    intro j f M hj hf hd
    obtain ⟨f, rfl⟩ : ∃ x, f = x + 1 := ⟨f - 1, by omega⟩
    obtain ⟨r, M2, e2, -, h2⟩ := tq_Reader_takeInt (p1 := 9) (M := M) (L := L)
    show ∃ M', B_Reader_takeFood_56 ld (nI nf) L (H_Reader_takeFood_56 ld (nI nf) L f) (nI j) M = _ ∧ _
    unfold B_Reader_takeFood_56
    have ew : nI nf * 3 + nI j = nI (3 * nf + j) := by rw [show (3 : Int32) = nI 3 from rfl, nI_mul, nI_add, Nat.mul_comm]
    rw [if_neg (by rw [show (3 : Int32) = nI 3 from rfl, nI_leI (by omega) (by omega)]; omega), e2, bI2_s, ew, s_put (by omega) (by decide), bI_s, nmI_e, nI_1]
    exact ih (j + 1) f _ (by omega) (by omega) ((hd.cl h2).put1 (by omega))
theorem c_foodD {ld nf : Nat} {M N : gM} {L : gL} (hld : 12 ≤ ld) (hnf : nf < 6) (hd : Dd b n m M N) : ∃ M' L', (bI2 (F_Reader_takeNewName (nI nf) M L) (fun M6 L7 => bI2 (F_Reader_takeInt 99 M6 L7) (fun r9 M10 => bI (F_Main_put (ld + 1) 6 (nI nf) r9 M10) (fun M12 => bI2 (F_Reader_takeInt 9 M12 L7) (fun r14 M15 => bI (F_Main_put (ld + 2) 6 (nI nf) r14 M15) (fun M17 => H_Reader_takeFood_56 ld (nI nf) L7 FU 0 M17)))))) = some (M', L') ∧ Dd b n m M' N := by
  obtain ⟨M1, L1, e1, h1⟩ := tq_Reader_takeNewName (p1 := nI nf) (M := M) (L := L)
  obtain ⟨r, M2, e2, -, h2⟩ := tq_Reader_takeInt (p1 := 99) (M := M1) (L := L1)
  obtain ⟨r', M3, e3, -, h3⟩ := tq_Reader_takeInt (p1 := 9) (M := uM M2 (ld + 1) nf r) (L := L1)
  obtain ⟨M4, e4, h4⟩ := c_foodLD (N := N) (L := L1) hld hnf 3 0 FU (uM M3 (ld + 2) nf r') rfl (by unfold FU; omega) ((((hd.cl h1).cl h2).put1 (by omega)).cl h3 |>.put1 (by omega))
  rw [e1, bI2_s, e2, bI2_s, s_put hnf (by decide), bI_s, e3, bI2_s, s_put hnf (by decide), bI_s]
  exact ⟨_, _, e4, h4⟩
/-- what a food brings -/
theorem i_brings {ld sd nf t : Nat} {x4 : Int32} {L K : gL} (hld : 12 ≤ ld) (hnf : nf < 6) (hsd : sd ≤ 1) : ∀ (d j f g : Nat) (M N : gM), j + d = 3 → d < f → d < g → IS b n m (t + j) M L N K ∨ Dd b n m M N →
    ∃ M' N', H_Reader_takeFood_56 ld (nI nf) L f (nI j) M = J_Reader_takeFood_85 ld (nI nf) M' L ∧ H_Mod_tellFood_51 (nI (6 * sd + nf)) x4 K g (nI j) N = J_Mod_tellFood_79 x4 N' K ∧
      ((IS b n m (t + 3) M' L N' K ∧ IS b n m (t + j) M L N K ∧ (M' 3 4 = 0 → M 3 4 = 0) ∧ (∀ i, j ≤ i → i < 3 → ∃ v, M' (ld + 3) (3 * nf + i) = nI v ∧ N' 414 (3 * (6 * sd + nf) + i) = nI v ∧ (M' 3 4 = 0 → v ≤ 9)) ∧ Eo (fun c i => cI c i ∨ (c = ld + 3 ∧ 3 * nf + j ≤ i ∧ i < 3 * nf + 3)) M M') ∨ Dd b n m M' N') ∧ Eo (fun c i => mI c i ∨ (c = 414 ∧ 3 * (6 * sd + nf) + j ≤ i ∧ i < 3 * (6 * sd + nf) + 3)) N N' := by
  intro d
  induction d with
  | zero =>
    intro j f g M N hj hf hg hO
    obtain ⟨f, rfl⟩ : ∃ x, f = x + 1 := ⟨f - 1, by omega⟩
    obtain ⟨g, rfl⟩ : ∃ x, g = x + 1 := ⟨g - 1, by omega⟩
    obtain rfl : j = 3 := by omega
    refine ⟨M, N, ?_, ?_, hO.imp (fun h => ⟨h, h, id, fun i h1 h2 => absurd h2 (by omega), Eo.rf⟩) id, Eo.rf⟩
    · show B_Reader_takeFood_56 ld (nI nf) L (H_Reader_takeFood_56 ld (nI nf) L f) (nI 3) M = _
      unfold B_Reader_takeFood_56
      rw [if_pos (by decide)]
    · show B_Mod_tellFood_51 (nI (6 * sd + nf)) x4 K (H_Mod_tellFood_51 (nI (6 * sd + nf)) x4 K g) (nI 3) N = _
      unfold B_Mod_tellFood_51
      rw [if_pos (by decide)]
  | succ d ih =>
    intro j f g M N hj hf hg hO
    obtain ⟨f, rfl⟩ : ∃ x, f = x + 1 := ⟨f - 1, by omega⟩
    obtain ⟨g, rfl⟩ : ∃ x, g = x + 1 := ⟨g - 1, by omega⟩
    obtain ⟨r3, M3, r3', N3, g5, g6, g7, g8⟩ := i_int (mo := 9) (kk := 9) (t := t + j) rfl (by decide) hO
    have hO3 := O_put (a := ld + 3) (p := 3 * nf + j) (x := r3) (q := 414) (p' := 3 * (6 * sd + nf) + j) (y := r3') (g7.imp (fun q => q.1) id) (by omega) (by omega)
    obtain ⟨M', N', y1, y2, y3, y4⟩ := ih (j + 1) f g _ _ (by omega) (by omega) (by omega) hO3
    have ew : nI nf * 3 + nI j = nI (3 * nf + j) := by rw [show (3 : Int32) = nI 3 from rfl, nI_mul, nI_add, Nat.mul_comm]
    have ew2 : (3 : Int32) * nI (6 * sd + nf) + nI j = nI (3 * (6 * sd + nf) + j) := by rw [show (3 : Int32) = nI 3 from rfl, nI_mul, nI_add]
    have hlt : ¬ (3 : Int32) ≤ nI j := by rw [show (3 : Int32) = nI 3 from rfl, nI_leI (by omega) (by omega)]; omega
    refine ⟨M', N', ?_, ?_, ?_, ?_⟩
    · show B_Reader_takeFood_56 ld (nI nf) L (H_Reader_takeFood_56 ld (nI nf) L f) (nI j) M = _
      unfold B_Reader_takeFood_56
      rw [if_neg hlt, g5, bI2_s, ew, s_put (by omega) (by decide), bI_s, nmI_e, nI_1]
      exact y1
    · show B_Mod_tellFood_51 (nI (6 * sd + nf)) x4 K (H_Mod_tellFood_51 (nI (6 * sd + nf)) x4 K g) (nI j) N = _
      unfold B_Mod_tellFood_51
      rw [if_neg hlt, g6, bI2_s, ew2, nI_clamp (by omega), if_neg (nI_inc (by omega) (by omega)), nmM_e, nmI_e, nI_1]
      exact y2
    · rcases y3 with ⟨z1, z2, z3, z4, z5⟩ | y3
      · have i3 : IS b n m (t + j + 1) M3 L N3 K := by
          rcases g7 with g | g
          · exact g.1
          · exact absurd (g.put (by omega) (by omega)) z2.nd
        obtain ⟨w1, w2, ⟨v, w3, w4, w5⟩, w6⟩ := g7.resolve_right i3.nd
        have e34 : M' 3 4 = 0 → M3 3 4 = 0 := fun q => by have := z3 q; rw [uM_diff (by omega)] at this; exact this
        refine Or.inl ⟨z1, w2, fun q => (w5 (e34 q)).1, fun i h1 h2 => ?_, ?_⟩
        · by_cases hij : i = j
          · refine ⟨v, ?_, ?_, fun q => (w5 (e34 q)).2⟩
            · rw [hij, z5 (ld + 3) _ (by unfold cI; omega), uM_same]; exact w3
            · rw [hij, y4 414 _ (by unfold mI; omega), uM_same]; exact w4
          · exact z4 i (by omega) h2
        · have e1 : Eo (fun c i => cI c i ∨ (c = ld + 3 ∧ 3 * nf + j ≤ i ∧ i < 3 * nf + 3)) M M3 := w6.mono (fun c i q => Or.inl q)
          have e2 : Eo (fun c i => cI c i ∨ (c = ld + 3 ∧ 3 * nf + j ≤ i ∧ i < 3 * nf + 3)) M3 (uM M3 (ld + 3) (3 * nf + j) r3) := Eo.rf.u (Or.inr (by omega))
          exact (e1.tr e2).tr (z5.mono (fun c i q => q.imp id (fun q => by omega)))
      · exact Or.inr y3
    · have e1 : Eo (fun c i => mI c i ∨ (c = 414 ∧ 3 * (6 * sd + nf) + j ≤ i ∧ i < 3 * (6 * sd + nf) + 3)) N N3 := g8.mono (fun c i q => Or.inl q)
      have e2 : Eo (fun c i => mI c i ∨ (c = 414 ∧ 3 * (6 * sd + nf) + j ≤ i ∧ i < 3 * (6 * sd + nf) + 3)) N3 (uM N3 414 (3 * (6 * sd + nf) + j) r3') := Eo.rf.u (Or.inr (by omega))
      exact (e1.tr e2).tr (y4.mono (fun c i q => q.imp id (fun q => by omega)))
theorem t_food {ld sd t nf nd ng ne c i : Nat} {l : Nat → List Nat} {a : Nat → Int32} {M N : gM} {L K : gL} (hld : isLa ld) (hsd : sd ≤ 1) (hR : RS b n m ld sd t nf nd ng ne l a c i M L N K) (hk : tkK b n t = 128) :
    ∃ M' L' N' K', F_Reader_takeFood ld M L = some (M', L') ∧ F_Mod_tellOne N K = some (N', K') ∧ ItO b n m ld sd t N K M' L' N' K' := by
  have h12 := La_12 hld
  obtain ⟨hI, ⟨h19, h12', h44, h38, hc, hi⟩, hCt, hMn, hAv, hDat, hLw⟩ := id hR
  have hm := hI.1.m400
  have htm := hI.2.1.2.2.2.2
  obtain ⟨⟨cf1, cf2, cf3⟩, ⟨cd1, cd2, cd3⟩, ⟨cg1, cg2, cg3⟩, ⟨ce1, ce2, ce3⟩⟩ := id hCt
  unfold F_Reader_takeFood F_Mod_tellOne
  rw [cf1, nmI_e, hI.2.1.2.2.1, if_neg (nI_in (by omega) (by decide)), nI_clamp (by omega), (hI.1.2.2.1 t (by omega)).1, hk, if_pos (show nI (phi 128) = 20 by decide), h19, if_neg (nI_in (by omega) (by decide)), nI_clamp (by omega), cf2, q_room (k := nf) (c0 := 6) (t := 0) (x := nI nf) (y := 6) rfl rfl (by omega) (by decide) hI.2.1.2.2.2.1]
  by_cases h4 : nf = 6
  · rw [if_neg (show ¬ nI nf < 6 by rw [h4]; decide), if_pos h4]
    obtain ⟨M1, N1, q1, q2, q3, q4⟩ := p_fail (k := 2) (kk := 2) rfl (Or.inr rfl) (Or.inl ⟨hI.1, hI.2.1⟩)
    obtain ⟨k2, ft, u, a1, a2, a3, a4, a5, a6, a7, a8⟩ := id q3
    rw [q1, bI_s, q2, bI_s, q_roomD a5 a1, bI_s, if_neg q3.nf.1]
    exact ⟨M1, L, N1, K, rfl, rfl, Or.inr ⟨q3, hCt.mc.keep (fun c hc => q4 c sd (by unfold mS; omega))⟩, q4.mono mS_mT, fun _ _ _ => rfl⟩
  · rw [if_pos (show nI nf < 6 by rw [show (6 : Int32) = nI 6 from rfl, nI_ltI (by omega) (by omega)]; omega), if_neg h4]
    obtain ⟨M1, N1, q1, q2, q3, q4⟩ := i_take hI (by omega) (by omega)
    rw [q1, bI_s, q2, bI_s, bI_s]
    rcases q3 with ⟨b1, b2⟩ | q3
    · rw [if_pos b1.2.1.2.2.2.1]
      unfold F_Mod_tellFood
      have n19a : N1 401 19 = nI sd := by rw [q4 401 19 (by unfold mS; omega)]; exact h19
      have n18a : N1 411 sd = nI nf := by rw [q4 411 sd (by unfold mS; omega)]; exact cf2
      have ew : (6 : Int32) * nI sd + nI nf = nI (6 * sd + nf) := by rw [show (6 : Int32) = nI 6 from rfl, nI_mul, nI_add]
      rw [n19a, if_neg (nI_in (by omega) (by decide)), nI_clamp (by omega), n18a, ew, nmI_e]
      -- the name
      obtain ⟨M2, L2, r2, N2, g1, g2, g3, g4⟩ := i_name (nc := nf + nd + ng + ne) (l := l) (a := a) (fc := nI nf) (by omega) (Or.inl ⟨b1, hMn.keep (q4 401 20 (by unfold mS; omega)) (fun j => q4 410 j (by unfold mS; omega)), fun q => (hDat (by rw [← b2 3 4 (by unfold cS; omega)]; exact q)).1.keep (b2 3 8 (by unfold cS; omega)) (fun j => b2 10 j (by unfold cS; omega)) (fun _ => rfl)⟩)
      have hgi : ¬ (nI (6 * sd + nf) < 0 ∨ 12 ≤ 6 * sd + nf) := nI_inc (by omega) (by omega)
      rw [g1, bI2_s, g2, bI2_s]
      -- the stock
      obtain ⟨r3, M3, r3', N3, g5, g6, g7, g8⟩ := i_int (mo := 99) (kk := 99) (t := t + 2) rfl (by decide) (g3.imp (fun q => q.1) id)
      rw [g5, bI2_s, g6, bI2_s, nI_clamp (by omega), if_neg hgi, nmM_e, s_put (by omega) (by decide), bI_s]
      have hO3 := O_put (a := ld + 1) (p := nf) (x := r3) (q := 412) (p' := 6 * sd + nf) (y := r3') (g7.imp (fun q => q.1) id) (by omega) (by omega)
      -- the price
      obtain ⟨r5, M5, r5', N5, g5b, g6b, g7b, g8b⟩ := i_int (mo := 9) (kk := 9) (t := t + 3) rfl (by decide) hO3
      rw [g5b, bI2_s, g6b, bI2_s, if_neg hgi, nmM_e, s_put (by omega) (by decide), bI_s]
      have hO5 := O_put (a := ld + 2) (p := nf) (x := r5) (q := 413) (p' := 6 * sd + nf) (y := r5') (g7b.imp (fun q => q.1) id) (by omega) (by omega)
      -- what it brings
      obtain ⟨M6, N6, e1, e2, g7c, g8c⟩ := i_brings (t := t + 4) (ld := ld) (sd := sd) (nf := nf) (x4 := r2) (L := L2) (K := K) h12 (by omega) hsd 3 0 FU FU _ _ rfl (by unfold FU; omega) (by unfold FU; omega) hO5
      rw [show H_Reader_takeFood_56 ld (nI nf) L2 FU 0 (uM M5 (ld + 2) nf r5) = _ from e1, show H_Mod_tellFood_51 (nI (6 * sd + nf)) r2 K FU 0 (uM N5 413 (6 * sd + nf) r5') = _ from e2]
      unfold J_Reader_takeFood_85 J_Mod_tellFood_79
      have n6 : ∀ cc j, ¬ mI cc j → cc ≠ 412 → cc ≠ 413 → cc ≠ 414 → N6 cc j = N cc j := fun cc j x1 x2 x3 x4 => by
        rw [g8c cc j (fun q => q.elim x1 (fun q => by omega)), uM_diff (by omega), g8b cc j x1, uM_diff (by omega), g8 cc j x1, g4 cc j x1, q4 cc j (fun q => x1 (mS_mI _ _ q))]
      have n19 : N6 401 19 = nI sd := by rw [n6 401 19 (by unfold mI; omega) (by omega) (by omega) (by omega)]; exact h19
      have n18 : N6 411 sd = nI nf := by rw [n6 411 sd (by unfold mI; omega) (by omega) (by omega) (by omega)]; exact cf2
      rw [n19, if_neg (nI_in (by omega) (by decide)), nI_clamp (by omega), n18]
      have back : ∀ {L' : gL}, IS b n m (t + 7) M6 L' N6 K → IS b n m (t + 4) (uM M5 (ld + 2) nf r5) L2 (uM N5 413 (6 * sd + nf) r5') K ∧ IS b n m (t + 4) M5 L2 N5 K ∧ IS b n m (t + 3) M3 L2 N3 K ∧ IS b n m (t + 2) M2 L2 N2 K := by
        intro L' h5
        have a0 := (g7c.resolve_right h5.nd).2.1
        have a1 : IS b n m (t + 4) M5 L2 N5 K := by
          rcases g7b with g | g
          · exact g.1
          · exact absurd (g.put (by omega) (by omega)) a0.nd
        have a2 := (g7b.resolve_right a1.nd).2.1
        have a3 : IS b n m (t + 3) M3 L2 N3 K := by
          rcases g7 with g | g
          · exact g.1
          · exact absurd (g.put (by omega) (by omega)) a2.nd
        exact ⟨a0, a1, a3, (g7.resolve_right a3.nd).2.1⟩
      -- the end
      obtain ⟨M4, N4, K4, g9, g10, g11, g12, g13⟩ := i_ends (t := t + 7) (t0 := t + 1) (nc := nf + nd + ng + ne) (l := l) (a := a) (fc := nI nf) (r0 := r2) (M := M6) (N := N6) (L := L2) (K := K) (by omega) (fun hI3 => by
        have hI2 := (back hI3).2.2.2
        obtain ⟨y1, y2, y3, y4, y5, y6, y7⟩ := g3.resolve_right hI2.nd
        obtain ⟨v1, v2, v3⟩ := tkV_name y3
        exact ⟨y4, by have := hI2.2.1.2.2.2.2; omega, y3, ⟨v2, v3⟩, (hI2.1.2.2.1 (t + 1) (by have := hI2.2.1.2.2.2.2; omega)).2.2.2 y3, hMn.keep (n6 401 20 (by unfold mI; omega) (by omega) (by omega) (by omega)) (fun j => n6 410 j (by unfold mI; omega) (by omega) (by omega) (by omega))⟩) (g7c.imp (fun q => q.1) id)
      rw [g9, bI_s, g10, bI2_s, nmM_e]
      have hNT : Eo (mT sd) N N4 := by
        have f1 : Eo (mT sd) N N1 := q4.mono mS_mT
        have f2 : Eo (mT sd) N1 N3 := (g4.tr g8).mono mI_mT
        have f3 : Eo (mT sd) N3 (uM N3 412 (6 * sd + nf) r3') := Eo.rf.u (by unfold mT; right; right; right; right; left; omega)
        have f4 : Eo (mT sd) (uM N3 412 (6 * sd + nf) r3') N5 := g8b.mono mI_mT
        have f5 : Eo (mT sd) N5 (uM N5 413 (6 * sd + nf) r5') := Eo.rf.u (by unfold mT; right; right; right; right; left; omega)
        have f5b : Eo (mT sd) (uM N5 413 (6 * sd + nf) r5') N6 := g8c.mono (fun c j q => by
          rcases q with q | q
          · exact mI_mT c j q
          · unfold mT; right; right; right; right; right; left; omega)
        have f6 : Eo (mT sd) N6 N4 := g12.mono (fun c j q => by
          rcases q with q | q | q
          · exact mS_mT c j q
          · exact Or.inr (Or.inl q)
          · exact Or.inl ⟨q.1, by omega⟩)
        exact (((((f1.tr f2).tr f3).tr f4).tr f5).tr f5b).tr f6
      have n44 : ∀ c, 411 ≤ c → c ≠ 412 → c ≠ 413 → c ≠ 414 → ∀ j, N4 c j = N c j := fun c h1 h2 h3 h4 j => by
        rw [g12 c j (by unfold mS; omega), n6 c j (by unfold mI; omega) h2 h3 h4]
      rcases g11 with ⟨z1, z2, z3, z4⟩ | ⟨g11, g14⟩
      · have n4s : N4 401 19 = nI sd := by rw [g12 401 19 (by unfold mS; omega)]; exact n19
        rw [if_pos z1.2.1.2.2.2.1, n4s, if_neg (nI_in (by omega) (by decide)), nI_clamp (by omega), if_neg (nI_inc (by omega) (by omega)), nmM_e, n44 411 (by omega) (by omega) (by omega) (by omega), cf2, nI_1, bI2_s]
        refine ⟨_, _, _, _, rfl, rfl, Or.inl ⟨t + 8, nf + 1, nd, ng, ne, (fun k => if k = nf + nd + ng + ne then tokL b n (tkF b n (t + 1)) else l k), (fun k => if k = nf + nd + ng + ne then nI nf else a k), c, i, by omega, ?_⟩, hNT.tr (Eo.rf.u (by unfold mT; right; right; right; left; omega)), g13⟩
        obtain ⟨i6, i5, i3, i2⟩ := back z2
        obtain ⟨w1c, w2c, w3c, w4c, w5c⟩ := g7c.resolve_right z2.nd
        obtain ⟨w1b, w2b, ⟨vb, w3b, w4b, w5b⟩, w6b⟩ := g7b.resolve_right i5.nd
        obtain ⟨w1, w2, ⟨v, w3, w4, w5⟩, w6⟩ := g7.resolve_right i3.nd
        obtain ⟨y1, y2, y3, y4, y5, y6, y7⟩ := g3.resolve_right w2.nd
        have hnc : nf + 1 + nd + ng + ne = nf + nd + ng + ne + 1 := by omega
        have hMM : ∀ cc j, 12 ≤ cc → cc ≠ ld + 1 → cc ≠ ld + 2 → cc ≠ ld + 3 → ¬ (cc = ld ∧ j = 0) → uM M4 ld 0 (nI (nf + 1)) cc j = M cc j := fun cc j x1 x2 x2' x2'' x3 => by
          rw [uM_diff x3, z3 cc j (by unfold cS; omega), w5c cc j (by unfold cI; omega), uM_diff (by omega), w6b cc j (by unfold cI; omega), uM_diff (by omega), w6 cc j (by unfold cI; omega), y6 cc j (by unfold cN; omega), b2 cc j (by unfold cS; omega)]
        have hNN : ∀ cc, 411 ≤ cc → cc ≠ 412 → cc ≠ 413 → cc ≠ 414 → ∀ j, ¬ (cc = 411 ∧ j = sd) → uM N4 411 sd (nI (nf + 1)) cc j = N cc j := fun cc x1 x2 x2' x2'' j x3 => by rw [uM_diff x3, n44 cc x1 x2 x2' x2'' j]
        have hN1 : ∀ j, j ≠ 11 → j ≠ 13 → j ≠ 14 → j ≠ 15 → j ≠ 16 → j ≠ 20 → N4 401 j = N 401 j := fun j a1 a2 a3 a4 a5 a6 => by
          rw [g12 401 j (by unfold mS; omega), n6 401 j (by unfold mI; omega) (by omega) (by omega) (by omega)]
        refine ⟨?_, ⟨?_, ?_, ?_, ?_, by omega, by omega⟩, ⟨⟨uM_same, uM_same, by omega⟩, ⟨?_, ?_, cd3⟩, ⟨?_, ?_, cg3⟩, ⟨?_, ?_, ce3⟩⟩, ?_, ?_, fun q => ?_, ?_⟩
        · exact z1.put (by omega) (by omega)
        · rw [uM_diff (by omega)]; exact n4s
        · rw [uM_diff (by omega), hN1 12 (by omega) (by omega) (by omega) (by omega) (by omega) (by omega)]; exact h12'
        · rw [uM_diff (by omega), hN1 44 (by omega) (by omega) (by omega) (by omega) (by omega) (by omega)]; exact h44
        · rw [uM_diff (by omega), hN1 38 (by omega) (by omega) (by omega) (by omega) (by omega) (by omega)]; exact h38
        · rw [hMM ld 1 (by omega) (by omega) (by omega) (by omega) (by omega)]; exact cd1
        · rw [hNN 415 (by omega) (by omega) (by omega) (by omega) sd (by omega)]; exact cd2
        · rw [hMM ld 2 (by omega) (by omega) (by omega) (by omega) (by omega)]; exact cg1
        · rw [hNN 418 (by omega) (by omega) (by omega) (by omega) sd (by omega)]; exact cg2
        · rw [hMM ld 3 (by omega) (by omega) (by omega) (by omega) (by omega)]; exact ce1
        · rw [hNN 420 (by omega) (by omega) (by omega) (by omega) sd (by omega)]; exact ce2
        · rw [hnc]; exact z4.keep (uM_diff (by omega)) (fun j => uM_diff (by omega))
        · rw [hnc]; exact hAv.add (by omega) (Or.inr ⟨nf, by omega, rfl⟩)
        · rw [uM_diff (by omega), z3 3 4 (by unfold cS; omega)] at q
          have u1c := w3c q
          rw [uM_diff (by omega)] at u1c
          obtain ⟨u1b, u2b⟩ := w5b u1c
          rw [uM_diff (by omega)] at u1b
          obtain ⟨u1, u2⟩ := w5 u1b
          obtain ⟨u3, u4, u5⟩ := y5 u1
          obtain ⟨d1, d2, d3, d4, d5, d6, d7⟩ := hDat (by rw [← b2 3 4 (by unfold cS; omega)]; exact u3)
          refine ⟨?_, ?_, fun k hk => ?_, d4.keep (by omega) (fun cc j x1 x2 => hMM cc j (by omega) (by omega) (by omega) (by omega) (by omega)) (fun cc j x1 x2 => hNN cc (by omega) (by omega) (by omega) (by omega) j (by omega)), d5.keep (fun j => hMM _ j (by omega) (by omega) (by omega) (by omega) (by omega)) (fun j => hNN _ (by omega) (by omega) (by omega) (by omega) j (by omega)), d6.keep (fun cc j x1 x2 => hMM cc j (by omega) (by omega) (by omega) (by omega) (by omega)) (fun cc j x1 x2 => hNN cc (by omega) (by omega) (by omega) (by omega) j (by omega)), d7.keep (hMM ld 4 (by omega) (by omega) (by omega) (by omega) (by omega)) (hNN 423 (by omega) (by omega) (by omega) (by omega) sd (by omega))⟩
          · rw [hnc]
            exact u5.keep (by rw [uM_diff (by omega), z3 3 8 (by unfold cS; omega), w5c 3 8 (by unfold cI; omega), uM_diff (by omega), w6b 3 8 (by unfold cI; omega), uM_diff (by omega), w6 3 8 (by unfold cI; omega)]) (fun j => by rw [uM_diff (by omega), z3 10 j (by unfold cS; omega), w5c 10 j (by unfold cI; omega), uM_diff (by omega), w6b 10 j (by unfold cI; omega), uM_diff (by omega), w6 10 j (by unfold cI; omega)]) (fun _ => rfl)
          · rw [hnc]; exact d2.add u4
          · have m1 : uM M4 ld 0 (nI (nf + 1)) (ld + 1) k = uM M3 (ld + 1) nf r3 (ld + 1) k := by rw [uM_diff (by omega), z3 (ld + 1) k (by unfold cS; omega), w5c (ld + 1) k (by unfold cI; omega), uM_diff (by omega), w6b (ld + 1) k (by unfold cI; omega)]
            have m2 : uM M4 ld 0 (nI (nf + 1)) (ld + 2) k = uM M5 (ld + 2) nf r5 (ld + 2) k := by rw [uM_diff (by omega), z3 (ld + 2) k (by unfold cS; omega), w5c (ld + 2) k (by unfold cI; omega)]
            have m3 : ∀ j, uM M4 ld 0 (nI (nf + 1)) (ld + 3) j = M6 (ld + 3) j := fun j => by rw [uM_diff (by omega), z3 (ld + 3) j (by unfold cS; omega)]
            have k1 : uM N4 411 sd (nI (nf + 1)) 412 (6 * sd + k) = uM N3 412 (6 * sd + nf) r3' 412 (6 * sd + k) := by rw [uM_diff (by omega), g12 412 _ (by unfold mS; omega), g8c 412 _ (by unfold mI; omega), uM_diff (by omega), g8b 412 _ (by unfold mI; omega)]
            have k2 : uM N4 411 sd (nI (nf + 1)) 413 (6 * sd + k) = uM N5 413 (6 * sd + nf) r5' 413 (6 * sd + k) := by rw [uM_diff (by omega), g12 413 _ (by unfold mS; omega), g8c 413 _ (by unfold mI; omega)]
            have k3 : ∀ j, uM N4 411 sd (nI (nf + 1)) 414 j = N6 414 j := fun j => by rw [uM_diff (by omega), g12 414 j (by unfold mS; omega)]
            rw [m1, m2, k1, k2]
            by_cases hkn : k = nf
            · rw [hkn, uM_same, uM_same, uM_same, uM_same]
              refine ⟨⟨v, u2, w3, w4⟩, ⟨vb, u2b, w3b, w4b⟩, fun j hj => ?_⟩
              rw [m3, k3]
              obtain ⟨x, x1, x2, x3⟩ := w4c j (Nat.zero_le _) hj
              exact ⟨x, x3 q, x1, x2⟩
            · have o1 : uM M3 (ld + 1) nf r3 (ld + 1) k = M (ld + 1) k := by rw [uM_diff (by omega), w6 (ld + 1) k (by unfold cI; omega), y6 (ld + 1) k (by unfold cN; omega), b2 (ld + 1) k (by unfold cS; omega)]
              have o2 : uM M5 (ld + 2) nf r5 (ld + 2) k = M (ld + 2) k := by rw [uM_diff (by omega), w6b (ld + 2) k (by unfold cI; omega), uM_diff (by omega), w6 (ld + 2) k (by unfold cI; omega), y6 (ld + 2) k (by unfold cN; omega), b2 (ld + 2) k (by unfold cS; omega)]
              have o3 : uM N3 412 (6 * sd + nf) r3' 412 (6 * sd + k) = N 412 (6 * sd + k) := by rw [uM_diff (by omega), g8 412 _ (by unfold mI; omega), g4 412 _ (by unfold mI; omega), q4 412 _ (by unfold mS; omega)]
              have o4 : uM N5 413 (6 * sd + nf) r5' 413 (6 * sd + k) = N 413 (6 * sd + k) := by rw [uM_diff (by omega), g8b 413 _ (by unfold mI; omega), uM_diff (by omega), g8 413 _ (by unfold mI; omega), g4 413 _ (by unfold mI; omega), q4 413 _ (by unfold mS; omega)]
              rw [o1, o2, o3, o4]
              refine ⟨(d3 k (by omega)).1, (d3 k (by omega)).2.1, fun j hj => ?_⟩
              have o5 : M6 (ld + 3) (3 * k + j) = M (ld + 3) (3 * k + j) := by rw [w5c (ld + 3) _ (by unfold cI; omega), uM_diff (by omega), w6b (ld + 3) _ (by unfold cI; omega), uM_diff (by omega), w6 (ld + 3) _ (by unfold cI; omega), y6 (ld + 3) _ (by unfold cN; omega), b2 (ld + 3) _ (by unfold cS; omega)]
              have o6 : N6 414 (3 * (6 * sd + k) + j) = N 414 (3 * (6 * sd + k) + j) := by rw [g8c 414 _ (by unfold mI; omega), uM_diff (by omega), g8b 414 _ (by unfold mI; omega), uM_diff (by omega), g8 414 _ (by unfold mI; omega), g4 414 _ (by unfold mI; omega), q4 414 _ (by unfold mS; omega)]
              rw [m3, k3, o5, o6]
              exact (d3 k (by omega)).2.2 j hj
        · exact hLw.keep (fun cc j x1 x2 => hMM cc j (by omega) (by omega) (by omega) (by omega) (by omega)) (fun cc j x1 x2 => hNN cc (by omega) (by omega) (by omega) (by omega) j (by omega))
      · rw [if_neg g11.nf.1, bI2_s]
        exact ⟨_, _, N4, K4, rfl, rfl, Or.inr ⟨g11.put1 (by omega), hCt.mc.keep (fun c hc => n44 c (by omega) (by omega) (by omega) (by omega) sd)⟩, hNT, g13⟩
    · rw [if_neg q3.nf.1]
      obtain ⟨M', L', e1, e2⟩ := c_foodD (L := L) (ld := ld) (nf := nf) h12 (by omega) q3
      rw [e1]
      exact ⟨M', L', N1, K, rfl, rfl, Or.inr ⟨e2, hCt.mc.keep (fun c hc => q4 c sd (by unfold mS; omega))⟩, q4.mono mS_mT, fun _ _ _ => rfl⟩
end PAR12
