/-! deeds, the seed -/
section PAR11
variable {b : Nat → Nat} {n m : Nat}
theorem c_deedD {ld ne : Nat} {M N : gM} {L : gL} (hld : 12 ≤ ld) (hne : ne < 6) (hd : Dd b n m M N) : ∃ M' L', (bI2 (F_Reader_takeNewName (-1) M L) (fun M6 L7 => bI2 (F_Reader_takeInt 2 M6 L7) (fun r9 M10 => bI (F_Main_put (ld + 7) 6 (nI ne) r9 M10) (fun M12 => bI2 (F_Reader_takeInt 99 M12 L7) (fun r14 M15 => bI (F_Main_put (ld + 8) 6 (nI ne) r14 M15) (fun M17 => bI (F_Reader_need 59 M17) (fun M19 => nmM (uM M19 ld 3 (nI ne + 1)) (fun M20 => some (M20, L7))))))))) = some (M', L') ∧ Dd b n m M' N := by
  obtain ⟨M1, L1, e1, h1⟩ := tq_Reader_takeNewName (p1 := -1) (M := M) (L := L)
  obtain ⟨r, M2, e2, -, h2⟩ := tq_Reader_takeInt (p1 := 2) (M := M1) (L := L1)
  obtain ⟨r', M3, e3, -, h3⟩ := tq_Reader_takeInt (p1 := 99) (M := uM M2 (ld + 7) ne r) (L := L1)
  obtain ⟨M4, e4, h4⟩ := tq_Reader_need (p1 := 59) (M := uM M3 (ld + 8) ne r') (L := L1)
  rw [e1, bI2_s, e2, bI2_s, s_put hne (by decide), bI_s, e3, bI2_s, s_put hne (by decide), bI_s, e4, bI_s, nmM_e]
  exact ⟨_, _, rfl, ((((((hd.cl h1).cl h2).put1 (by omega)).cl h3).put1 (by omega)).cl h4).put1 hld⟩
theorem t_deed {ld sd t nf nd ng ne c i : Nat} {l : Nat → List Nat} {a : Nat → Int32} {M N : gM} {L K : gL} (hld : isLa ld) (hsd : sd ≤ 1) (hR : RS b n m ld sd t nf nd ng ne l a c i M L N K) (hk : tkK b n t = 131) :
    ∃ M' L' N' K', F_Reader_takeDeed ld M L = some (M', L') ∧ F_Mod_tellOne N K = some (N', K') ∧ ItO b n m ld sd t N K M' L' N' K' := by
  have h12 := La_12 hld
  obtain ⟨hI, ⟨h19, h12', h44, h38, hc, hi⟩, hCt, hMn, hAv, hDat, hLw⟩ := id hR
  have hm := hI.1.m400
  have htm := hI.2.1.2.2.2.2
  obtain ⟨⟨cf1, cf2, cf3⟩, ⟨cd1, cd2, cd3⟩, ⟨cg1, cg2, cg3⟩, ⟨ce1, ce2, ce3⟩⟩ := id hCt
  unfold F_Reader_takeDeed F_Mod_tellOne
  rw [ce1, nmI_e, hI.2.1.2.2.1, if_neg (nI_in (by omega) (by decide)), nI_clamp (by omega), (hI.1.2.2.1 t (by omega)).1, hk, if_neg (show ¬ nI (phi 131) = 20 by decide), if_neg (show ¬ nI (phi 131) = 21 by decide), if_neg (show ¬ nI (phi 131) = 22 by decide), if_pos (show nI (phi 131) = 23 by decide), h19, if_neg (nI_in (by omega) (by decide)), nI_clamp (by omega), ce2, q_room (k := ne) (c0 := 6) (t := 0) (x := nI ne) (y := 6) rfl rfl (by omega) (by decide) hI.2.1.2.2.2.1]
  by_cases h4 : ne = 6
  · rw [if_neg (show ¬ nI ne < 6 by rw [h4]; decide), if_pos h4]
    obtain ⟨M1, N1, q1, q2, q3, q4⟩ := p_fail (k := 2) (kk := 2) rfl (Or.inr rfl) (Or.inl ⟨hI.1, hI.2.1⟩)
    obtain ⟨k2, ft, u, a1, a2, a3, a4, a5, a6, a7, a8⟩ := id q3
    rw [q1, bI_s, q2, bI_s, q_roomD a5 a1, bI_s, if_neg (by rw [a5]; exact nI_nle (by omega) (by omega))]
    exact ⟨M1, L, N1, K, rfl, rfl, Or.inr ⟨q3, hCt.mc.keep (fun c hc => q4 c sd (by unfold mS; omega))⟩, q4.mono mS_mT, fun _ _ _ => rfl⟩
  · rw [if_pos (show nI ne < 6 by rw [show (6 : Int32) = nI 6 from rfl, nI_ltI (by omega) (by omega)]; omega), if_neg h4]
    obtain ⟨M1, N1, q1, q2, q3, q4⟩ := i_take hI (by omega) (by omega)
    rw [q1, bI_s, q2, bI_s, bI_s]
    rcases q3 with ⟨b1, b2⟩ | q3
    · rw [if_pos (by rw [b1.2.1.2.2.2.1]; decide)]
      -- the name
      obtain ⟨M2, L2, r2, N2, g1, g2, g3, g4⟩ := i_name (nc := nf + nd + ng + ne) (l := l) (a := a) (fc := -1) (by omega) (Or.inl ⟨b1, hMn.keep (q4 401 20 (by unfold mS; omega)) (fun j => q4 410 j (by unfold mS; omega)), fun q => (hDat (by rw [← b2 3 4 (by unfold cS; omega)]; exact q)).1.keep (b2 3 8 (by unfold cS; omega)) (fun j => b2 10 j (by unfold cS; omega)) (fun _ => rfl)⟩)
      have n19 : N2 401 19 = nI sd := by rw [g4 401 19 (by unfold mI; omega), q4 401 19 (by unfold mS; omega)]; exact h19
      have n18 : N2 420 sd = nI ne := by rw [g4 420 sd (by unfold mI; omega), q4 420 sd (by unfold mS; omega)]; exact ce2
      have ew : (6 : Int32) * nI sd + nI ne = nI (6 * sd + ne) := by rw [show (6 : Int32) = nI 6 from rfl, nI_mul, nI_add]
      rw [g1, bI2_s, g2, bI2_s, n19, if_neg (nI_in (by omega) (by decide)), nI_clamp (by omega), n18, ew]
      -- the force
      obtain ⟨r3, M3, r3', N3, g5, g6, g7, g8⟩ := i_int (mo := 2) (kk := 2) (t := t + 2) rfl (by decide) (g3.imp (fun q => q.1) id)
      rw [g5, bI2_s, g6, bI2_s, nI_clamp (by omega), if_neg (nI_inc (by omega) (by omega)), nmM_e, s_put (by omega) (by decide), bI_s]
      have n19b : uM N3 421 (6 * sd + ne) r3' 401 19 = nI sd := by rw [uM_diff (by omega), g8 401 19 (by unfold mI; omega)]; exact n19
      have n18b : uM N3 421 (6 * sd + ne) r3' 420 sd = nI ne := by rw [uM_diff (by omega), g8 420 sd (by unfold mI; omega)]; exact n18
      have hO3 := O_put (a := ld + 7) (p := ne) (x := r3) (q := 421) (p' := 6 * sd + ne) (y := r3') (g7.imp (fun q => q.1) id) (by omega) (by omega)
      -- the limit
      obtain ⟨r5, M5, r5', N5, g5b, g6b, g7b, g8b⟩ := i_int (mo := 99) (kk := 99) (t := t + 3) rfl (by decide) hO3
      rw [n19b, if_neg (nI_in (by omega) (by decide)), nI_clamp (by omega), n18b, ew, g5b, bI2_s, g6b, bI2_s, nI_clamp (by omega), if_neg (nI_inc (by omega) (by omega)), nmM_e, s_put (by omega) (by decide), bI_s]
      have hO5 := O_put (a := ld + 8) (p := ne) (x := r5) (q := 422) (p' := 6 * sd + ne) (y := r5') (g7b.imp (fun q => q.1) id) (by omega) (by omega)
      -- what is known where the last one is live
      have back : ∀ {L' : gL}, IS b n m (t + 4) (uM M5 (ld + 8) ne r5) L' (uM N5 422 (6 * sd + ne) r5') K → IS b n m (t + 4) M5 L2 N5 K ∧ IS b n m (t + 3) M3 L2 N3 K ∧ IS b n m (t + 2) M2 L2 N2 K := by
        intro L' h5
        have a1 : IS b n m (t + 4) M5 L2 N5 K := by
          rcases g7b with g | g
          · exact g.1
          · exact absurd (g.put (by omega) (by omega)) h5.nd
        have a2 := (g7b.resolve_right a1.nd).2.1
        have a3 : IS b n m (t + 3) M3 L2 N3 K := by
          rcases g7 with g | g
          · exact g.1
          · exact absurd (g.put (by omega) (by omega)) a2.nd
        exact ⟨a1, a3, (g7.resolve_right a3.nd).2.1⟩
      -- the end
      have n8 : Eo mI N1 N3 := g4.tr g8
      obtain ⟨M4, N4, K4, g9, g10, g11, g12, g13⟩ := i_ends (t := t + 4) (t0 := t + 1) (nc := nf + nd + ng + ne) (l := l) (a := a) (fc := -1) (r0 := r2) (M := uM M5 (ld + 8) ne r5) (N := uM N5 422 (6 * sd + ne) r5') (L := L2) (K := K) (by omega) (fun hI3 => by
        have hI2 := (back hI3).2.2
        obtain ⟨y1, y2, y3, y4, y5, y6, y7⟩ := g3.resolve_right hI2.nd
        obtain ⟨v1, v2, v3⟩ := tkV_name y3
        refine ⟨y4, by have := hI2.2.1.2.2.2.2; omega, y3, ⟨v2, v3⟩, (hI2.1.2.2.1 (t + 1) (by have := hI2.2.1.2.2.2.2; omega)).2.2.2 y3, hMn.keep ?_ (fun j => ?_)⟩
        · rw [uM_diff (by omega), g8b 401 20 (by unfold mI; omega), uM_diff (by omega), n8 401 20 (by unfold mI; omega), q4 401 20 (by unfold mS; omega)]
        · rw [uM_diff (by omega), g8b 410 j (by unfold mI; omega), uM_diff (by omega), n8 410 j (by unfold mI; omega), q4 410 j (by unfold mS; omega)]) hO5
      rw [g9, bI_s, g10, bI2_s, nmM_e]
      have hNT : Eo (mT sd) N N4 := by
        have e1 : Eo (mT sd) N N1 := q4.mono mS_mT
        have e2 : Eo (mT sd) N1 N3 := n8.mono mI_mT
        have e3 : Eo (mT sd) N3 (uM N3 421 (6 * sd + ne) r3') := Eo.rf.u (by unfold mT; right; right; right; right; left; omega)
        have e4 : Eo (mT sd) (uM N3 421 (6 * sd + ne) r3') N5 := g8b.mono mI_mT
        have e5 : Eo (mT sd) N5 (uM N5 422 (6 * sd + ne) r5') := Eo.rf.u (by unfold mT; right; right; right; right; left; omega)
        have e6 : Eo (mT sd) (uM N5 422 (6 * sd + ne) r5') N4 := g12.mono (fun c j q => by
          rcases q with q | q | q
          · exact mS_mT c j q
          · exact Or.inr (Or.inl q)
          · exact Or.inl ⟨q.1, by omega⟩)
        exact ((((e1.tr e2).tr e3).tr e4).tr e5).tr e6
      have n44 : ∀ c, 411 ≤ c → c ≠ 421 → c ≠ 422 → ∀ j, N4 c j = N c j := fun c h1 h2 h3 j => by
        rw [g12 c j (by unfold mS; omega), uM_diff (by omega), g8b c j (by unfold mI; omega), uM_diff (by omega), n8 c j (by unfold mI; omega), q4 c j (by unfold mS; omega)]
      rcases g11 with ⟨z1, z2, z3, z4⟩ | ⟨g11, g14⟩
      · have n4s : N4 401 19 = nI sd := by rw [g12 401 19 (by unfold mS; omega), uM_diff (by omega), g8b 401 19 (by unfold mI; omega)]; exact n19b
        rw [if_pos z1.2.1.2.2.2.1, n4s, if_neg (nI_in (by omega) (by decide)), nI_clamp (by omega), if_neg (nI_inc (by omega) (by omega)), nmM_e, n44 420 (by omega) (by omega) (by omega), ce2, nI_1]
        refine ⟨_, _, _, _, rfl, rfl, Or.inl ⟨t + 5, nf, nd, ng, ne + 1, (fun k => if k = nf + nd + ng + ne then tokL b n (tkF b n (t + 1)) else l k), (fun k => if k = nf + nd + ng + ne then -1 else a k), c, i, by omega, ?_⟩, hNT.tr (Eo.rf.u (by unfold mT; right; right; right; left; omega)), g13⟩
        obtain ⟨i5, i3, i2⟩ := back z2
        obtain ⟨w1b, w2b, ⟨vb, w3b, w4b, w5b⟩, w6b⟩ := g7b.resolve_right i5.nd
        obtain ⟨w1, w2, ⟨v, w3, w4, w5⟩, w6⟩ := g7.resolve_right i3.nd
        obtain ⟨y1, y2, y3, y4, y5, y6, y7⟩ := g3.resolve_right w2.nd
        have hnc : nf + nd + ng + (ne + 1) = nf + nd + ng + ne + 1 := by omega
        have hMM : ∀ cc j, 12 ≤ cc → cc ≠ ld + 7 → cc ≠ ld + 8 → ¬ (cc = ld ∧ j = 3) → uM M4 ld 3 (nI (ne + 1)) cc j = M cc j := fun cc j x1 x2 x2' x3 => by
          rw [uM_diff x3, z3 cc j (by unfold cS; omega), uM_diff (by omega), w6b cc j (by unfold cI; omega), uM_diff (by omega), w6 cc j (by unfold cI; omega), y6 cc j (by unfold cN; omega), b2 cc j (by unfold cS; omega)]
        have hNN : ∀ cc, 411 ≤ cc → cc ≠ 421 → cc ≠ 422 → ∀ j, ¬ (cc = 420 ∧ j = sd) → uM N4 420 sd (nI (ne + 1)) cc j = N cc j := fun cc x1 x2 x2' j x3 => by rw [uM_diff x3, n44 cc x1 x2 x2' j]
        have hN1 : ∀ j, j ≠ 11 → j ≠ 13 → j ≠ 14 → j ≠ 15 → j ≠ 16 → j ≠ 20 → N4 401 j = N 401 j := fun j a1 a2 a3 a4 a5 a6 => by
          rw [g12 401 j (by unfold mS; omega), uM_diff (by omega), g8b 401 j (by unfold mI; omega), uM_diff (by omega), n8 401 j (by unfold mI; omega), q4 401 j (by unfold mS; omega)]
        refine ⟨?_, ⟨?_, ?_, ?_, ?_, by omega, by omega⟩, ⟨⟨?_, ?_, cf3⟩, ⟨?_, ?_, cd3⟩, ⟨?_, ?_, cg3⟩, ⟨uM_same, uM_same, by omega⟩⟩, ?_, ?_, fun q => ?_, ?_⟩
        · exact z1.put (by omega) (by omega)
        · rw [uM_diff (by omega)]; exact n4s
        · rw [uM_diff (by omega), hN1 12 (by omega) (by omega) (by omega) (by omega) (by omega) (by omega)]; exact h12'
        · rw [uM_diff (by omega), hN1 44 (by omega) (by omega) (by omega) (by omega) (by omega) (by omega)]; exact h44
        · rw [uM_diff (by omega), hN1 38 (by omega) (by omega) (by omega) (by omega) (by omega) (by omega)]; exact h38
        · rw [hMM ld 0 (by omega) (by omega) (by omega) (by omega)]; exact cf1
        · rw [hNN 411 (by omega) (by omega) (by omega) sd (by omega)]; exact cf2
        · rw [hMM ld 1 (by omega) (by omega) (by omega) (by omega)]; exact cd1
        · rw [hNN 415 (by omega) (by omega) (by omega) sd (by omega)]; exact cd2
        · rw [hMM ld 2 (by omega) (by omega) (by omega) (by omega)]; exact cg1
        · rw [hNN 418 (by omega) (by omega) (by omega) sd (by omega)]; exact cg2
        · rw [hnc]; exact z4.keep (uM_diff (by omega)) (fun j => uM_diff (by omega))
        · rw [hnc]; exact hAv.add (Nat.le_refl _) (Or.inl rfl)
        · rw [uM_diff (by omega), z3 3 4 (by unfold cS; omega), uM_diff (by omega)] at q
          obtain ⟨u1b, u2b⟩ := w5b q
          rw [uM_diff (by omega)] at u1b
          obtain ⟨u1, u2⟩ := w5 u1b
          obtain ⟨u3, u4, u5⟩ := y5 u1
          obtain ⟨d1, d2, d3, d4, d5, d6, d7⟩ := hDat (by rw [← b2 3 4 (by unfold cS; omega)]; exact u3)
          refine ⟨?_, ?_, d3.keep (fun cc j x1 x2 => hMM cc j (by omega) (by omega) (by omega) (by omega)) (fun cc j x1 x2 => hNN cc (by omega) (by omega) (by omega) j (by omega)), d4.keep (Nat.le_refl _) (fun cc j x1 x2 => hMM cc j (by omega) (by omega) (by omega) (by omega)) (fun cc j x1 x2 => hNN cc (by omega) (by omega) (by omega) j (by omega)), d5.keep (fun j => hMM _ j (by omega) (by omega) (by omega) (by omega)) (fun j => hNN _ (by omega) (by omega) (by omega) j (by omega)), fun k hk => ?_, d7.keep (hMM ld 4 (by omega) (by omega) (by omega) (by omega)) (hNN 423 (by omega) (by omega) (by omega) sd (by omega))⟩
          · rw [hnc]
            exact u5.keep (by rw [uM_diff (by omega), z3 3 8 (by unfold cS; omega), uM_diff (by omega), w6b 3 8 (by unfold cI; omega), uM_diff (by omega), w6 3 8 (by unfold cI; omega)]) (fun j => by rw [uM_diff (by omega), z3 10 j (by unfold cS; omega), uM_diff (by omega), w6b 10 j (by unfold cI; omega), uM_diff (by omega), w6 10 j (by unfold cI; omega)]) (fun _ => rfl)
          · rw [hnc]; exact d2.add u4
          · have m7 : uM M4 ld 3 (nI (ne + 1)) (ld + 7) k = uM M3 (ld + 7) ne r3 (ld + 7) k := by rw [uM_diff (by omega), z3 (ld + 7) k (by unfold cS; omega), uM_diff (by omega), w6b (ld + 7) k (by unfold cI; omega)]
            have m8 : uM M4 ld 3 (nI (ne + 1)) (ld + 8) k = uM M5 (ld + 8) ne r5 (ld + 8) k := by rw [uM_diff (by omega), z3 (ld + 8) k (by unfold cS; omega)]
            have k1 : uM N4 420 sd (nI (ne + 1)) 421 (6 * sd + k) = uM N3 421 (6 * sd + ne) r3' 421 (6 * sd + k) := by rw [uM_diff (by omega), g12 421 _ (by unfold mS; omega), uM_diff (by omega), g8b 421 _ (by unfold mI; omega)]
            have k2 : uM N4 420 sd (nI (ne + 1)) 422 (6 * sd + k) = uM N5 422 (6 * sd + ne) r5' 422 (6 * sd + k) := by rw [uM_diff (by omega), g12 422 _ (by unfold mS; omega)]
            rw [m7, m8, k1, k2]
            by_cases hkn : k = ne
            · rw [hkn, uM_same, uM_same, uM_same, uM_same]
              exact ⟨⟨v, u2, w3, w4⟩, vb, u2b, w3b, w4b⟩
            · have o1 : uM M3 (ld + 7) ne r3 (ld + 7) k = M (ld + 7) k := by rw [uM_diff (by omega), w6 (ld + 7) k (by unfold cI; omega), y6 (ld + 7) k (by unfold cN; omega), b2 (ld + 7) k (by unfold cS; omega)]
              have o2 : uM M5 (ld + 8) ne r5 (ld + 8) k = M (ld + 8) k := by rw [uM_diff (by omega), w6b (ld + 8) k (by unfold cI; omega), uM_diff (by omega), w6 (ld + 8) k (by unfold cI; omega), y6 (ld + 8) k (by unfold cN; omega), b2 (ld + 8) k (by unfold cS; omega)]
              have o3 : uM N3 421 (6 * sd + ne) r3' 421 (6 * sd + k) = N 421 (6 * sd + k) := by rw [uM_diff (by omega), n8 421 _ (by unfold mI; omega), q4 421 _ (by unfold mS; omega)]
              have o4 : uM N5 422 (6 * sd + ne) r5' 422 (6 * sd + k) = N 422 (6 * sd + k) := by rw [uM_diff (by omega), g8b 422 _ (by unfold mI; omega), uM_diff (by omega), n8 422 _ (by unfold mI; omega), q4 422 _ (by unfold mS; omega)]
              rw [o1, o2, o3, o4]
              exact d6 k (by omega)
        · exact hLw.keep (fun cc j x1 x2 => hMM cc j (by omega) (by omega) (by omega) (by omega)) (fun cc j x1 x2 => hNN cc (by omega) (by omega) (by omega) j (by omega))
      · rw [if_neg g11.nf.1]
        exact ⟨_, _, N4, K4, rfl, rfl, Or.inr ⟨g11.put1 (by omega), hCt.mc.keep (fun c hc => n44 c (by omega) (by omega) (by omega) sd)⟩, hNT, g13⟩
    · obtain ⟨k2, ft, u, a1, a2, a3, a4, a5, a6, a7, a8⟩ := id q3
      rw [if_neg (by rw [a5]; exact nI_nle (by omega) (by omega))]
      obtain ⟨M', L', e1, e2⟩ := c_deedD (L := L) (ld := ld) (ne := ne) h12 (by omega) q3
      rw [e1]
      exact ⟨M', L', N1, K, rfl, rfl, Or.inr ⟨e2, hCt.mc.keep (fun c hc => q4 c sd (by unfold mS; omega))⟩, q4.mono mS_mT, fun _ _ _ => rfl⟩
/-- the seed: its item is read by both to its end -/
theorem t_seed {ld sd t nf nd ng ne c i : Nat} {l : Nat → List Nat} {a : Nat → Int32} {M N : gM} {L K : gL} (hld : isLa ld) (hsd : sd ≤ 1) (hR : RS b n m ld sd t nf nd ng ne l a c i M L N K) (hk : tkK b n t = 136) :
    ∃ M' N' K', F_Reader_takeSeed ld M L = some M' ∧ F_Mod_tellOne N K = some (N', K') ∧ ItO b n m ld sd t N K M' L N' K' := by
  have h12 := La_12 hld
  obtain ⟨hI, ⟨h19, h12', h44, h38, hc, hi⟩, hCt, hMn, hAv, hDat, hLw⟩ := id hR
  have hm := hI.1.m400
  have htm := hI.2.1.2.2.2.2
  obtain ⟨⟨cf1, cf2, cf3⟩, ⟨cd1, cd2, cd3⟩, ⟨cg1, cg2, cg3⟩, ⟨ce1, ce2, ce3⟩⟩ := id hCt
  unfold F_Reader_takeSeed F_Mod_tellOne
  rw [hI.2.1.2.2.1, if_neg (nI_in (by omega) (by decide)), nI_clamp (by omega), (hI.1.2.2.1 t (by omega)).1, hk, if_neg (show ¬ nI (phi 136) = 20 by decide), if_neg (show ¬ nI (phi 136) = 21 by decide), if_neg (show ¬ nI (phi 136) = 22 by decide), if_neg (show ¬ nI (phi 136) = 23 by decide), if_neg (show ¬ nI (phi 136) = 24 by decide), if_neg (show ¬ nI (phi 136) = 25 by decide), if_neg (show ¬ nI (phi 136) = 26 by decide), if_neg (show ¬ nI (phi 136) = 27 by decide), if_pos (show nI (phi 136) = 28 by decide)]
  obtain ⟨M1, N1, q1, q2, q3, q4⟩ := i_take hI (by omega) (by omega)
  obtain ⟨r2, M2, r2', N2, g5, g6, g7, g8⟩ := i_int (mo := 9999) (kk := 9999) (t := t + 1) rfl (by decide) (q3.imp (fun q => q.1) id)
  have n19 : N1 401 19 = nI sd := by rw [q4 401 19 (by unfold mS; omega)]; exact h19
  rw [q1, bI_s, q2, bI_s, g5, bI2_s, g6, bI2_s, n19, if_neg (nI_in (by omega) (by decide)), nI_clamp (by omega), nmM_e, nmM_e]
  have hO2 := O_put (a := ld) (p := 4) (x := r2) (q := 423) (p' := sd) (y := r2') (g7.imp (fun q => q.1) id) (by omega) (by omega)
  obtain ⟨M3, N3, g9, g10, g11, g12⟩ := i_need (k := 59) (kk := 59) (kq := 4) rfl rfl (Or.inr (Or.inl rfl)) (by decide) hO2
  rw [g9, bI_s, g10, bI_s]
  have hNN : ∀ cc j, ¬ mI cc j → ¬ (cc = 423 ∧ j = sd) → N3 cc j = N cc j := fun cc j x1 x2 => by
    rw [g12 cc j (fun q => x1 (mS_mI _ _ q)), uM_diff x2, g8 cc j x1, q4 cc j (fun q => x1 (mS_mI _ _ q))]
  have hNT : Eo (mT sd) N N3 := by
    have e1 : Eo (mT sd) N N1 := q4.mono mS_mT
    have e2 : Eo (mT sd) N1 N2 := g8.mono mI_mT
    have e3 : Eo (mT sd) N2 (uM N2 423 sd r2') := Eo.rf.u (by unfold mT; right; right; right; left; omega)
    exact ((e1.tr e2).tr e3).tr (g12.mono mS_mT)
  refine ⟨M3, N3, K, rfl, rfl, ?_, hNT, fun _ _ _ => rfl⟩
  rcases g11 with ⟨z1, z2, z3⟩ | g11
  · have i2 : IS b n m (t + 2) M2 L N2 K := by
      rcases g7 with g | g
      · exact g.1
      · exact absurd (g.put (by omega) (by omega)) z2.nd
    obtain ⟨w1, w2, ⟨v, w3, w4, w5⟩, w6⟩ := g7.resolve_right i2.nd
    obtain ⟨b1, b2⟩ := q3.resolve_right w2.nd
    have hMM : ∀ cc j, ¬ cI cc j → ¬ (cc = ld ∧ j = 4) → M3 cc j = M cc j := fun cc j x1 x2 => by
      rw [z3 cc j (fun q => x1 (cS_cI _ _ q)), uM_diff x2, w6 cc j x1, b2 cc j (fun q => x1 (cS_cI _ _ q))]
    refine Or.inl ⟨t + 3, nf, nd, ng, ne, l, a, c, i, by omega, z1, ⟨?_, ?_, ?_, ?_, by omega, by omega⟩, ⟨⟨?_, ?_, cf3⟩, ⟨?_, ?_, cd3⟩, ⟨?_, ?_, cg3⟩, ⟨?_, ?_, ce3⟩⟩, ?_, hAv, fun q => ?_, ?_⟩
    · rw [hNN 401 19 (by unfold mI; omega) (by omega)]; exact h19
    · rw [hNN 401 12 (by unfold mI; omega) (by omega)]; exact h12'
    · rw [hNN 401 44 (by unfold mI; omega) (by omega)]; exact h44
    · rw [hNN 401 38 (by unfold mI; omega) (by omega)]; exact h38
    · rw [hMM ld 0 (by unfold cI; omega) (by omega)]; exact cf1
    · rw [hNN 411 sd (by unfold mI; omega) (by omega)]; exact cf2
    · rw [hMM ld 1 (by unfold cI; omega) (by omega)]; exact cd1
    · rw [hNN 415 sd (by unfold mI; omega) (by omega)]; exact cd2
    · rw [hMM ld 2 (by unfold cI; omega) (by omega)]; exact cg1
    · rw [hNN 418 sd (by unfold mI; omega) (by omega)]; exact cg2
    · rw [hMM ld 3 (by unfold cI; omega) (by omega)]; exact ce1
    · rw [hNN 420 sd (by unfold mI; omega) (by omega)]; exact ce2
    · exact hMn.keep (hNN 401 20 (by unfold mI; omega) (by omega)) (fun j => hNN 410 j (by unfold mI; omega) (by omega))
    · rw [z3 3 4 (by unfold cS; omega), uM_diff (by omega)] at q
      obtain ⟨u1, u2⟩ := w5 q
      obtain ⟨d1, d2, d3, d4, d5, d6, d7⟩ := hDat (by rw [← b2 3 4 (by unfold cS; omega)]; exact u1)
      refine ⟨d1.keep (hMM 3 8 (by unfold cI; omega) (by omega)) (fun j => hMM 10 j (by unfold cI; omega) (by omega)) (fun _ => rfl), d2, d3.keep (fun cc j x1 x2 => hMM cc j (by unfold cI; omega) (by omega)) (fun cc j x1 x2 => hNN cc j (by unfold mI; omega) (by omega)), d4.keep (Nat.le_refl _) (fun cc j x1 x2 => hMM cc j (by unfold cI; omega) (by omega)) (fun cc j x1 x2 => hNN cc j (by unfold mI; omega) (by omega)), d5.keep (fun j => hMM _ j (by unfold cI; omega) (by omega)) (fun j => hNN _ j (by unfold mI; omega) (by omega)), d6.keep (fun cc j x1 x2 => hMM cc j (by unfold cI; omega) (by omega)) (fun cc j x1 x2 => hNN cc j (by unfold mI; omega) (by omega)), ⟨v, u2, ?_, ?_⟩⟩
      · rw [z3 ld 4 (by unfold cS; omega), uM_same]; exact w3
      · rw [g12 423 sd (by unfold mS; omega), uM_same]; exact w4
    · exact hLw.keep (fun cc j x1 x2 => hMM cc j (by unfold cI; omega) (by omega)) (fun cc j x1 x2 => hNN cc j (by unfold mI; omega) (by omega))
  · exact Or.inr ⟨g11, hCt.mc.keep (fun c hc => hNN c sd (by unfold mI; omega) (by omega))⟩
end PAR11
