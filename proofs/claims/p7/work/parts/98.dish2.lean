/-! a whole dish -/
section PAR14
variable {b : Nat → Nat} {n m : Nat}
theorem c_94D {ld : Nat} {x : Int32} {M N : gM} {L : gL} (hld : 12 ≤ ld) (hd : Dd b n m M N) : ∃ M', J_Reader_takeDish_94 ld x M L = some (M', L) ∧ Dd b n m M' N := by
  obtain ⟨M4, e4, h4⟩ := tq_Reader_need (p1 := 59) (M := M) (L := L)
  unfold J_Reader_takeDish_94
  rw [e4, bI_s, nmM_e]
  exact ⟨_, rfl, (hd.cl h4).put1 hld⟩
theorem c_ingrD {ld : Nat} {x : Int32} {M N : gM} {L : gL} (hld : isLa ld) (hd : Dd b n m M N) : ∃ M', bI (F_Reader_takeIngredient ld x M L) (fun M14 => H_Reader_takeDish_47 ld x L FU 1 M14) = some (M', L) ∧ Dd b n m M' N := by
  obtain ⟨M1, e1, h1⟩ := tq_Reader_takeIngredient (Ld1 := ld) (p2 := x) (M := M) (L := L) hld
  obtain ⟨g, hg⟩ := FU_k 1 (by decide)
  rw [e1, bI_s, hg, c_dishLD (hd.cl h1)]
  exact c_94D (La_12 hld) (hd.cl h1)
theorem c_dishD {ld nd : Nat} {M N : gM} {L : gL} (hld : isLa ld) (hnd : nd < 5) (hd : Dd b n m M N) : ∃ M' L', (bI2 (F_Reader_takeNewName (-1) M L) (fun M6 L7 => bI2 (F_Reader_takeInt 9 M6 L7) (fun r9 M10 => bI (F_Main_put (ld + 4) 5 (nI nd) r9 M10) (fun M12 => bI (F_Reader_takeIngredient ld (nI nd) M12 L7) (fun M14 => H_Reader_takeDish_47 ld (nI nd) L7 FU 1 M14))))) = some (M', L') ∧ Dd b n m M' N := by
  obtain ⟨M1, L1, e1, h1⟩ := tq_Reader_takeNewName (p1 := -1) (M := M) (L := L)
  obtain ⟨r, M2, e2, -, h2⟩ := tq_Reader_takeInt (p1 := 9) (M := M1) (L := L1)
  obtain ⟨M3, e3, h3⟩ := c_ingrD (x := nI nd) (M := uM M2 (ld + 4) nd r) (L := L1) hld (((hd.cl h1).cl h2).put1 (by have := La_12 hld; omega))
  rw [e1, bI2_s, e2, bI2_s, s_put hnd (by decide), bI_s]
  exact ⟨_, _, e3, h3⟩
theorem m_clr {X : Nat} {x2 : Int32} {K : gL} (hX : X < 10) : ∀ (d v g : Nat) (N : gM), v + d = 6 → d < g → ∃ N', H_Mod_tellDish_37 (nI X) x2 K g (nI v) N = H_Mod_tellDish_63 (nI X) x2 K FU 0 N' ∧ (∀ f, v ≤ f → f < 6 → N' 417 (6 * X + f) = 0) ∧ Eo (fun c j => c = 417 ∧ 6 * X + v ≤ j ∧ j < 6 * X + 6) N N' := by
  intro d
  induction d with
  | zero =>
    intro v g N hv hg
    obtain ⟨g, rfl⟩ : ∃ x, g = x + 1 := ⟨g - 1, by omega⟩
    obtain rfl : v = 6 := by omega
    refine ⟨N, ?_, fun f h1 h2 => absurd h2 (by omega), Eo.rf⟩
    show B_Mod_tellDish_37 (nI X) x2 K (H_Mod_tellDish_37 (nI X) x2 K g) (nI 6) N = _
    unfold B_Mod_tellDish_37 J_Mod_tellDish_61
    rw [if_pos (by decide)]
  | succ d ih =>
    intro v g N hv hg
    obtain ⟨g, rfl⟩ : ∃ x, g = x + 1 := ⟨g - 1, by omega⟩
    have ew : (6 : Int32) * nI X + nI v = nI (6 * X + v) := by rw [show (6 : Int32) = nI 6 from rfl, nI_mul, nI_add]
    obtain ⟨N', e1, e2, e3⟩ := ih (v + 1) g (uM N 417 (6 * X + v) 0) (by omega) (by omega)
    refine ⟨N', ?_, fun f h1 h2 => ?_, Eo.tr (Eo.rf.u (by omega)) (e3.mono (fun c j q => by omega))⟩
    · show B_Mod_tellDish_37 (nI X) x2 K (H_Mod_tellDish_37 (nI X) x2 K g) (nI v) N = _
      unfold B_Mod_tellDish_37
      rw [if_neg (by rw [show (6 : Int32) = nI 6 from rfl, nI_leI (by omega) (by omega)]; omega), ew, nI_clamp (by omega), if_neg (nI_inc (by omega) (by omega)), nmM_e, nmI_e, nI_1]
      exact e1
    · by_cases e : f = v
      · rw [e, e3 417 _ (by omega), uM_same]
      · exact e2 f (by omega) h2
theorem t_dish {ld sd t nf nd ng ne c i : Nat} {l : Nat → List Nat} {a : Nat → Int32} {M N : gM} {L K : gL} (hld : isLa ld) (hsd : sd ≤ 1) (hR : RS b n m ld sd t nf nd ng ne l a c i M L N K) (hk : tkK b n t = 129) :
    ∃ M' L' N' K', F_Reader_takeDish ld M L = some (M', L') ∧ F_Mod_tellOne N K = some (N', K') ∧ ItO b n m ld sd t N K M' L' N' K' := by
  have h12 := La_12 hld
  obtain ⟨hI, ⟨h19, h12', h44, h38, hc, hi⟩, hCt, hMn, hAv, hDat, hLw⟩ := id hR
  have hm := hI.1.m400
  have htm := hI.2.1.2.2.2.2
  obtain ⟨⟨cf1, cf2, cf3⟩, ⟨cd1, cd2, cd3⟩, ⟨cg1, cg2, cg3⟩, ⟨ce1, ce2, ce3⟩⟩ := id hCt
  unfold F_Reader_takeDish F_Mod_tellOne
  rw [cd1, nmI_e, hI.2.1.2.2.1, if_neg (nI_in (by omega) (by decide)), nI_clamp (by omega), (hI.1.2.2.1 t (by omega)).1, hk, if_neg (show ¬ nI (phi 129) = 20 by decide), if_pos (show nI (phi 129) = 21 by decide), h19, if_neg (nI_in (by omega) (by decide)), nI_clamp (by omega), cd2, q_room (k := nd) (c0 := 5) (t := 0) (x := nI nd) (y := 5) rfl rfl (by omega) (by decide) hI.2.1.2.2.2.1]
  by_cases h4 : nd = 5
  · rw [if_neg (show ¬ nI nd < 5 by rw [h4]; decide), if_pos h4]
    obtain ⟨M1, N1, q1, q2, q3, q4⟩ := p_fail (k := 2) (kk := 2) rfl (Or.inr rfl) (Or.inl ⟨hI.1, hI.2.1⟩)
    obtain ⟨k2, ft, u, a1, a2, a3, a4, a5, a6, a7, a8⟩ := id q3
    rw [q1, bI_s, q2, bI_s, q_roomD a5 a1, bI_s, if_neg q3.nf.1]
    exact ⟨M1, L, N1, K, rfl, rfl, Or.inr ⟨q3, hCt.mc.keep (fun c hc => q4 c sd (by unfold mS; omega))⟩, q4.mono mS_mT, fun _ _ _ => rfl⟩
  · rw [if_pos (show nI nd < 5 by rw [show (5 : Int32) = nI 5 from rfl, nI_ltI (by omega) (by omega)]; omega), if_neg h4]
    obtain ⟨M1, N1, q1, q2, q3, q4⟩ := i_take hI (by omega) (by omega)
    rw [q1, bI_s, q2, bI_s, bI_s]
    rcases q3 with ⟨b1, b2⟩ | q3
    · rw [if_pos b1.2.1.2.2.2.1]
      unfold F_Mod_tellDish
      have n19a : N1 401 19 = nI sd := by rw [q4 401 19 (by unfold mS; omega)]; exact h19
      have n18a : N1 415 sd = nI nd := by rw [q4 415 sd (by unfold mS; omega)]; exact cd2
      have ew : (5 : Int32) * nI sd + nI nd = nI (5 * sd + nd) := by rw [show (5 : Int32) = nI 5 from rfl, nI_mul, nI_add]
      rw [n19a, if_neg (nI_in (by omega) (by decide)), nI_clamp (by omega), n18a, ew, nmI_e]
      -- the name
      obtain ⟨M2, L2, r2, N2, g1, g2, g3, g4⟩ := i_name (nc := nf + nd + ng + ne) (l := l) (a := a) (fc := -1) (by omega) (Or.inl ⟨b1, hMn.keep (q4 401 20 (by unfold mS; omega)) (fun j => q4 410 j (by unfold mS; omega)), fun q => (hDat (by rw [← b2 3 4 (by unfold cS; omega)]; exact q)).1.keep (b2 3 8 (by unfold cS; omega)) (fun j => b2 10 j (by unfold cS; omega)) (fun _ => rfl)⟩)
      have hgi : ¬ (nI (5 * sd + nd) < 0 ∨ 10 ≤ 5 * sd + nd) := nI_inc (by omega) (by omega)
      rw [g1, bI2_s, g2, bI2_s]
      -- the heat
      obtain ⟨r3, M3, r3', N3, g5, g6, g7, g8⟩ := i_int (mo := 9) (kk := 9) (t := t + 2) rfl (by decide) (g3.imp (fun q => q.1) id)
      obtain ⟨N5, y1, y2, y3⟩ := m_clr (X := 5 * sd + nd) (x2 := r2) (K := K) (by omega) 6 0 FU (uM N3 416 (5 * sd + nd) r3') rfl (by unfold FU; omega)
      rw [g5, bI2_s, g6, bI2_s, nI_clamp (by omega), if_neg hgi, nmM_e, s_put (by omega) (by decide), bI_s, show H_Mod_tellDish_37 (nI (5 * sd + nd)) r2 K FU 0 (uM N3 416 (5 * sd + nd) r3') = _ from y1]
      have hO3 := O_put (a := ld + 4) (p := nd) (x := r3) (q := 416) (p' := 5 * sd + nd) (y := r3') (g7.imp (fun q => q.1) id) (by omega) (by omega)
      have hO5 : IS b n m (t + 3) (uM M3 (ld + 4) nd r3) L2 N5 K ∨ Dd b n m (uM M3 (ld + 4) nd r3) N5 := by
        rcases hO3 with ⟨w1, w2, lf, w3⟩ | w
        · exact Or.inl ⟨w1.keep (fun _ => rfl) (fun _ => rfl) (fun _ => rfl) (fun j => y3 404 j (by omega)) (fun j => y3 405 j (by omega)) (fun j => y3 406 j (by omega)) (fun _ => rfl), w2.at rfl rfl (y3 401 11 (by omega)) (y3 401 13 (by omega)), lf, w3.up (Nat.le_refl _) rfl rfl (y3 401 15 (by omega)) (y3 401 16 (by omega))⟩
        · exact Or.inr (w.mo (y3 401 13 (by omega)) (y3 401 14 (by omega)) (y3 401 11 (by omega)))
      have n5 : ∀ cc j, ¬ mI cc j → cc ≠ 416 → cc ≠ 417 → N5 cc j = N cc j := fun cc j x1 x2 x3 => by
        rw [y3 cc j (by omega), uM_diff (by omega), g8 cc j x1, g4 cc j x1, q4 cc j (fun q => x1 (mS_mI _ _ q))]
      have hNT5 : Eo (mT sd) N N5 := by
        have f1 : Eo (mT sd) N N1 := q4.mono mS_mT
        have f2 : Eo (mT sd) N1 N3 := (g4.tr g8).mono mI_mT
        have f3 : Eo (mT sd) N3 (uM N3 416 (5 * sd + nd) r3') := Eo.rf.u (by unfold mT; right; right; right; right; right; right; left; omega)
        exact ((f1.tr f2).tr f3).tr (y3.mono (fun c j q => by unfold mT; right; right; right; right; right; right; right; left; omega))
      obtain ⟨g, hg⟩ := FU_k 1 (by decide)
      have e63 : H_Mod_tellDish_63 (nI (5 * sd + nd)) r2 K FU 0 N5 = J_Mod_tellDish_74 (H_Mod_tellDish_63 (nI (5 * sd + nd)) r2 K g) (nI (5 * sd + nd)) r2 (nI 0) N5 K := by
        rw [hg]
        show B_Mod_tellDish_63 (nI (5 * sd + nd)) r2 K (H_Mod_tellDish_63 (nI (5 * sd + nd)) r2 K g) (nI 0) N5 = _
        unfold B_Mod_tellDish_63
        rw [if_neg (show ¬ nI 0 = 6 by decide)]
      rw [e63]
      rcases hO5 with hI5 | hd5
      · -- live
        have i3 : IS b n m (t + 3) M3 L2 N3 K := by
          rcases g7 with g | g
          · exact g.1
          · exact absurd ((g.put (a := ld + 4) (p := nd) (x := r3) (q := 416) (p' := 5 * sd + nd) (y := r3') (by omega) (by omega)).mo (N' := N5) (y3 401 13 (by omega)) (y3 401 14 (by omega)) (y3 401 11 (by omega))) hI5.nd
        obtain ⟨w1, w2, ⟨v, w3, w4, w5⟩, w6⟩ := g7.resolve_right i3.nd
        obtain ⟨x1, x2, x3, x4, x5, x6, x7⟩ := g3.resolve_right w2.nd
        generalize hnc0 : nf + nd + ng + ne = nc at *
        have hCU : uM M3 (ld + 4) nd r3 3 4 = 0 → Cn (nc + 1) (fun k => if k = nc then tokL b n (tkF b n (t + 1)) else l k) (fun k => if k = nc then -1 else a k) (uM M3 (ld + 4) nd r3) L2 ∧ Un (nc + 1) (fun k => if k = nc then tokL b n (tkF b n (t + 1)) else l k) := by
          intro q
          rw [uM_diff (by omega)] at q
          obtain ⟨u3, u4, u5⟩ := x5 (w5 q).1
          exact ⟨u5.keep (by rw [uM_diff (by omega), w6 3 8 (by unfold cI; omega)]) (fun j => by rw [uM_diff (by omega), w6 10 j (by unfold cI; omega)]) (fun _ => rfl), (hDat (by rw [← b2 3 4 (by unfold cS; omega)]; exact u3)).2.1.add u4⟩
        have hrow5 : ∀ j, uM M3 (ld + 4) nd r3 (ld + 5) j = M (ld + 5) j := fun j => by rw [uM_diff (by omega), w6 (ld + 5) j (by unfold cI; omega), x6 (ld + 5) j (by unfold cN; omega), b2 (ld + 5) j (by unfold cS; omega)]
        have hM5 : Mn nc l a N5 K := hMn.keep (n5 401 20 (by unfold mI; omega) (by omega) (by omega)) (fun j => n5 410 j (by unfold mI; omega) (by omega) (by omega))
        have hll : ∀ k, k < nc → (fun k => if k = nc then tokL b n (tkF b n (t + 1)) else l k) k = l k ∧ (fun k => if k = nc then (-1 : Int32) else a k) k = a k := fun k hk => by
          dsimp only
          rw [if_neg (by omega), if_neg (by omega)]
          exact ⟨rfl, rfl⟩
        have hln : (fun k => if k = nc then (-1 : Int32) else a k) nc = -1 := if_pos rfl
        obtain ⟨M6, N6, p1, p2, p3, p4⟩ := i_ingr (k := 0) (g := g) (x2 := r2) hld hsd cf3 (show nd < 5 by omega) (show nc ≤ 20 by omega) hI5 hM5 hAv (fun q => ⟨(hCU q).1, (hCU q).2, hll, hln⟩) (fun q => by
          rw [uM_diff (by omega)] at q
          obtain ⟨u3, u4, u5⟩ := x5 (w5 q).1
          have hz := (hDat (by rw [← b2 3 4 (by unfold cS; omega)]; exact u3)).2.2.2.1.2
          exact ⟨fun _ => 0, fun f hf => ⟨by rw [hrow5, hz _ (by omega) (by omega)]; rfl, by rw [y2 f (Nat.zero_le _) hf]; rfl, fun q => absurd q (Nat.lt_irrefl _)⟩, rfl⟩)
        rw [p1, bI_s, p2]
        obtain ⟨M7, N7, t7, z1, z2, z3, z4, z5⟩ : ∃ M' N' t', H_Reader_takeDish_47 ld (nI nd) L2 FU (nI 1) M6 = J_Reader_takeDish_94 ld (nI nd) M' L2 ∧ mDi (nI (5 * sd + nd)) r2 K g 1 N6 = J_Mod_tellDish_127 r2 N' K ∧ t + 4 ≤ t' ∧
      ((IS b n m t' M' L2 N' K ∧ Eo (cG ld) (uM M3 (ld + 4) nd r3) M' ∧ (M' 3 4 = 0 → uM M3 (ld + 4) nd r3 3 4 = 0 ∧ (∃ A k', 1 ≤ k' ∧ k' ≤ 6 ∧ Row ld sd nd nf k' A M' N') ∧ ∀ j, (j < 6 * nd ∨ 6 * nd + 6 ≤ j) → M' (ld + 5) j = uM M3 (ld + 4) nd r3 (ld + 5) j)) ∨ Dd b n m M' N') ∧ Eo (fun c j => mI c j ∨ (c = 417 ∧ 6 * (5 * sd + nd) ≤ j ∧ j < 6 * (5 * sd + nd) + 6)) N5 N' := by
          rcases p3 with ⟨p5, p6, p7⟩ | p3
          · obtain ⟨M', N', t', a1, a2, a3, a4, a5⟩ := i_more (x2 := r2) hld hsd cf3 (show nd < 5 by omega) (show nc ≤ 20 by omega) hAv hll hln 5 1 FU g (t + 4) M6 N6 rfl (by unfold FU; omega) (by unfold FU at hg; omega) p5 (hM5.keep (p4 401 20 (by unfold mI; omega)) (fun j => p4 410 j (by unfold mI; omega))) (fun q => ⟨(hCU (p7 q).1).1.keep (p6 3 8 (by unfold cG; omega)) (fun j => p6 10 j (by unfold cG; omega)) (fun _ => rfl), (hCU (p7 q).1).2⟩) (fun q => (p7 q).2.1)
            refine ⟨M', N', t', a1, a2, a3, ?_, p4.tr a5⟩
            rcases a4 with ⟨c1, c2, c3⟩ | a4
            · refine Or.inl ⟨c1, p6.tr c2, fun q => ?_⟩
              obtain ⟨d1, d2, d3⟩ := c3 q
              obtain ⟨e1, e2, e3⟩ := p7 d1
              exact ⟨e1, d2, fun j hj => (d3 j hj).trans (e3 j hj)⟩
            · exact Or.inr a4
          · refine ⟨M6, N6, t + 4, ?_, ?_, Nat.le_refl _, Or.inr p3, p4⟩
            · rw [hg]; exact c_dishLD p3 g _
            · unfold mDi
              rw [if_neg p3.nf.1]
        rw [show H_Reader_takeDish_47 ld (nI nd) L2 FU 1 M6 = _ from z1, show mDi (nI (5 * sd + nd)) r2 K g (0 + 1) N6 = _ from z2]
        unfold J_Reader_takeDish_94 J_Mod_tellDish_127
        have n7 : ∀ cc j, ¬ mI cc j → cc ≠ 416 → cc ≠ 417 → N7 cc j = N cc j := fun cc j x1 x2 x3 => by
          rw [z5 cc j (fun q => q.elim x1 (fun q => by omega)), n5 cc j x1 x2 x3]
        obtain ⟨M4, N4, K4, g9, g10, g11, g12, g13⟩ := i_ends (t := t7) (t0 := t + 1) (nc := nc) (l := l) (a := a) (fc := -1) (r0 := r2) (M := M7) (N := N7) (L := L2) (K := K) (show nc ≤ 20 by omega) (fun _ => by
          obtain ⟨v1, v2, v3⟩ := tkV_name x3
          exact ⟨x4, by have := w2.2.1.2.2.2.2; omega, x3, ⟨v2, v3⟩, (w2.1.2.2.1 (t + 1) (by have := w2.2.1.2.2.2.2; omega)).2.2.2 x3, hMn.keep (n7 401 20 (by unfold mI; omega) (by omega) (by omega)) (fun j => n7 410 j (by unfold mI; omega) (by omega) (by omega))⟩) (z4.imp (fun q => q.1) id)
        rw [g9, bI_s, g10, bI2_s, nmM_e]
        have hNT : Eo (mT sd) N N4 := by
          have f1 : Eo (mT sd) N5 N7 := z5.mono (fun c j q => by
            rcases q with q | q
            · exact mI_mT c j q
            · unfold mT; right; right; right; right; right; right; right; left; omega)
          have f6 : Eo (mT sd) N7 N4 := g12.mono (fun c j q => by
            rcases q with q | q | q
            · exact mS_mT c j q
            · exact Or.inr (Or.inl q)
            · exact Or.inl ⟨q.1, by omega⟩)
          exact (hNT5.tr f1).tr f6
        have n44 : ∀ c, 411 ≤ c → c ≠ 416 → c ≠ 417 → ∀ j, N4 c j = N c j := fun c h1 h2 h3 j => by
          rw [g12 c j (by unfold mS; omega), n7 c j (by unfold mI; omega) h2 h3]
        rcases g11 with ⟨k1, k2, k3, k4⟩ | ⟨g11, g14⟩
        · have n4s : N4 401 19 = nI sd := by rw [g12 401 19 (by unfold mS; omega), n7 401 19 (by unfold mI; omega) (by omega) (by omega)]; exact h19
          rw [if_pos k1.2.1.2.2.2.1, n4s, if_neg (nI_in (by omega) (by decide)), nI_clamp (by omega), if_neg (nI_inc (by omega) (by omega)), nmM_e, n44 415 (by omega) (by omega) (by omega), cd2, nI_1, bI2_s]
          refine ⟨_, _, _, _, rfl, rfl, Or.inl ⟨t7 + 1, nf, nd + 1, ng, ne, (fun k => if k = nc then tokL b n (tkF b n (t + 1)) else l k), (fun k => if k = nc then -1 else a k), c, i, by omega, ?_⟩, hNT.tr (Eo.rf.u (by unfold mT; right; right; right; left; omega)), g13⟩
          obtain ⟨s1, s2, s3⟩ := z4.resolve_right k2.nd
          have hnc : nf + (nd + 1) + ng + ne = nc + 1 := by omega
          have hMM : ∀ cc j, 12 ≤ cc → cc ≠ ld + 4 → cc ≠ ld + 5 → ¬ (cc = ld ∧ j = 1) → uM M4 ld 1 (nI (nd + 1)) cc j = M cc j := fun cc j a1 a2 a2' a3 => by
            rw [uM_diff a3, k3 cc j (by unfold cS; omega), s2 cc j (by unfold cG; omega), uM_diff (by omega), w6 cc j (by unfold cI; omega), x6 cc j (by unfold cN; omega), b2 cc j (by unfold cS; omega)]
          have hNN : ∀ cc, 411 ≤ cc → cc ≠ 416 → cc ≠ 417 → ∀ j, ¬ (cc = 415 ∧ j = sd) → uM N4 415 sd (nI (nd + 1)) cc j = N cc j := fun cc a1 a2 a2' j a3 => by rw [uM_diff a3, n44 cc a1 a2 a2' j]
          have hN1 : ∀ j, j ≠ 11 → j ≠ 13 → j ≠ 14 → j ≠ 15 → j ≠ 16 → j ≠ 20 → N4 401 j = N 401 j := fun j a1 a2 a3 a4 a5 a6 => by
            rw [g12 401 j (by unfold mS; omega), n7 401 j (by unfold mI; omega) (by omega) (by omega)]
          refine ⟨?_, ⟨?_, ?_, ?_, ?_, by omega, by omega⟩, ⟨⟨?_, ?_, cf3⟩, ⟨uM_same, uM_same, by omega⟩, ⟨?_, ?_, cg3⟩, ⟨?_, ?_, ce3⟩⟩, ?_, ?_, fun q => ?_, ?_⟩
          · exact k1.put (by omega) (by omega)
          · rw [uM_diff (by omega)]; exact n4s
          · rw [uM_diff (by omega), hN1 12 (by omega) (by omega) (by omega) (by omega) (by omega) (by omega)]; exact h12'
          · rw [uM_diff (by omega), hN1 44 (by omega) (by omega) (by omega) (by omega) (by omega) (by omega)]; exact h44
          · rw [uM_diff (by omega), hN1 38 (by omega) (by omega) (by omega) (by omega) (by omega) (by omega)]; exact h38
          · rw [hMM ld 0 (by omega) (by omega) (by omega) (by omega)]; exact cf1
          · rw [hNN 411 (by omega) (by omega) (by omega) sd (by omega)]; exact cf2
          · rw [hMM ld 2 (by omega) (by omega) (by omega) (by omega)]; exact cg1
          · rw [hNN 418 (by omega) (by omega) (by omega) sd (by omega)]; exact cg2
          · rw [hMM ld 3 (by omega) (by omega) (by omega) (by omega)]; exact ce1
          · rw [hNN 420 (by omega) (by omega) (by omega) sd (by omega)]; exact ce2
          · rw [hnc]; exact k4.keep (uM_diff (by omega)) (fun j => uM_diff (by omega))
          · rw [hnc]; exact hAv.add (Nat.le_refl _) (Or.inl rfl)
          · rw [uM_diff (by omega), k3 3 4 (by unfold cS; omega)] at q
            obtain ⟨s4, ⟨A, kk, s5, s6, s7⟩, s8⟩ := s3 q
            obtain ⟨u5, u6⟩ := hCU s4
            rw [uM_diff (by omega)] at s4
            obtain ⟨u1, u2⟩ := w5 s4
            obtain ⟨u3, -, -⟩ := x5 u1
            obtain ⟨d1, d2, d3, d4, d5, d6, d7⟩ := hDat (by rw [← b2 3 4 (by unfold cS; omega)]; exact u3)
            refine ⟨?_, ?_, d3.keep (fun cc j x1 x2 => hMM cc j (by omega) (by omega) (by omega) (by omega)) (fun cc j x1 x2 => hNN cc (by omega) (by omega) (by omega) j (by omega)), ?_, d5.keep (fun j => hMM _ j (by omega) (by omega) (by omega) (by omega)) (fun j => hNN _ (by omega) (by omega) (by omega) j (by omega)), d6.keep (fun cc j x1 x2 => hMM cc j (by omega) (by omega) (by omega) (by omega)) (fun cc j x1 x2 => hNN cc (by omega) (by omega) (by omega) j (by omega)), d7.keep (hMM ld 4 (by omega) (by omega) (by omega) (by omega)) (hNN 423 (by omega) (by omega) (by omega) sd (by omega))⟩
            · rw [hnc]
              exact u5.keep (by rw [uM_diff (by omega), k3 3 8 (by unfold cS; omega), s2 3 8 (by unfold cG; omega)]) (fun j => by rw [uM_diff (by omega), k3 10 j (by unfold cS; omega), s2 10 j (by unfold cG; omega)]) (fun _ => rfl)
            · rw [hnc]; exact u6
            · have m5 : ∀ j, uM M4 ld 1 (nI (nd + 1)) (ld + 5) j = M7 (ld + 5) j := fun j => by rw [uM_diff (by omega), k3 (ld + 5) j (by unfold cS; omega)]
              have m5' : ∀ j, (j < 6 * nd ∨ 6 * nd + 6 ≤ j) → M7 (ld + 5) j = M (ld + 5) j := fun j hj => by rw [s8 j hj, hrow5]
              have m4 : ∀ j, uM M4 ld 1 (nI (nd + 1)) (ld + 4) j = uM M3 (ld + 4) nd r3 (ld + 4) j := fun j => by rw [uM_diff (by omega), k3 (ld + 4) j (by unfold cS; omega), s2 (ld + 4) j (by unfold cG; omega)]
              have o4 : ∀ j, uM N4 415 sd (nI (nd + 1)) 416 j = uM N3 416 (5 * sd + nd) r3' 416 j := fun j => by rw [uM_diff (by omega), g12 416 j (by unfold mS; omega), z5 416 j (by unfold mI; omega), y3 416 j (by omega)]
              have o5 : ∀ j, uM N4 415 sd (nI (nd + 1)) 417 j = N7 417 j := fun j => by rw [uM_diff (by omega), g12 417 j (by unfold mS; omega)]
              have o5' : ∀ j, (j < 6 * (5 * sd + nd) ∨ 6 * (5 * sd + nd) + 6 ≤ j) → N7 417 j = N 417 j := fun j hj => by rw [z5 417 j (by unfold mI; omega), y3 417 j (by omega), uM_diff (by omega), g8 417 j (by unfold mI; omega), g4 417 j (by unfold mI; omega), q4 417 j (by unfold mS; omega)]
              refine ⟨fun k hk => ?_, fun j hj hj2 => by rw [m5, m5' j (by omega)]; exact d4.2 j (by omega) hj2⟩
              rw [m4, o4]
              by_cases hkn : k = nd
              · subst hkn
                refine ⟨⟨v, u2, by rw [uM_same]; exact w3, by rw [uM_same]; exact w4⟩, A, fun f hf => ?_, by rw [s7.2]; exact s5, by rw [s7.2]; exact s6⟩
                rw [m5, o5]
                exact s7.1 f hf
              · obtain ⟨e1, B, e2, e3, e4⟩ := d4.1 k (by omega)
                refine ⟨?_, B, fun f hf => ?_, e3, e4⟩
                · rw [uM_diff (by omega), w6 (ld + 4) k (by unfold cI; omega), x6 (ld + 4) k (by unfold cN; omega), b2 (ld + 4) k (by unfold cS; omega), uM_diff (by omega), g8 416 _ (by unfold mI; omega), g4 416 _ (by unfold mI; omega), q4 416 _ (by unfold mS; omega)]
                  exact e1
                · rw [m5, o5, m5' _ (by omega), o5' _ (by omega)]
                  exact e2 f hf
          · exact hLw.keep (fun cc j x1 x2 => hMM cc j (by omega) (by omega) (by omega) (by omega)) (fun cc j x1 x2 => hNN cc (by omega) (by omega) (by omega) j (by omega))
        · rw [if_neg g11.nf.1, bI2_s]
          exact ⟨_, _, N4, K4, rfl, rfl, Or.inr ⟨g11.put1 (by omega), hCt.mc.keep (fun c hc => n44 c (by omega) (by omega) (by omega) sd)⟩, hNT, g13⟩
      · -- dead before the first ingredient
        unfold J_Mod_tellDish_74
        obtain ⟨k2, ft, u, a1, a2, a3, a4, a5, a6, a7, a8⟩ := id hd5
        rw [if_neg (by rw [a5]; exact nI_nle (by omega) (by omega)), bI2_s]
        obtain ⟨M', e1, e2⟩ := c_ingrD (x := nI nd) (L := L2) hld hd5
        rw [e1]
        exact ⟨M', L2, N5, K, rfl, rfl, Or.inr ⟨e2, hCt.mc.keep (fun c hc => n5 c sd (by unfold mI; omega) (by omega) (by omega))⟩, hNT5, fun _ _ _ => rfl⟩
    · rw [if_neg q3.nf.1]
      obtain ⟨M', L', e1, e2⟩ := c_dishD (L := L) (ld := ld) (nd := nd) hld (by omega) q3
      rw [e1]
      exact ⟨M', L', N1, K, rfl, rfl, Or.inr ⟨e2, hCt.mc.keep (fun c hc => q4 c sd (by unfold mS; omega))⟩, q4.mono mS_mT, fun _ _ _ => rfl⟩
end PAR14
