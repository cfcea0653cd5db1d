/-! the whole sum in both parsers -/
section PAR5
variable {b : Nat → Nat} {n m z : Nat}
def XS (b : Nat → Nat) (n m z W b0 c0 B0 t len : Nat) (R : List Nat) (e : Nat) (M : gM) (L : gL) (N : gM) (K : gL) : Prop := Tk b n m M L N K ∧ Lv m t M N ∧ Ex W b0 c0 len R e M N ∧ M 3 11 = nI (cn R) ∧ N 401 12 = nI (cn R) ∧ cn R ≤ 6 ∧ b0 + len + R.length + z ≤ t ∧ c0 + len + R.length + 2 ≤ t + B0
theorem Dd.re {M N M' N' : gM} {u : Nat} (h : Dd b n m M N) (e2 : M' 3 2 = M 3 2) (e3 : M' 3 3 = M 3 3) (f1 : N' 401 13 = N 401 13) (f2 : N' 401 14 = N 401 14) (hu : u ≤ 400) (f3 : N' 401 11 = nI u) : Dd b n m M' N' := by
  obtain ⟨k, ft, u', a1, a2, a3, a4, a5, a6, a7, a8⟩ := h
  exact ⟨k, ft, u, a1, a2, by rw [e2]; exact a3, by rw [e3]; exact a4, by rw [f1]; exact a5, by rw [f2]; exact a6, hu, f3⟩
theorem c_sumD {W : Nat} (hW : isLw W) {k : Nat} {M : gM} {L : gL} (hf : M 3 2 = nI k) (hk : k = 1 ∨ k = 2) (f : Nat) (v2 v3 : Int32) : ∃ M', H_Reader_takeSum_14 W L (f + 1) v2 v3 M = some M' ∧ M' 3 2 = M 3 2 ∧ M' 3 3 = M 3 3 := by
  have hne : M 3 2 ≠ 0 := by rw [hf]; exact nI_ne0 (by omega) (by omega)
  obtain ⟨M', g1, g2⟩ := tq_Reader_layHeld (Wl1 := W) (p2 := 1) (M := M) (L := L) hW
  have hJ : J_Reader_takeSum_89 W M L = some M' := by unfold J_Reader_takeSum_89; rw [g1, bI_s]
  refine ⟨M', ?_, g2.2.2 hne⟩
  show B_Reader_takeSum_14 W L (H_Reader_takeSum_14 W L f) v2 v3 M = _
  unfold B_Reader_takeSum_14
  by_cases h4 : 400 < v3
  · rw [if_pos h4, hJ]
  · rw [if_neg h4, if_neg hne, hJ]
theorem m_expD {K12 : Int32 → gM → Option gM} {v1 : Int32} {k : Nat} {N : gM} (hf : N 401 13 = nI k) (hk : k = 1 ∨ k = 2) (g : Nat) : H_Mod_expression_23 K12 v1 (g + 1) N = some N := by
  show B_Mod_expression_23 K12 v1 (H_Mod_expression_23 K12 v1 g) N = _
  unfold B_Mod_expression_23 J_Mod_expression_84 F_Mod_unit J_Mod_unit_88
  rw [q_isD hf hk, bI_s, if_pos rfl, q_isD hf hk, bI_s, if_pos rfl, if_neg (by rw [hf]; exact nI_ne0 (by omega) (by omega)), q_failD hf hk, bI_s, bI_s, if_neg (by rw [hf]; exact nI_nle (by omega) (by omega))]
theorem m_12D {v1 : Int32} {k : Nat} {N : gM} (hf : N 401 13 = nI k) (hk : k = 1 ∨ k = 2) (g : Nat) : H_Mod_expression_12 v1 (g + 1) 1 N = some N := by
  show B_Mod_expression_12 v1 (H_Mod_expression_12 v1 g) 1 N = _
  unfold B_Mod_expression_12
  rw [if_neg (by decide), if_neg (by rw [hf]; exact nI_ne0 (by omega) (by omega))]
theorem q_goesD {k u : Nat} {N : gM} (hf : N 401 13 = nI k) (hk : k = 1 ∨ k = 2) (hu : N 401 11 = nI u) (hu4 : u ≤ 400) : ∃ N' u', F_Mod_goesOn N = some N' ∧ u' ≤ 400 ∧ N' 401 11 = nI u' ∧ Eo (fun c j => c = 401 ∧ j = 11) N N' := by
  unfold F_Mod_goesOn
  rw [hu]
  by_cases h : u = 400
  · rw [if_pos (by rw [h]; rfl), q_failD hf hk, bI_s]
    exact ⟨N, u, rfl, hu4, hu, Eo.rf⟩
  · rw [if_neg (fun (q : nI u = (400 : Int32)) => h ((nI_eq (a := u) (b := 400) (by omega) (by omega)).mp q)), nmM_e, nI_1]
    exact ⟨_, u + 1, rfl, by omega, uM_same, Eo.rf.u ⟨rfl, rfl⟩⟩
theorem m_96D {W b0 c0 len B : Nat} {R : List Nat} (hW : 12 ≤ W) {K12 : Int32 → gM → Option gM} {k : Nat} {M0 N : gM} (hE : Ex W b0 c0 len R 1 M0 N) (hc : cn R ≤ 6) (h1 : b0 + len + R.length ≤ 400) (h2 : c0 + len + R.length ≤ B) (h3 : B ≤ 840) (hf : N 401 13 = nI k) (hk : k = 1 ∨ k = 2) (g : Nat) :
    ∃ N', H_Mod_expression_96 K12 0 (g + 1) N = some N' ∧ Eo (fun c j => (c = 401 ∧ (j = 44 ∨ j = 48)) ∨ ((c = 431 ∨ c = 432) ∧ c0 ≤ j ∧ j < B)) N N' := by
  obtain ⟨M', N', len', R', g1, g2, g3, g4, g5, g6, g7, g8⟩ := p_lay (B := B) hW (Or.inl ⟨rfl, rfl⟩) R len FU FU M0 N hE hc h1 h2 h3 (by have := (okR_max hE.ok hc).2; unfold FU; omega) (by have := (okR_max hE.ok hc).2; unfold FU; omega)
  refine ⟨N', ?_, g8⟩
  show B_Mod_expression_96 K12 0 (H_Mod_expression_96 K12 0 g) N = _
  unfold B_Mod_expression_96 J_Mod_expression_145 J_Mod_expression_186 J_Mod_expression_191 J_Mod_expression_204 F_Mod_comesOut
  rw [q_isD hf hk, bI_s, if_pos rfl, q_isD hf hk, bI_s, if_pos rfl, q_isD hf hk, bI_s, if_pos rfl, q_isD hf hk, bI_s, if_pos rfl, q_isD hf hk, bI_s, if_pos rfl, if_pos rfl, g2, bI_s]
  by_cases h0 : N 401 12 ≤ 0
  · rw [if_pos h0]
  · rw [if_neg h0, q_failD hf hk, bI_s, g2, bI_s]
theorem Ex.push {W b0 c0 len e e' x : Nat} {R : List Nat} {M N : gM} (h : Ex W b0 c0 len R e M N) (hW : 12 ≤ W) (ok : okR (x :: R)) (hs : sg (x :: R) + e' = sg R + e) : Ex W b0 c0 len (x :: R) e' (uM (uM M 11 R.length (nI x)) 3 10 (nI (R.length + 1))) (uM (uM N 433 R.length (nI (phi x))) 401 48 (nI (R.length + 1))) :=
  ⟨by rw [uM_diff (by omega), uM_diff (by omega)]; exact h.hl, by rw [uM_diff (by omega), uM_diff (by omega)]; exact h.hc,
   fun k hk => by rw [uM_diff (by omega), uM_diff (by omega), uM_diff (by omega), uM_diff (by omega), uM_diff (by omega), uM_diff (by omega)]; exact h.cs k hk,
   by rw [vdp_upto len (fun j _ _ => by rw [uM_diff (by omega), uM_diff (by omega)]), h.vd, hs],
   fun k d hk hv => h.dp k d hk (by rw [vdp_upto k (fun j _ _ => by rw [uM_diff (by omega), uM_diff (by omega)])] at hv; exact hv),
   by rw [uM_same]; rfl, by rw [uM_same]; rfl,
   ⟨by rw [uM_diff (by omega), uM_same], by rw [uM_diff (by omega), uM_same], Hd.keepB R (fun j hj => by rw [uM_diff (by omega), uM_diff (by omega)]) (fun j hj => by rw [uM_diff (by omega), uM_diff (by omega)]) h.hd⟩, ok⟩
theorem Ex.pop {W b0 c0 len e : Nat} {R : List Nat} {M N : gM} {x y : Int32} (h : Ex W b0 c0 len (40 :: R) e M N) (hW : 12 ≤ W) : Ex W b0 c0 len R e (uM (uM M 3 10 (nI R.length)) 3 11 x) (uM (uM N 401 48 (nI R.length)) 401 12 y) :=
  ⟨by rw [uM_diff (by omega), uM_diff (by omega)]; exact h.hl, by rw [uM_diff (by omega), uM_diff (by omega)]; exact h.hc,
   fun k hk => by rw [uM_diff (by omega), uM_diff (by omega), uM_diff (by omega), uM_diff (by omega), uM_diff (by omega), uM_diff (by omega)]; exact h.cs k hk,
   by rw [vdp_upto len (fun j _ _ => by rw [uM_diff (by omega), uM_diff (by omega)])]; exact h.vd,
   fun k d hk hv => h.dp k d hk (by rw [vdp_upto k (fun j _ _ => by rw [uM_diff (by omega), uM_diff (by omega)])] at hv; exact hv),
   by rw [uM_diff (by omega), uM_same], by rw [uM_diff (by omega), uM_same],
   Hd.keep (fun j => by rw [uM_diff (by omega), uM_diff (by omega)]) (fun j => by rw [uM_diff (by omega), uM_diff (by omega)]) R h.hd.2.2, h.ok.1⟩
theorem cS_10 : ∀ c j, cS c j → (c = 3 ∧ j ≠ 10) := fun c j h => by unfold cS at h; omega
theorem mS_44 : ∀ c j, mS c j → (c = 401 ∧ j ≠ 44 ∧ j ≠ 48) := fun c j h => by unfold mS at h; omega
theorem cS_cE {W b0 : Nat} : ∀ c j, cS c j → cE W b0 c j := fun c j h => by unfold cS at h; unfold cE; omega
theorem mS_mE {c0 B : Nat} : ∀ c j, mS c j → mE c0 B c j := fun c j h => by unfold mS at h; unfold mE; omega
theorem Lv.at {M N M' N' : gM} {t : Nat} (h : Lv m t M N) (e1 : M' 3 1 = M 3 1) (e2 : M' 3 2 = M 3 2) (e3 : N' 401 11 = N 401 11) (e4 : N' 401 13 = N 401 13) : Lv m t M' N' := ⟨by rw [e1]; exact h.1, by rw [e2]; exact h.2.1, by rw [e3]; exact h.2.2.1, by rw [e4]; exact h.2.2.2.1, h.2.2.2.2⟩
/-- behind a change of both: the token goes -/
theorem x_take {W b0 c0 B0 t len e : Nat} {R : List Nat} {M M1 N N1 : gM} {L K : gL} (hW : 12 ≤ W) (hT : Tk b n m M L N K) (hl : Lv m t M N) (hE1 : Ex W b0 c0 len R e M1 N1) (hc : Eo (fun c j => cE W b0 c j ∧ ¬ (c = 3 ∧ (j = 1 ∨ j = 2))) M M1) (hm : Eo (fun c j => mE c0 (B0 + 420) c j ∧ ¬ (c = 401 ∧ (j = 11 ∨ j = 13))) N N1) (op : M1 3 11 = nI (cn R)) (oq : N1 401 12 = nI (cn R)) (c6 : cn R ≤ 6) (s1 : b0 + len + R.length + z ≤ t + 1) (s2 : c0 + len + R.length + 2 ≤ t + 1 + B0) (h0 : tkK b n t ≠ 0) (h1 : tkK b n t ≠ 1) :
    ∃ M' N', F_Reader_take M1 = some M' ∧ F_Mod_goesOn N1 = some N' ∧ ((XS b n m z W b0 c0 B0 (t + 1) len R e M' L N' K ∧ Eo (cE W b0) M M') ∨ Dd b n m M' N') ∧ Eo mS N1 N' ∧ Eo (mE c0 (B0 + 420)) N N' := by
  have hT1 : Tk b n m M1 L N1 K := hT.keep (fun j => hc 6 j (by unfold cE; omega)) (fun j => hc 7 j (by unfold cE; omega)) (fun _ => rfl) (fun j => hm 404 j (by unfold mE; omega)) (fun j => hm 405 j (by unfold mE; omega)) (fun j => hm 406 j (by unfold mE; omega)) (fun _ => rfl)
  have hl1 : Lv m t M1 N1 := hl.at (hc 3 1 (by omega)) (hc 3 2 (by omega)) (hm 401 11 (by omega)) (hm 401 13 (by omega))
  obtain ⟨M', N', g1, g2, g3, g4⟩ := p_take hT1 hl1 h0 h1
  have hmm : Eo (mE c0 (B0 + 420)) N N' := (hm.mono (fun c j q => q.1)).tr (g4.mono mS_mE)
  refine ⟨M', N', g1, g2, ?_, g4, hmm⟩
  rcases g3 with ⟨a1, a2⟩ | g3
  · refine Or.inl ⟨⟨hT1.eo (a2.mono cS_cI) (g4.mono mS_mI), a1, hE1.fr hW (a2.mono cS_10) (g4.mono mS_44), ?_, ?_, c6, s1, s2⟩, (hc.mono (fun c j q => q.1)).tr (a2.mono cS_cE)⟩
    · rw [a2 3 11 (by unfold cS; omega)]; exact op
    · rw [g4 401 12 (by unfold mS; omega)]; exact oq
  · exact Or.inr g3
theorem tkK_148 {i : Nat} : tkK b n i ≤ 148 := kdom_le tkK_dom
theorem isOne9 {k : Nat} (h : k ≤ 148) : F_Main_isOne (nI k - 140) 9 = some (if 140 ≤ k then 1 else 0) := (by decide +kernel : ∀ k, k < 149 → F_Main_isOne (nI k - 140) 9 = some (if 140 ≤ k then 1 else 0)) k (by omega)
theorem varC {k : Nat} (h : 140 ≤ k) (h2 : k ≤ 148) : 10000 + nI k - 140 = nI (10000 + (k - 140)) ∧ nI (phi k) - 32 = nI (k - 140) ∧ ¬ nI (phi k) < 32 ∧ ¬ 40 < nI (phi k) := (by decide +kernel : ∀ k, k < 149 → 140 ≤ k → 10000 + nI k - 140 = nI (10000 + (k - 140)) ∧ nI (phi k) - 32 = nI (k - 140) ∧ ¬ nI (phi k) < 32 ∧ ¬ 40 < nI (phi k)) k (by omega) h
theorem phi_lo {k : Nat} (h : kdom k) (h2 : k < 140) : nI (phi k) < 32 := (by decide +kernel : ∀ k, k < 140 → kdomB k = true → nI (phi k) < 32) k h2 (kdomB_iff.mpr h)
/-- what the sum comes to, for both -/
def SumR (b : Nat → Nat) (n m z W b0 c0 B0 t : Nat) (M : gM) (L : gL) (N : gM) (K : gL) (oM oN : Option gM) : Prop := ∃ M' N', oM = some M' ∧ oN = some N' ∧ ((∃ t' len', t ≤ t' ∧ XS b n m z W b0 c0 B0 t' len' [] 1 M' L N' K ∧ Eo (cE W b0) M M') ∨ Dd b n m M' N') ∧ Eo (mE c0 (B0 + 420)) N N'
theorem SumR.from {W b0 c0 B0 t t1 : Nat} {M M1 N N1 : gM} {L K : gL} {oM oN : Option gM} (h : SumR b n m z W b0 c0 B0 t1 M1 L N1 K oM oN) (ht : t ≤ t1) (h1 : Eo (cE W b0) M M1) (h2 : Eo (mE c0 (B0 + 420)) N N1) : SumR b n m z W b0 c0 B0 t M L N K oM oN := by
  obtain ⟨M', N', g1, g2, g3, g4⟩ := h
  refine ⟨M', N', g1, g2, ?_, h2.tr g4⟩
  rcases g3 with ⟨t', len', a1, a2, a3⟩ | g3
  · exact Or.inl ⟨t', len', by omega, a2, h1.tr a3⟩
  · exact Or.inr g3
theorem SumR.dead {W b0 c0 B0 t : Nat} {M M1 N N1 : gM} {L K : gL} {oM oN : Option gM} (hW : isLw W) (hd : Dd b n m M1 N1) (h2 : Eo (mE c0 (B0 + 420)) N N1) (hM : ∃ M', oM = some M' ∧ M' 3 2 = M1 3 2 ∧ M' 3 3 = M1 3 3) (hN : ∃ N', oN = some N' ∧ N' 401 13 = N1 401 13 ∧ N' 401 14 = N1 401 14 ∧ (∃ u, u ≤ 400 ∧ N' 401 11 = nI u) ∧ Eo (mE c0 (B0 + 420)) N1 N') : SumR b n m z W b0 c0 B0 t M L N K oM oN := by
  obtain ⟨M', g1, g2, g3⟩ := hM
  obtain ⟨N', q1, q2, q3, ⟨u, q4, q5⟩, q6⟩ := hN
  exact ⟨M', N', g1, q1, Or.inr (hd.re g2 g3 q2 q3 q4 q5), h2.tr q6⟩
def SU (b : Nat → Nat) (n m z W b0 c0 B0 : Nat) (L K : gL) (d t : Nat) : Prop := ∀ R len v f g1 g2 M N, XS b n m z W b0 c0 B0 t len R 0 M L N K → v + 2 ≤ t → d < f → d < g1 → d < g2 → SumR b n m z W b0 c0 B0 (t + 1) M L N K (H_Reader_takeSum_14 W L f 1 (nI v) M) (H_Mod_expression_23 (H_Mod_expression_12 0 g1) 0 g2 N)
def SS (b : Nat → Nat) (n m z W b0 c0 B0 : Nat) (L K : gL) (d t : Nat) : Prop := ∀ R len v f g1 g2 M N, XS b n m z W b0 c0 B0 t len R 1 M L N K → v + 2 ≤ t → d < f → d < g1 → d < g2 → SumR b n m z W b0 c0 B0 t M L N K (H_Reader_takeSum_14 W L f 0 (nI v) M) (H_Mod_expression_96 (H_Mod_expression_12 0 g1) 0 g2 N)
theorem p_U {W b0 c0 B0 d t : Nat} {L K : gL} (hz : 2 ≤ z) (hW : isLw W) (hB : B0 ≤ 420) (ht : 401 - t = d + 1) (ihU : SU b n m z W b0 c0 B0 L K d (t + 1)) (ihS : SS b n m z W b0 c0 B0 L K d (t + 1)) : SU b n m z W b0 c0 B0 L K (d + 1) t := by
  have h12 := Lw_12 hW
  intro R len v f g1 g2 M N hX hv hf hg1 hg2
  obtain ⟨f, rfl⟩ : ∃ x, f = x + 1 := ⟨f - 1, by omega⟩
  obtain ⟨g2, rfl⟩ : ∃ x, g2 = x + 1 := ⟨g2 - 1, by omega⟩
  obtain ⟨hT, hl, hE, op, oq, c6, s1, s2⟩ := id hX
  have hm := hT.m400
  have htm := hl.2.2.2.2
  have hmax := okR_max hE.ok c6
  have eM : H_Reader_takeSum_14 W L (f + 1) 1 (nI v) M = bI2 (F_Reader_takeUnit W M L) (fun r20 M21 => H_Reader_takeSum_14 W L f r20 (nI (v + 1)) M21) := by
    show B_Reader_takeSum_14 W L (H_Reader_takeSum_14 W L f) 1 (nI v) M = _
    unfold B_Reader_takeSum_14 J_Reader_takeSum_83
    rw [if_neg (by rw [show (400 : Int32) = nI 400 from rfl, nI_ltI (by omega) (by omega)]; omega), hl.2.1, if_pos rfl, if_neg (by decide)]
    simp only [nmI_e, nI_1]
  have eN : H_Mod_expression_23 (H_Mod_expression_12 0 g1) 0 (g2 + 1) N = if tkK b n t = 40 then (if N 401 12 = 6 then bI (F_Mod_fail 2 N) (fun M61 => J_Mod_expression_46 (H_Mod_expression_12 0 g1) (H_Mod_expression_23 (H_Mod_expression_12 0 g1) 0 g2) 0 M61) else J_Mod_expression_46 (H_Mod_expression_12 0 g1) (H_Mod_expression_23 (H_Mod_expression_12 0 g1) 0 g2) 0 N) else J_Mod_expression_84 (H_Mod_expression_12 0 g1) 0 N := by
    show B_Mod_expression_23 (H_Mod_expression_12 0 g1) 0 (H_Mod_expression_23 (H_Mod_expression_12 0 g1) 0 g2) N = _
    unfold B_Mod_expression_23
    rw [q_is hT (k := 40) (kk := 6) rfl (Or.inr (Or.inl rfl)) hl.2.2.1 hl.2.2.2.1 htm, bI_s]
    by_cases e : tkK b n t = 40
    · rw [if_pos e, if_neg (show ¬ (1 : Int32) = 0 by decide), if_pos e]
    · rw [if_neg e, if_pos (show (0 : Int32) = 0 from rfl), if_neg e]
  rw [eM, eN]
  unfold F_Reader_takeUnit
  rw [r_kind hT hl.1 htm, bI_s]
  have hk148 := tkK_148 (b := b) (n := n) (i := t)
  by_cases e40 : tkK b n t = 40
  · rw [if_pos e40, if_pos (by rw [e40]; rfl), op, oq]
    by_cases hc6 : cn R = 6
    · -- too deep
      rw [if_neg (by rw [hc6]; decide), if_pos (by rw [hc6]; rfl)]
      obtain ⟨M1, N1, q1, q2, q3, q4⟩ := p_fail (k := 2) (kk := 2) rfl (Or.inr rfl) (Or.inl ⟨hT, hl⟩)
      rw [q1, bI_s, bI2_s, q2, bI_s]
      obtain ⟨k2, ft, u, x1, x2, x3, x4, x5, x6, x7, x8⟩ := id q3
      refine SumR.dead hW q3 (q4.mono mS_mE) (by obtain ⟨f, rfl⟩ : ∃ x, f = x + 1 := ⟨f - 1, by omega⟩; exact c_sumD hW x3 x1 f _ _) ?_
      unfold J_Mod_expression_46
      rw [nmM_e]
      obtain ⟨N2, u2, y1, y2, y3, y4⟩ := q_goesD (N := uM N1 401 12 (N1 401 12 + 1)) (k := k2) (u := u) (by rw [uM_diff (by omega)]; exact x5) x1 (by rw [uM_diff (by omega)]; exact x8) x7
      have y48 : N2 401 48 = nI R.length := by rw [y4 401 48 (by omega), uM_diff (by omega), q4 401 48 (by unfold mS; omega)]; exact hE.wn
      rw [y1, bI_s, y48, if_neg (nI_in (by omega) (by decide)), nI_clamp (by omega), nmM_e, nmM_e]
      obtain ⟨g2, rfl⟩ : ∃ x, g2 = x + 1 := ⟨g2 - 1, by omega⟩
      have y13 : N2 401 13 = N1 401 13 := by rw [y4 401 13 (by omega), uM_diff (by omega)]
      have y14 : N2 401 14 = N1 401 14 := by rw [y4 401 14 (by omega), uM_diff (by omega)]
      refine ⟨_, m_expD (k := k2) (by rw [uM_diff (by omega), uM_diff (by omega), y13]; exact x5) x1 g2, by rw [uM_diff (by omega), uM_diff (by omega)]; exact y13, by rw [uM_diff (by omega), uM_diff (by omega)]; exact y14, ⟨u2, y2, by rw [uM_diff (by omega), uM_diff (by omega)]; exact y3⟩, ?_⟩
      refine Eo.u (Eo.u (Eo.tr (Eo.rf.u ?_) (y4.mono (fun c j q => ?_))) ?_) ?_ <;> unfold mE <;> omega
    · rw [if_pos (by rw [show (6 : Int32) = nI 6 from rfl, nI_ltI (by omega) (by omega)]; omega), if_neg (fun q => by rw [show (6 : Int32) = nI 6 from rfl, nI_eq (by omega) (by omega)] at q; omega)]
      unfold F_Reader_holdSign J_Mod_expression_46
      rw [nmM_e, uM_diff (by omega), hE.hn, s_put (by omega) (by decide), bI_s, uM_diff (by omega), uM_diff (by omega), hE.hn, nmM_e, bI_s, nmM_e, oq, nI_1, nI_1]
      have hok : okR (40 :: R) := ⟨hE.ok, Or.inl rfl⟩
      have hE0 : Ex W b0 c0 len R 0 (uM M 3 11 (nI (cn R + 1))) (uM N 401 12 (nI (cn R + 1))) := hE.fr h12 (Eo.rf.u ⟨rfl, by omega⟩) (Eo.rf.u ⟨rfl, by omega, by omega⟩)
      have hE1 := hE0.push (x := 40) (e' := 0) h12 hok rfl
      have hcn : cn (40 :: R) = cn R + 1 := rfl
      -- the model's sign is put behind the step
      have hl1 : Lv m t (uM (uM (uM M 3 11 (nI (cn R + 1))) 11 R.length 40) 3 10 (nI (R.length + 1))) (uM N 401 12 (nI (cn R + 1))) := hl.at (by rw [uM_diff (by omega), uM_diff (by omega), uM_diff (by omega)]) (by rw [uM_diff (by omega), uM_diff (by omega), uM_diff (by omega)]) (uM_diff (by omega)) (uM_diff (by omega))
      have hT1 : Tk b n m (uM (uM (uM M 3 11 (nI (cn R + 1))) 11 R.length 40) 3 10 (nI (R.length + 1))) L (uM N 401 12 (nI (cn R + 1))) K := hT.keep (fun j => by rw [uM_diff (by omega), uM_diff (by omega), uM_diff (by omega)]) (fun j => by rw [uM_diff (by omega), uM_diff (by omega), uM_diff (by omega)]) (fun _ => rfl) (fun j => uM_diff (by omega)) (fun j => uM_diff (by omega)) (fun j => uM_diff (by omega)) (fun _ => rfl)
      obtain ⟨M2, N2, q1, q2, q3, q4⟩ := p_take hT1 hl1 (by omega) (by omega)
      have y48 : N2 401 48 = nI R.length := by rw [q4 401 48 (by unfold mS; omega), uM_diff (by omega)]; exact hE.wn
      rw [q1, bI_s, bI2_s, q2, bI_s, y48, if_neg (nI_in (by omega) (by decide)), nI_clamp (by omega), nmM_e, uM_diff (by omega), y48, nmM_e, nI_1]
      have hmE : Eo (mE c0 (B0 + 420)) N (uM (uM N2 433 R.length 6) 401 48 (nI (R.length + 1))) := by
        refine Eo.u (Eo.u (Eo.tr (Eo.rf.u ?_) (q4.mono mS_mE)) ?_) ?_ <;> unfold mE <;> omega
      rcases q3 with ⟨a1, a2⟩ | q3
      · have hE2 : Ex W b0 c0 len (40 :: R) 0 M2 (uM (uM N2 433 R.length 6) 401 48 (nI (R.length + 1))) := hE1.fr h12 (a2.mono cS_10) (fun c j q => by
          rw [uM_at, uM_at, uM_at, uM_at]
          by_cases w1 : c = 401 ∧ j = 48
          · rw [if_pos w1, if_pos w1]
          rw [if_neg w1, if_neg w1]
          by_cases w2 : c = 433 ∧ j = R.length
          · rw [if_pos w2, if_pos w2]; rfl
          rw [if_neg w2, if_neg w2]
          exact q4 c j (fun w => q (mS_44 c j w)))
        have hT2 : Tk b n m M2 L (uM (uM N2 433 R.length 6) 401 48 (nI (R.length + 1))) K := (hT1.eo (a2.mono cS_cI) (q4.mono mS_mI)).keep (fun _ => rfl) (fun _ => rfl) (fun _ => rfl) (fun j => by rw [uM_diff (by omega), uM_diff (by omega)]) (fun j => by rw [uM_diff (by omega), uM_diff (by omega)]) (fun j => by rw [uM_diff (by omega), uM_diff (by omega)]) (fun _ => rfl)
        have hX2 : XS b n m z W b0 c0 B0 (t + 1) len (40 :: R) 0 M2 L (uM (uM N2 433 R.length 6) 401 48 (nI (R.length + 1))) K :=
          ⟨hT2, a1.at rfl rfl (by rw [uM_diff (by omega), uM_diff (by omega)]) (by rw [uM_diff (by omega), uM_diff (by omega)]), hE2, by rw [a2 3 11 (by unfold cS; omega), uM_diff (by omega), uM_diff (by omega), uM_same, hcn], by rw [uM_diff (by omega), uM_diff (by omega), q4 401 12 (by unfold mS; omega), uM_same, hcn], by omega, by simp only [List.length_cons]; omega, by simp only [List.length_cons]; omega⟩
        exact (ihU (40 :: R) len (v + 1) f g1 g2 M2 _ hX2 (by omega) (by omega) (by omega) (by omega)).from (by omega) (by
          refine Eo.tr (Eo.u (Eo.u (Eo.rf.u ?_) ?_) ?_) (a2.mono cS_cE) <;> unfold cE <;> omega) hmE
      · obtain ⟨k2, ft, u, x1, x2, x3, x4, x5, x6, x7, x8⟩ := id q3
        obtain ⟨g2, rfl⟩ : ∃ x, g2 = x + 1 := ⟨g2 - 1, by omega⟩
        obtain ⟨f, rfl⟩ : ∃ x, f = x + 1 := ⟨f - 1, by omega⟩
        refine SumR.dead hW (N1 := uM (uM N2 433 R.length 6) 401 48 (nI (R.length + 1))) (q3.re (u := u) rfl rfl (by rw [uM_diff (by omega), uM_diff (by omega)]) (by rw [uM_diff (by omega), uM_diff (by omega)]) x7 (by rw [uM_diff (by omega), uM_diff (by omega)]; exact x8)) hmE (c_sumD hW x3 x1 f _ _) ⟨_, m_expD (k := k2) (by rw [uM_diff (by omega), uM_diff (by omega)]; exact x5) x1 g2, rfl, rfl, ⟨u, x7, by rw [uM_diff (by omega), uM_diff (by omega)]; exact x8⟩, Eo.rf⟩
  · rw [if_neg e40, if_neg (fun (q : nI (tkK b n t) = (40 : Int32)) => e40 ((nI_eq (a := tkK b n t) (b := 40) (by omega) (by omega)).mp q))]
    unfold J_Mod_expression_84 F_Mod_unit J_Mod_unit_88
    rw [q_is hT (k := 3) (kk := 2) rfl (Or.inl (by decide)) hl.2.2.1 hl.2.2.2.1 htm, bI_s]
    -- a code and the next token
    have hcode : ∀ x kk vv : Int32, Cd x kk vv → kk.toInt < 2 → tkK b n t ≠ 0 → tkK b n t ≠ 1 → SumR b n m z W b0 c0 B0 (t + 1) M L N K (bI2 (bI (F_Law_add W x M) (fun M17 => bI (F_Reader_take M17) (fun M19 => some ((0 : Int32), M19)))) (fun r20 M21 => H_Reader_takeSum_14 W L f r20 (nI (v + 1)) M21)) (bI (bI (F_Mod_emit kk vv N) (fun M13 => bI (F_Mod_goesOn M13) (fun M15 => some M15))) (fun M9 => if M9 401 13 ≤ 0 then H_Mod_expression_96 (H_Mod_expression_12 0 g1) 0 FU M9 else some M9)) := by
      intro x kk vv hcd hlt h0 h1
      rw [c_add hE.hl (by omega), bI_s, m_emit hE.hc (by omega), bI_s]
      have hE1 := hE.put (R' := R) (e' := 1) h12 hcd (Or.inl ⟨hlt, rfl⟩) (by omega) (by rw [uM_diff (by omega), uM_diff (by omega)]; exact hE.hn) hE.wn hE.hd hE.ok
      obtain ⟨M2, N2, q1, q2, q3, q4, q5⟩ := x_take (z := z) (B0 := B0) h12 hT hl hE1 (by
        refine Eo.u (Eo.rf.u ?_) ?_ <;> (refine ⟨?_, ?_⟩ <;> (try unfold cE) <;> omega)) (by
        unfold emM
        refine Eo.u (Eo.u (Eo.rf.u ?_) ?_) ?_ <;> (refine ⟨?_, ?_⟩ <;> (try unfold mE) <;> omega)) (by rw [uM_diff (by omega), uM_diff (by omega)]; exact op) (by unfold emM; rw [uM_diff (by omega), uM_diff (by omega), uM_diff (by omega)]; exact oq) c6 (by omega) (by omega) h0 h1
      rw [q1, bI_s, bI2_s, q2, bI_s, bI_s]
      rcases q3 with ⟨q3, q6⟩ | q3
      · rw [if_pos (by rw [q3.2.1.2.2.2.1]; decide)]
        exact (ihS R (len + 1) (v + 1) f g1 FU M2 N2 q3 (by omega) (by omega) (by omega) (by unfold FU; omega)).from (by omega) q6 q5
      · obtain ⟨k2, ft, u, x1, x2, x3, x4, x5, x6, x7, x8⟩ := id q3
        rw [if_neg (by rw [x5]; exact nI_nle (by omega) (by omega))]
        obtain ⟨f, rfl⟩ : ∃ x, f = x + 1 := ⟨f - 1, by omega⟩
        exact SumR.dead hW q3 q5 (c_sumD hW x3 x1 f _ _) ⟨N2, rfl, rfl, rfl, ⟨u, x7, x8⟩, Eo.rf⟩
    by_cases e3 : tkK b n t = 3
    · have hV := tkV_lt e3
      rw [if_pos e3, if_neg (show ¬ (1 : Int32) = 0 by decide), if_pos (by rw [e3]; rfl), r_value hT hl.1 htm, bI_s, lN_i, hl.2.2.1, if_neg (nI_in (by omega) (by decide)), nI_clamp (by omega), (hT.2.2.1 t (by omega)).2.2.1 e3]
      exact hcode (nI (tkV b n t)) (nI 0) (nI (tkV b n t)) (Or.inl ⟨_, by omega, rfl, rfl, rfl⟩) (by decide) (by omega) (by omega)
    · rw [if_neg e3, if_pos (show (0 : Int32) = 0 from rfl), if_neg (fun (q : nI (tkK b n t) = (3 : Int32)) => e3 ((nI_eq (a := tkK b n t) (b := 3) (by omega) (by omega)).mp q)), isOne9 hk148, bI_s, hl.2.2.2.1, if_pos rfl, hl.2.2.1, if_neg (nI_in (by omega) (by decide)), nI_clamp (by omega), (hT.2.2.1 t (by omega)).1]
      by_cases hvar : 140 ≤ tkK b n t
      · obtain ⟨w1, w2, w3, w4⟩ := varC hvar hk148
        rw [if_pos hvar, if_neg (show ¬ (1 : Int32) = 0 by decide), w1, if_neg w3, if_neg (nI_inc (by omega) (by omega)), if_neg w4, if_neg (nI_inc (by omega) (by omega)), w2]
        exact hcode (nI (10000 + (tkK b n t - 140))) (nI 1) (nI (tkK b n t - 140)) (Or.inr (Or.inl ⟨_, by omega, rfl, rfl, rfl⟩)) (by decide) (by omega) (by omega)
      · rw [if_neg hvar, if_pos (show (0 : Int32) = 0 from rfl), if_pos (phi_lo tkK_dom (by omega))]
        obtain ⟨M1, N1, q1, q2, q3, q4⟩ := p_fail (k := 1) (kk := 1) rfl (Or.inl rfl) (Or.inl ⟨hT, hl⟩)
        obtain ⟨k2, ft, u, x1, x2, x3, x4, x5, x6, x7, x8⟩ := id q3
        obtain ⟨f, rfl⟩ : ∃ x, f = x + 1 := ⟨f - 1, by omega⟩
        rw [q1, bI_s, bI2_s, q2, bI_s, bI_s, if_neg (by rw [x5]; exact nI_nle (by omega) (by omega))]
        exact SumR.dead hW q3 (q4.mono mS_mE) (c_sumD hW x3 x1 f _ _) ⟨N1, rfl, rfl, rfl, ⟨u, x7, x8⟩, Eo.rf⟩
theorem m_145 {t g1 : Nat} {N : gM} (qi : ∀ {kk : Int32} (k : Nat), kk = nI (phi k) → kdom k → F_Mod_is kk N = some (if tkK b n t = k then 1 else 0)) : J_Mod_expression_145 (H_Mod_expression_12 0 g1) 0 N = if tkK b n t = 42 ∨ tkK b n t = 47 then J_Mod_expression_234 (H_Mod_expression_12 0 g1) 0 1 1 N else if tkK b n t = 43 ∨ tkK b n t = 45 then J_Mod_expression_234 (H_Mod_expression_12 0 g1) 0 1 0 N else J_Mod_expression_191 0 N := by
  have n10 : ¬ (1 : Int32) = 0 := by decide
  have p00 : (0 : Int32) = 0 := rfl
  unfold J_Mod_expression_145 J_Mod_expression_181 J_Mod_expression_186 J_Mod_expression_229
  rw [qi (kk := 8) 43 rfl (Or.inr (Or.inl rfl)), qi (kk := 9) 45 rfl (Or.inr (Or.inl rfl)), qi (kk := 10) 42 rfl (Or.inr (Or.inl rfl)), qi (kk := 15) 47 rfl (Or.inr (Or.inl rfl))]
  simp only [bI_s]
  by_cases k1 : tkK b n t = 43
  · have k3 : ¬ tkK b n t = 42 := by omega
    have k4 : ¬ tkK b n t = 47 := by omega
    rw [if_pos k1, if_neg n10, if_neg n10, if_neg k3, if_pos p00, if_neg k4, if_pos p00, if_neg (show ¬ (tkK b n t = 42 ∨ tkK b n t = 47) by omega), if_pos (Or.inl k1)]
  by_cases k2 : tkK b n t = 45
  · have k3 : ¬ tkK b n t = 42 := by omega
    have k4 : ¬ tkK b n t = 47 := by omega
    rw [if_neg k1, if_pos p00, if_pos k2, if_neg n10, if_neg n10, if_neg k3, if_pos p00, if_neg k4, if_pos p00, if_neg (show ¬ (tkK b n t = 42 ∨ tkK b n t = 47) by omega), if_pos (Or.inr k2)]
  by_cases k3 : tkK b n t = 42
  · rw [if_neg k1, if_pos p00, if_neg k2, if_pos p00, if_pos k3, if_neg n10, if_neg n10, if_neg n10, if_pos (Or.inl k3)]
  by_cases k4 : tkK b n t = 47
  · rw [if_neg k1, if_pos p00, if_neg k2, if_pos p00, if_neg k3, if_pos p00, if_pos k4, if_neg n10, if_neg n10, if_pos p00, if_neg n10, if_pos (Or.inr k4)]
  rw [if_neg k1, if_pos p00, if_neg k2, if_pos p00, if_neg k3, if_pos p00, if_neg k4, if_pos p00, if_neg (show ¬ (tkK b n t = 42 ∨ tkK b n t = 47) by omega), if_neg (show ¬ (tkK b n t = 43 ∨ tkK b n t = 45) by omega)]
  exact if_pos trivial
theorem p_S {W b0 c0 B0 d t : Nat} {L K : gL} (hz : 2 ≤ z) (hW : isLw W) (hB : B0 ≤ 420) (ht : 401 - t = d + 1) (ihU : SU b n m z W b0 c0 B0 L K d (t + 1)) (ihS : SS b n m z W b0 c0 B0 L K d (t + 1)) : SS b n m z W b0 c0 B0 L K (d + 1) t := by
  have h12 := Lw_12 hW
  intro R len v f g1 g2 M N hX hv hf hg1 hg2
  obtain ⟨f, rfl⟩ : ∃ x, f = x + 1 := ⟨f - 1, by omega⟩
  obtain ⟨g2, rfl⟩ : ∃ x, g2 = x + 1 := ⟨g2 - 1, by omega⟩
  obtain ⟨hT, hl, hE, op, oq, c6, s1, s2⟩ := id hX
  have hm := hT.m400
  have htm := hl.2.2.2.2
  have hmax := okR_max hE.ok c6
  have hk148 := tkK_148 (b := b) (n := n) (i := t)
  have eM : H_Reader_takeSum_14 W L (f + 1) 0 (nI v) M = if (if tkK b n t = 42 ∨ tkK b n t = 47 then 2 else if tkK b n t = 43 ∨ tkK b n t = 45 then 1 else 0 : Int32) ≤ 0 then (if nI (cn R) ≤ 0 then J_Reader_takeSum_89 W M L else bI (F_Reader_takeClose W M) (fun M15 => H_Reader_takeSum_14 W L f 0 (nI (v + 1)) M15)) else bI (F_Reader_takeSign W M) (fun M18 => H_Reader_takeSum_14 W L f 1 (nI (v + 1)) M18) := by
    show B_Reader_takeSum_14 W L (H_Reader_takeSum_14 W L f) 0 (nI v) M = _
    unfold B_Reader_takeSum_14 J_Reader_takeSum_83
    rw [if_neg (by rw [show (400 : Int32) = nI 400 from rfl, nI_ltI (by omega) (by omega)]; omega), hl.2.1, if_pos rfl, if_pos rfl, r_kind hT hl.1 htm, bI_s, r_rank hk148, bI_s, op]
    simp only [nmI_e, nI_1]
  have qi : ∀ {kk : Int32} (k : Nat), kk = nI (phi k) → kdom k → F_Mod_is kk N = some (if tkK b n t = k then 1 else 0) := fun k e hk => q_is hT e hk hl.2.2.1 hl.2.2.2.1 htm
  have e145 := m_145 (t := t) (g1 := g1) (N := N) (b := b) (n := n) (fun {kk} k e hk => qi k e hk)
  have eN : H_Mod_expression_96 (H_Mod_expression_12 0 g1) 0 (g2 + 1) N = if tkK b n t = 41 ∧ 0 < cn R then bI (F_Mod_comesOut 0 N) (fun M48 => nmM (uM M48 401 48 ((M48 401 48) - 1)) (fun M49 => nmM (uM M49 401 12 ((M49 401 12) - 1)) (fun M50 => bI (F_Mod_goesOn M50) (fun M52 => H_Mod_expression_96 (H_Mod_expression_12 0 g1) 0 g2 M52)))) else J_Mod_expression_145 (H_Mod_expression_12 0 g1) 0 N := by
    show B_Mod_expression_96 (H_Mod_expression_12 0 g1) 0 (H_Mod_expression_96 (H_Mod_expression_12 0 g1) 0 g2) N = _
    unfold B_Mod_expression_96
    rw [qi (kk := 7) 41 rfl (Or.inr (Or.inl rfl)), bI_s, oq]
    by_cases e : tkK b n t = 41
    · rw [if_pos e, if_neg (show ¬ (1 : Int32) = 0 by decide)]
      by_cases hc : 0 < cn R
      · rw [if_neg (nI_nle (by omega) (by omega)), if_pos ⟨e, hc⟩]
      · rw [if_pos (by rw [show cn R = 0 by omega]; decide), if_neg (fun q => hc q.2)]
    · rw [if_neg e, if_pos (show (0 : Int32) = 0 from rfl), if_neg (fun q => e q.1)]
  rw [eM, eN]
  have hRF : R.length < FU := by unfold FU; omega
  -- a sign
  have hsign : ∀ (p : Nat) (s r : Int32), (p = 1 ∧ s = 0) ∨ (p = 2 ∧ s = 1) → F_Reader_rank (nI (tkK b n t)) = some (nI p) → (p = 1 → tkK b n t = 43 ∨ tkK b n t = 45) → (p = 2 → tkK b n t = 42 ∨ tkK b n t = 47) → SumR b n m z W b0 c0 B0 t M L N K (bI (F_Reader_takeSign W M) (fun M18 => H_Reader_takeSum_14 W L f 1 (nI (v + 1)) M18)) (J_Mod_expression_234 (H_Mod_expression_12 0 g1) 0 1 s N) := by
    intro p s r hp hr hk1 hk2
    unfold F_Reader_takeSign J_Mod_expression_234 F_Reader_layHeld F_Mod_comesOut
    obtain ⟨M6, N6, len', R', p1, p2, p3, p4, p5, p6, p7, p8⟩ := p_lay (B := B0 + 420) h12 hp R len FU FU M N hE c6 (by omega) (by omega) (by omega) hRF hRF
    have hmax' := okR_max p3.ok (by omega)
    have p11 : N6 401 11 = nI t := by rw [p8 401 11 (by omega)]; exact hl.2.2.1
    have p404 : N6 404 t = nI (phi (tkK b n t)) := by rw [p8 404 t (by omega)]; exact (hT.2.2.1 t (by omega)).1
    unfold F_Reader_holdSign
    rw [r_kind hT hl.1 htm, bI_s, hr, bI_s, p1, bI_s, p3.hn, s_put (by omega) (by decide), bI_s, uM_diff (by omega), p3.hn, nmM_e, bI_s, p2, bI_s, p11, if_neg (nI_in (by omega) (by decide)), nI_clamp (by omega), p404, p3.wn, if_neg (nI_in (by omega) (by decide)), nI_clamp (by omega), nmM_e, uM_diff (by omega), p3.wn, nmM_e, nI_1]
    have hk40 : tkK b n t ≠ 40 := by rcases hp with ⟨e, _⟩ | ⟨e, _⟩; (have := hk1 e; omega); (have := hk2 e; omega)
    have hok : okR (tkK b n t :: R') := by
      refine ⟨p3.ok, Or.inr ?_⟩
      rcases hp with ⟨e, _⟩ | ⟨e, _⟩
      · exact Or.inl ⟨hk1 e, fun y hy => (p6 y hy).resolve_right (fun q => by omega)⟩
      · refine Or.inr ⟨hk2 e, fun y hy => ?_⟩
        rcases p6 y hy with q | q
        · omega
        · exact q.2
    have hsg : sg (tkK b n t :: R') + 0 = sg R' + 1 := by simp only [sg, if_neg hk40]
    have hcn : cn (tkK b n t :: R') = cn R' := by simp only [cn, if_neg hk40]; rfl
    have hE1 := p3.push (x := tkK b n t) (e' := 0) h12 hok hsg
    obtain ⟨M2, N2, q1, q2, q3, q4, q5⟩ := x_take (z := z) (B0 := B0) h12 hT hl hE1 (by
      refine Eo.u (Eo.u (p7.mono (fun c j q => ?_)) ?_) ?_ <;> (refine ⟨?_, ?_⟩ <;> (try unfold cE) <;> omega)) (by
      refine Eo.u (Eo.u (p8.mono (fun c j q => ?_)) ?_) ?_ <;> (refine ⟨?_, ?_⟩ <;> (try unfold mE) <;> omega)) (by rw [uM_diff (by omega), uM_diff (by omega), p7 3 11 (by omega), op, hcn, p5]) (by rw [uM_diff (by omega), uM_diff (by omega), p8 401 12 (by omega), oq, hcn, p5]) (by omega) (by simp only [List.length_cons]; omega) (by simp only [List.length_cons]; omega) (by omega) (by omega)
    rw [q1, bI_s, bI_s, q2, bI_s]
    obtain ⟨g1, rfl⟩ : ∃ x, g1 = x + 1 := ⟨g1 - 1, by omega⟩
    rcases q3 with ⟨q3, q6⟩ | q3
    · have eK : H_Mod_expression_12 0 (g1 + 1) 1 N2 = H_Mod_expression_23 (H_Mod_expression_12 0 g1) 0 FU N2 := by
        show B_Mod_expression_12 0 (H_Mod_expression_12 0 g1) 1 N2 = _
        unfold B_Mod_expression_12
        rw [if_neg (by decide), q3.2.1.2.2.2.1, if_pos rfl]
      rw [eK]
      exact (ihU _ len' (v + 1) f g1 FU M2 N2 q3 (by omega) (by omega) (by omega) (by unfold FU; omega)).from (by omega) q6 q5
    · obtain ⟨k2, ft, u, x1, x2, x3, x4, x5, x6, x7, x8⟩ := id q3
      obtain ⟨f, rfl⟩ : ∃ x, f = x + 1 := ⟨f - 1, by omega⟩
      exact SumR.dead hW q3 q5 (c_sumD hW x3 x1 f _ _) ⟨N2, m_12D x5 x1 g1, rfl, rfl, ⟨u, x7, x8⟩, Eo.rf⟩
  by_cases hhi : tkK b n t = 42 ∨ tkK b n t = 47
  · rw [if_pos hhi, if_neg (by decide), if_neg (by omega), e145, if_pos hhi]
    exact hsign 2 1 0 (Or.inr ⟨rfl, rfl⟩) (by rw [r_rank hk148, if_pos hhi]; rfl) (fun q => by omega) (fun _ => hhi)
  by_cases hlo : tkK b n t = 43 ∨ tkK b n t = 45
  · rw [if_neg hhi, if_pos hlo, if_neg (by decide), if_neg (by omega), e145, if_neg hhi, if_pos hlo]
    exact hsign 1 0 0 (Or.inl ⟨rfl, rfl⟩) (by rw [r_rank hk148, if_neg hhi, if_pos hlo]; rfl) (fun _ => hlo) (fun q => by omega)
  rw [if_neg hhi, if_neg hlo, if_pos (by decide), e145, if_neg hhi, if_neg hlo]
  obtain ⟨M6, N6, len', R', p1, p2, p3, p4, p5, p6, p7, p8⟩ := p_lay (B := B0 + 420) h12 (Or.inl ⟨rfl, rfl⟩) R len FU FU M N hE c6 (by omega) (by omega) (by omega) hRF hRF
  have hmax' := okR_max p3.ok (by omega)
  by_cases hc0 : cn R = 0
  · -- the end
    have hR' : R' = [] := by
      cases R' with
      | nil => rfl
      | cons y r =>
        have hy : y = 40 := (p6 y rfl).resolve_right (fun q => by omega)
        subst hy
        have : cn (40 :: r) = cn r + 1 := rfl
        omega
    subst hR'
    rw [if_pos (by rw [hc0]; decide), if_neg (by omega)]
    unfold J_Reader_takeSum_89 J_Mod_expression_191 J_Mod_expression_204 F_Reader_layHeld F_Mod_comesOut
    rw [show H_Reader_layHeld_0 W 1 FU M = some M6 from p1, bI_s, oq, if_pos (by rw [hc0]; decide), p2, bI_s]
    have hmE : Eo (mE c0 (B0 + 420)) N N6 := p8.mono (fun c j q => by unfold mE; omega)
    refine ⟨M6, N6, rfl, rfl, Or.inl ⟨t, len', Nat.le_refl _, ⟨?_, ?_, p3, ?_, ?_, Nat.zero_le _, ?_, ?_⟩, p7.mono (fun c j q => by unfold cE; omega)⟩, hmE⟩
    · exact hT.keep (fun j => p7 6 j (by omega)) (fun j => p7 7 j (by omega)) (fun _ => rfl) (fun j => p8 404 j (by omega)) (fun j => p8 405 j (by omega)) (fun j => p8 406 j (by omega)) (fun _ => rfl)
    · exact hl.at (p7 3 1 (by omega)) (p7 3 2 (by omega)) (p8 401 11 (by omega)) (p8 401 13 (by omega))
    · rw [p7 3 11 (by omega), op, hc0]; rfl
    · rw [p8 401 12 (by omega), oq, hc0]; rfl
    · simp only [List.length_nil] at p4 ⊢; omega
    · simp only [List.length_nil] at p4 ⊢; omega
  · rw [if_neg (nI_nle (by omega) (by omega))]
    unfold F_Reader_takeClose
    rw [r_is hT (k := 41) (kk := 41) rfl hl.1 htm (by decide), bI_s]
    by_cases e41 : tkK b n t = 41
    · -- a bracket is closed
      rw [if_pos e41, if_neg (show ¬ (1 : Int32) = 0 by decide), if_pos ⟨e41, by omega⟩]
      obtain ⟨r, rfl⟩ : ∃ r, R' = 40 :: r := by
        cases R' with
        | nil => have : cn [] = 0 := rfl; omega
        | cons y r => exact ⟨r, by rw [(p6 y rfl).resolve_right (fun q => by omega)]⟩
      have hcn : cn (40 :: r) = cn r + 1 := rfl
      have hn := p3.hn
      have wn := p3.wn
      simp only [List.length_cons] at hn wn p4 hmax'
      have e1 : nI (r.length + 1) - 1 = nI r.length := by rw [show (1 : Int32) = nI 1 from rfl, nI_sub (by omega)]; rfl
      have e2 : nI (cn R) - 1 = nI (cn r) := by rw [show (1 : Int32) = nI 1 from rfl, nI_sub (by omega), show cn R - 1 = cn r by omega]
      have o6 : M6 3 11 = nI (cn R) := (p7 3 11 (by omega)).trans op
      have q6' : N6 401 12 = nI (cn R) := (p8 401 12 (by omega)).trans oq
      unfold F_Reader_layHeld F_Mod_comesOut
      rw [show (1 : Int32) = nI 1 from rfl, p1, bI_s, hn, show nI (r.length + 1) - nI 1 = nI r.length from e1, nmM_e, uM_diff (by omega), o6, show nI (cn R) - nI 1 = nI (cn r) from e2, nmM_e, p2, bI_s, wn, nmM_e, uM_diff (by omega), q6', nmM_e, show nI (r.length + 1) - nI 1 = nI r.length from e1, show nI (cn R) - nI 1 = nI (cn r) from e2]
      have hE1 := p3.pop (x := nI (cn r)) (y := nI (cn r)) h12
      obtain ⟨M2, N2, q1, q2, q3, q4, q5⟩ := x_take (z := z) (B0 := B0) h12 hT hl hE1 (by
        refine Eo.u (Eo.u (p7.mono (fun c j q => ?_)) ?_) ?_ <;> (refine ⟨?_, ?_⟩ <;> (try unfold cE) <;> omega)) (by
        refine Eo.u (Eo.u (p8.mono (fun c j q => ?_)) ?_) ?_ <;> (refine ⟨?_, ?_⟩ <;> (try unfold mE) <;> omega)) uM_same uM_same (by omega) (by omega) (by omega) (by omega) (by omega)
      rw [q1, bI_s, bI_s, q2, bI_s]
      rcases q3 with ⟨q3, q6⟩ | q3
      · exact (ihS r len' (v + 1) f g1 g2 M2 N2 q3 (by omega) (by omega) (by omega) (by omega)).from (by omega) q6 q5
      · obtain ⟨k2, ft, u, x1, x2, x3, x4, x5, x6, x7, x8⟩ := id q3
        obtain ⟨f, rfl⟩ : ∃ x, f = x + 1 := ⟨f - 1, by omega⟩
        obtain ⟨g2, rfl⟩ : ∃ x, g2 = x + 1 := ⟨g2 - 1, by omega⟩
        have hE2 := hE1.fr (N' := N2) h12 Eo.rf (q4.mono mS_44)
        obtain ⟨N3, y1, y2⟩ := m_96D (B := B0 + 420) (K12 := H_Mod_expression_12 0 g1) h12 hE2 (by omega) (by omega) (by omega) (by omega) x5 x1 g2
        exact SumR.dead hW q3 q5 (c_sumD hW x3 x1 f _ _) ⟨N3, y1, y2 401 13 (by omega), y2 401 14 (by omega), ⟨u, x7, (y2 401 11 (by omega)).trans x8⟩, y2.mono (fun c j q => by unfold mE; omega)⟩
    · rw [if_neg e41, if_pos (show (0 : Int32) = 0 from rfl), if_neg (fun q => e41 q.1)]
      unfold J_Mod_expression_191 J_Mod_expression_204 F_Mod_comesOut
      rw [oq, if_neg (nI_nle (by omega) (by omega))]
      obtain ⟨M1, N1, q1, q2, q3, q4⟩ := p_fail (k := 1) (kk := 1) rfl (Or.inl rfl) (Or.inl ⟨hT, hl⟩)
      obtain ⟨k2, ft, u, x1, x2, x3, x4, x5, x6, x7, x8⟩ := id q3
      obtain ⟨f, rfl⟩ : ∃ x, f = x + 1 := ⟨f - 1, by omega⟩
      have hE1 := hE.fr (N' := N1) h12 Eo.rf (q4.mono mS_44)
      obtain ⟨M7, N7, len7, R7, r1, r2, r3, r4, r5, r6, r7, r8⟩ := p_lay (B := B0 + 420) h12 (Or.inl ⟨rfl, rfl⟩) R len FU FU M N1 hE1 c6 (by omega) (by omega) (by omega) hRF hRF
      rw [q1, bI_s, bI_s, q2, bI_s, r2, bI_s]
      exact SumR.dead hW q3 (q4.mono mS_mE) (c_sumD hW x3 x1 f _ _) ⟨N7, rfl, r8 401 13 (by omega), r8 401 14 (by omega), ⟨u, x7, (r8 401 11 (by omega)).trans x8⟩, r8.mono (fun c j q => by unfold mE; omega)⟩
theorem p_sumL {W b0 c0 B0 : Nat} {L K : gL} (hz : 2 ≤ z) (hW : isLw W) (hB : B0 ≤ 420) : ∀ (d t : Nat), 401 - t = d → SU b n m z W b0 c0 B0 L K d t ∧ SS b n m z W b0 c0 B0 L K d t := by
  intro d
  induction d with
  | zero =>
    intro t ht
    constructor
    · intro R len v f g1 g2 M N hX
      have := hX.1.m400; have := hX.2.1.2.2.2.2; omega
    · intro R len v f g1 g2 M N hX
      have := hX.1.m400; have := hX.2.1.2.2.2.2; omega
  | succ d ih =>
    intro t ht
    obtain ⟨ihU, ihS⟩ := ih (t + 1) (by omega)
    exact ⟨p_U hz hW hB ht ihU ihS, p_S hz hW hB ht ihU ihS⟩
end PAR5
