/-! the things done, with both halves -/
section PAR39
section SD
variable {D Q D' Q' q ld lv nf nd ng ne : Nat} {M M' : gM} {L : gL} {r : Nat → Int32}
theorem St.d0 {X : Nat} (h : St D Q nf X r M) : M X 0 = r 35 := by
  obtain ⟨⟨day, d1, d2, d3, d4⟩, _⟩ := h
  rw [d2, d3]
/-- the class keeps how it was, then changes its state alone -/
theorem G1.kept (h : G1 q ld M L) (hL : Lnd ld lv nf nd ng ne M) (hS : Sta D Q nf M) : ∃ Mk, F_Past_keep 64 M = some Mk ∧ Kl CSt M zL Mk zL ∧ Lnd ld lv nf nd ng ne Mk ∧ (∀ c j, 411 ≤ c → c ≤ 432 → Mk c j = M c j) ∧ St D Q nf 64 (M 436) Mk ∧ (∀ c j, 384 ≤ c → Mk c j = M c j) := by
  obtain ⟨u, nx, p1, p2, p3, p4, p5, p6⟩ := id hS.2.1
  obtain ⟨Mk, y1, y2, y3, y4, y5⟩ := c_keep p1 p2 p3 p5
  obtain ⟨Mk', t1, t2⟩ := tf_Past_keep (M := M)
  have it := Option.some.inj (t1.symm.trans y1)
  subst it
  exact ⟨Mk', t1, t2, hL.keep (fun c j w => t2.m (gv_CSt w)), fun c j a b => y5 c j (by omega), hS.1.keep (fun c j a b => y5 c j (by omega)) (fun _ _ => rfl), fun c j a => y5 c j (by omega)⟩
theorem cx_hi {c j : Nat} (a : 384 ≤ c) (b : c ≠ 390) : CX 64 c j = false := by
  unfold CX
  rw [C0_M (by omega) b]
  simp only [Bool.false_or, Bool.and_eq_false_iff, decide_eq_false_iff_not]
  omega
theorem mQ_ld (hld : isLa ld) {N N' : gM} (e : Eo mQ N N') : N' ld 0 = N ld 0 := e ld 0 (by have := ld_le hld; unfold mQ; omega)
/-- what records changes -/
theorem rec_fr {N M2 : gM} {u : Nat} (hu : u ≤ 40) (h57 : N 401 57 = nI u) (er : F_Mod_records N = some M2) : (∀ k, k < 38 → M2 436 k = N 437 k) ∧ Eo (fun c j => c = 436 ∨ c = 440 ∨ (c = 401 ∧ j = 57)) N M2 := by
  obtain ⟨M', v, sh, z1, z2, z3, z4, z5, z6, z7⟩ := s_records hu h57
  have := Option.some.inj (er.symm.trans z1)
  subst this
  exact ⟨z4, z7⟩
theorem v_days (h : G1 q ld M L) (hq : q < 512) (a : Int32) : ∃ r M1 r' M2, F_Main_days ld a M = some (r, M1) ∧ F_Mod_days a M1 = some (r', M2) ∧ G1 (q + 1) ld M2 L ∧ r = r' := by
  obtain ⟨r, M1, r', M2, e1, e2, hg⟩ := g_days h.1 a
  obtain ⟨lv, nf, nd, ng, ne, hL, hS⟩ := h.get
  refine ⟨r, M1, r', M2, e1, e2, ?_⟩
  rcases in_cases a (a := 0) (b := 60) (by decide) (by decide) with ⟨w1, w2⟩ | ⟨n, _, hn, rfl, w1⟩
  · have c1 : F_Main_days ld a M = some (-1, M) := by
      unfold F_Main_days
      by_cases h0 : a < 0
      · rw [if_pos h0]
      · rw [if_neg h0, if_neg]
        intro h1
        obtain ⟨k, hk, rfl⟩ := nI_of h0
        rw [show (60 : Int32) = nI 60 from rfl, nI_leI (by omega) (by omega)] at h1
        exact w2 ⟨k, by omega, h1, rfl⟩
    have i1 := Option.some.inj (e1.symm.trans c1)
    injection i1 with i2 i3
    subst i3
    have c2 : F_Mod_days a M1 = some (-1, M1) := by unfold F_Mod_days; rw [show F_Mod_in a 0 60 = some 0 from w1, bI_s, if_pos rfl]
    have j1 := Option.some.inj (e2.symm.trans c2)
    injection j1 with j2 j3
    subst j3
    exact ⟨h.up, by rw [i2, j2]⟩
  have hp : ¬ nI n < 0 := nI_pos (by omega)
  have h60 : nI n ≤ 60 := by rw [show (60 : Int32) = nI 60 from rfl, nI_leI (by omega) (by omega)]; exact hn
  by_cases hz : n = 0
  · subst hz
    have c1 : F_Main_days ld (nI 0) M = some (M 64 0, M) := by unfold F_Main_days; rw [if_neg hp, if_pos h60, if_pos (by decide)]
    have i1 := Option.some.inj (e1.symm.trans c1)
    injection i1 with i2 i3
    subst i3
    have c2 : F_Mod_days (nI 0) M1 = some (M1 436 35, M1) := by unfold F_Mod_days; rw [show F_Mod_in (nI 0) 0 60 = some 1 from w1, bI_s, if_neg (by decide), if_pos (show nI 0 = 0 from rfl)]
    have j1 := Option.some.inj (e2.symm.trans c2)
    injection j1 with j2 j3
    subst j3
    exact ⟨h.up, by rw [i2, j2]; exact hS.1.d0⟩
  obtain ⟨Mk, t1, t2, hLk, mk, hSk, mhi⟩ := h.kept hL hS
  obtain ⟨M1', z1, z2, z3⟩ := c_passDays hLk st64 hSk (n := n) (by omega)
  have c1 : F_Main_days ld (nI n) M = some (M1' 64 0, M1') := by
    unfold F_Main_days
    rw [if_neg hp, if_pos h60, if_neg (nI_nle (by omega) (by omega)), t1, bI_s, z1, bI_s]
  have i1 := Option.some.inj (e1.symm.trans c1)
  injection i1 with i2 i3
  subst i3
  have hdk : dyI Mk lv nf n (M 436) = dyI M lv nf n (M 436) := by
    have : ∀ n r, dyI Mk lv nf n r = dyI M lv nf n r := fun n => by
      induction n with
      | zero => intro r; rfl
      | succ n ih => intro r; show dyI Mk lv nf n (dyR Mk lv nf r) = dyI M lv nf n (dyR M lv nf r); rw [dyR_k mk, ih]
    exact this n _
  rw [hdk] at z2
  have hL1 : Lnd ld lv nf nd ng ne M1 := hLk.kCX st64 z3
  have m1 : ∀ c j, 411 ≤ c → c ≤ 432 → M1 c j = M c j := fun c j a b => (kCX_M st64 z3 c j a b).trans (mk c j a b)
  have m1b : ∀ c j, 384 ≤ c → c ≠ 390 → M1 c j = M c j := fun c j a b => (z3.m (cx_hi a b)).trans (mhi c j a)
  obtain ⟨Mc, x1, x2, x3, x4⟩ := m_copies hL1
  obtain ⟨N, y1, y2, y3⟩ := m_goes (hL1.kQ x4) (n := n) (by omega)
  have hr : ∀ k, k < 38 → Mc 437 k = M 436 k := fun k hk => by rw [x2 k hk, m1b 436 k (by omega) (by omega)]
  have mc : ∀ c j, 411 ≤ c → c ≤ 432 → Mc c j = M c j := fun c j a b => (mQ_M x4 c j a b).trans (m1 c j a b)
  have hdc : ∀ n r, dyI Mc lv nf n r = dyI M lv nf n r := fun n => by
    induction n with
    | zero => intro r; rfl
    | succ n ih => intro r; show dyI Mc lv nf n (dyR Mc lv nf r) = dyI M lv nf n (dyR M lv nf r); rw [dyR_k mc, ih]
  have hN : ∀ k, k < 38 → N 437 k = dyI M lv nf n (M 436) k := fun k hk => by rw [y2 k hk, hdc]; exact dyI_r hL.nf6 n _ _ hr k hk
  have eQ := x4.tr y3
  obtain ⟨u, nx, p1, p2, p3, p4, p5, p6⟩ := id hS.2.1
  have u57 : N 401 57 = nI u := by rw [eQ 401 57 (by unfold mQ; omega), m1b 401 57 (by omega) (by omega)]; exact p4
  obtain ⟨M2', v, sh, b1, _⟩ := s_records p1 u57
  obtain ⟨rf1, rf2⟩ := rec_fr p1 u57 b1
  have c2 : F_Mod_days (nI n) M1 = some (M2' 436 35, M2') := by
    unfold F_Mod_days
    rw [show F_Mod_in (nI n) 0 60 = some 1 from w1, bI_s, if_neg (by decide), if_neg (nI_ne0 (by omega) (by omega)), x1, bI_s, y1, bI_s, b1, bI_s]
  have j1 := Option.some.inj (e2.symm.trans c2)
  injection j1 with j2 j3
  subst j3
  have hSt := hS.done (D' := 60 * (q + 1)) (Q' := q + 1) (M1 := M1) (N := N) (by omega) (by omega) t1 (fun c j a b => z3.m (St_fr a b)) (z2.mono (by omega) (by omega)) (fun c j a => eQ c j (by unfold sC at a; unfold mQ; omega)) hN b1
  refine ⟨h.mk2 hL hg ?_ ?_ hSt, ?_⟩
  · have v1 : VZ M1 := (h.2.1.kSt t2).kSt (z3.mono (CX_CSt st64))
    exact v1.keep (fun c j w _ => by rw [rf2 c j (by unfold vaC at w; omega), eQ c j (by unfold vaC at w; unfold mQ; omega)])
  · have := ld_le hL.la
    rw [rf2 ld 0 (by omega), mQ_ld hL.la eQ, ld0_St hL.la (z3.mono (CX_CSt st64)), ld0_St hL.la t2]
  · rw [i2, j2, rf1 35 (by omega), hN 35 (by omega)]
    exact z2.d0
theorem bowS_r {r' : Nat → Int32} {g j : Nat} {a : Int32} (hg : g < 4) (hj : j < 3) (e : ∀ k, k < 38 → r' k = r k) : bowS M lv r' g j a = bowS M lv r g j a := by
  unfold bowS
  rw [e (15 + g) (by omega), e (19 + 3 * g + j) (by omega), e 35 (by omega)]
theorem v_eat (h : G1 q ld M L) (hq : q < 512) (a : Int32) : ∃ r M1 r' M2, F_Main_eat ld a M = some (r, M1) ∧ F_Mod_eat a M1 = some (r', M2) ∧ G1 (q + 1) ld M2 L ∧ r = r' := by
  obtain ⟨r, M1, r', M2, e1, e2, hg0⟩ := g_eat h.1 a
  obtain ⟨lv, nf, nd, ng, ne, hL, hS⟩ := h.get
  refine ⟨r, M1, r', M2, e1, e2, ?_⟩
  rcases m_isGuest hL a with ⟨d1, d2⟩ | ⟨g, hg, rfl, d1, d2⟩
  · have c1 : F_Main_eat ld a M = some (-1, M) := by unfold F_Main_eat; rw [hL.cg, d1, bI_s, if_pos rfl]
    have i1 := Option.some.inj (e1.symm.trans c1)
    injection i1 with i2 i3
    subst i3
    have c2 : F_Mod_eat a M1 = some (-1, M1) := by unfold F_Mod_eat; rw [d2, bI_s, if_pos rfl]
    have j1 := Option.some.inj (e2.symm.trans c2)
    injection j1 with j2 j3
    subst j3
    exact ⟨h.up, by rw [i2, j2]⟩
  have hg4 := hL.ng4
  have s11 : M 64 3 = M 436 11 := hS.1.2.2.2.1
  by_cases hs : 0 ≤ M 64 3
  rotate_left
  · have c1 : F_Main_eat ld (nI g) M = some (-2, M) := by unfold F_Main_eat; rw [hL.cg, d1, bI_s, if_neg (by decide), if_neg hs]
    have i1 := Option.some.inj (e1.symm.trans c1)
    injection i1 with i2 i3
    subst i3
    obtain ⟨Mc, x1, x2, x3, x4⟩ := m_copies hL
    have c2 : F_Mod_eat (nI g) M1 = some (-2, Mc) := by unfold F_Mod_eat; rw [d2, bI_s, if_neg (by decide), x1, bI_s, x2 11 (by omega), ← s11, if_neg hs]
    have j1 := Option.some.inj (e2.symm.trans c2)
    injection j1 with j2 j3
    subst j3
    exact ⟨h.fr hg0 (fun c j w => x4 c j (by have := sV_n w; unfold mQ; omega)) (mQ_ld hL.la x4), by rw [i2, j2]⟩
  obtain ⟨Mk, t1, t2, hLk, mk, hSk, mhi⟩ := h.kept hL hS
  obtain ⟨Me, z1, z2, z3⟩ := c_eatServed hSk st64 (g := g) (by omega)
  have hLe := hLk.kCX st64 z3
  obtain ⟨M1', f1, f2⟩ := c_freeOf hLe z2 st64 (by omega) (by omega) (g := g) (ahead := 0) hg
  have c1 : F_Main_eat ld (nI g) M = some (frS Me lv (fun j => bowS Me lv (eaR (M 436) g) g j 0) ne, M1') := by
    unfold F_Main_eat
    rw [hL.cg, d1, bI_s, if_neg (by decide), if_pos hs, t1, bI_s, z1, bI_s, f1, bI2_s]
  have i1 := Option.some.inj (e1.symm.trans c1)
  injection i1 with i2 i3
  subst i3
  have hL1 := hLe.k0 f2
  have me : ∀ c j, 411 ≤ c → c ≤ 432 → Me c j = M c j := fun c j a b => (kCX_M st64 z3 c j a b).trans (mk c j a b)
  have m1 : ∀ c j, 411 ≤ c → c ≤ 432 → M1 c j = M c j := fun c j a b => (k0_M f2 c j a b).trans (me c j a b)
  have m1b : ∀ c j, 384 ≤ c → c ≠ 390 → M1 c j = M c j := fun c j a b => by rw [f2.m (C0_M (by omega) b), z3.m (cx_hi a b)]; exact mhi c j a
  have z2b : St (60 * q) (q + 1) nf 64 (eaR (M 436) g) M1 := z2.k0 st64 f2
  obtain ⟨Mc, x1, x2, x3, x4⟩ := m_copies hL1
  have hr : ∀ k, k < 38 → Mc 437 k = M 436 k := fun k hk => by rw [x2 k hk, m1b 436 k (by omega) (by omega)]
  -- the model's row
  obtain ⟨N, n1, n2, n3⟩ : ∃ N, (∀ M5, F_Mod_records N = some M5 → F_Mod_eat (nI g) M1 = bI2 (F_Mod_freeBits (nI g) M5) (fun r16 M17 => some (r16, M17))) ∧ (∀ k, k < 38 → N 437 k = eaR (M 436) g k) ∧ Eo mQ M1 N := by
    refine ⟨uM (fl (uM Mc 437 (15 + g) (Mc 437 35)) 437 (19 + 3 * g + 0) 3 (fun j => uM Mc 437 (15 + g) (Mc 437 35) 437 (12 + (0 + j)))) 437 (31 + g) (fl (uM Mc 437 (15 + g) (Mc 437 35)) 437 (19 + 3 * g + 0) 3 (fun j => uM Mc 437 (15 + g) (Mc 437 35) 437 (12 + (0 + j))) 437 (31 + g) + 1), fun M5 e5 => ?_, fun k hk => ?_, x4.tr (fun c j w => ?_)⟩
    · unfold F_Mod_eat
      have d3 : F_Mod_isGuest (nI g) M1 = some 1 := by
        rcases m_isGuest hL1 (nI g) with ⟨q1, _⟩ | ⟨d', _, _, _, q2⟩
        · rw [q1] at d1; cases d1
        · exact q2
      rw [d3, bI_s, if_neg (by decide), x1, bI_s, hr 11 (by omega), ← s11, if_pos hs, show (15 : Int32) = nI 15 from rfl, nI_add, nI_clamp (by omega), if_neg (nI_inc (by omega) (by omega)), nmM_e]
      obtain ⟨p, hp⟩ := FU_k (1 + 3) (by omega)
      rw [hp, ← Nat.add_assoc, show (H_Mod_eat_45 (nI g) (p + 1 + 3) 0 : gM → Option (Int32 × gM)) = H_Mod_eat_45 (nI g) (p + 1 + 3) (nI 0) from rfl, eat_loop (by omega) 3 0 _ _ (by omega)]
      unfold J_Mod_eat_78
      rw [show (31 : Int32) = nI 31 from rfl, nI_add, nI_clamp (by omega), if_neg (nI_inc (by omega) (by omega)), if_neg (nI_inc (by omega) (by omega)), nmM_e, e5, bI_s]
    · unfold eaR
      by_cases q1 : k = 31 + g
      · rw [q1, uM_same, fl_out (by omega), uM_diff (by omega), if_neg (by omega), if_neg (by omega), if_pos rfl, hr _ (by omega)]
      rw [uM_diff (by omega)]
      by_cases q2 : k = 15 + g
      · rw [q2, fl_out (by omega), uM_same, if_pos rfl, hr 35 (by omega)]
      rw [if_neg q2]
      by_cases q3 : 19 + 3 * g ≤ k ∧ k < 22 + 3 * g
      · rw [if_pos q3, fl_in (by omega), uM_diff (by omega), hr _ (by omega)]
        exact congrArg (M 436) (by omega)
      · rw [if_neg q3, if_neg q1, fl_out (by omega), uM_diff (by omega), hr k hk]
    · unfold mQ at w
      rw [uM_diff (by omega), fl_out (by omega), uM_diff (by omega)]
  obtain ⟨u, nx, p1, p2, p3, p4, p5, p6⟩ := id hS.2.1
  have u57 : N 401 57 = nI u := by rw [n3 401 57 (by unfold mQ; omega), m1b 401 57 (by omega) (by omega)]; exact p4
  obtain ⟨M5, v, sh, b1, _⟩ := s_records p1 u57
  obtain ⟨rf1, rf2⟩ := rec_fr p1 u57 b1
  have hL5 : Lnd ld lv nf nd ng ne M5 := (hL1.kQ n3).keep (fun c j w => rf2 c j (by have := gv_num w; omega))
  have m5 : ∀ c j, 411 ≤ c → c ≤ 432 → M5 c j = M c j := fun c j a b => by rw [rf2 c j (by omega), mQ_M n3 c j a b]; exact m1 c j a b
  obtain ⟨M2', w1, w2⟩ := m_freeBits hL5 (g := g) (by omega)
  have c2 : F_Mod_eat (nI g) M1 = some (frS M5 lv (fun j => bowS M5 lv (M5 437) g j 0) ne, M2') := by rw [n1 M5 b1, w1, bI2_s]
  have j1 := Option.some.inj (e2.symm.trans c2)
  injection j1 with j2 j3
  subst j3
  have hSt := hS.done (D' := 60 * (q + 1)) (Q' := q + 1) (M1 := M1) (N := N) (by omega) (by omega) t1 (fun c j a b => by rw [f2.m (C0_M (by unfold sC at a; omega) (by unfold sC at a; omega))]; exact z3.m (St_fr a b)) (z2b.mono (by omega) (by omega)) (fun c j a => n3 c j (by unfold sC at a; unfold mQ; omega)) n2 b1
  refine ⟨h.mk2 hL hg0 ?_ ?_ (hSt.keep (fun c j a => w2 c j (by unfold sC at a; unfold mV; omega))), ?_⟩
  · have v1 : VZ M1 := ((h.2.1.kSt t2).kSt (z3.mono (CX_CSt st64))).kC1 (f2.mono C0_C1)
    exact v1.keep (fun c j w _ => by rw [w2 c j (by unfold vaC at w; unfold mV; omega), rf2 c j (by unfold vaC at w; omega), n3 c j (by unfold vaC at w; unfold mQ; omega)])
  · have := ld_le hL.la
    rw [w2 ld 0 (by unfold mV; omega), rf2 ld 0 (by omega), mQ_ld hL.la n3, ld0_C0 hL.la f2, ld0_St hL.la (z3.mono (CX_CSt st64)), ld0_St hL.la t2]
  · have hk : ∀ e, e < ne → ∃ x, x ≤ 2 ∧ M 421 (6 * lv + e) = nI x := fun e he => by
      obtain ⟨x, hx, _, ex⟩ := hL.df he
      exact ⟨x, hx, ex⟩
    rw [i2, j2, frS_k me, frS_k m5]
    refine frS_b (fun j hj => ?_) hk ne (Nat.le_refl _)
    rw [bowS_k me, bowS_k m5]
    exact (bowS_r (by omega) hj (fun k hk => by rw [rf2 437 k (by omega), n2 k hk])).symm
theorem v_undo (h : G1 q ld M L) (hq : q < 512) : ∃ r M1 r' M2, F_Main_undo M = some (r, M1) ∧ F_Mod_undo M1 = some (r', M2) ∧ G1 (q + 1) ld M2 L ∧ r = r' := by
  obtain ⟨r, M1, r', M2, e1, e2, hg⟩ := g_undo h.1
  obtain ⟨lv, nf, nd, ng, ne, hL, hS⟩ := h.get
  refine ⟨r, M1, r', M2, e1, e2, ?_⟩
  obtain ⟨hs, ⟨u, nx, p1, p2, p3, p4, p5, p6⟩, hl⟩ := id hS
  by_cases hu : u = 0
  · have c1 : F_Main_undo M = some (0, M) := by
      unfold F_Main_undo F_Past_takeBack J_Past_takeBack_18
      have : M 78 2 = 0 := by rw [p3, hu]; rfl
      by_cases w : M 78 1 ≤ 0
      · rw [if_pos w, if_pos this, bI2_s, if_pos (Or.inl rfl)]
      · rw [if_neg w, if_pos this, bI2_s, if_pos (Or.inl rfl)]
    have i1 := Option.some.inj (e1.symm.trans c1)
    injection i1 with i2 i3
    subst i3
    have c2 : F_Mod_undo M1 = some (0, M1) := by
      unfold F_Mod_undo
      have : M1 401 57 = 0 := by rw [p4, hu]; rfl
      rw [if_pos this]
    have j1 := Option.some.inj (e2.symm.trans c2)
    injection j1 with j2 j3
    subst j3
    exact ⟨h.up, by rw [i2, j2]⟩
  obtain ⟨v, rfl⟩ : ∃ v, u = v + 1 := ⟨u - 1, by omega⟩
  obtain ⟨la, hla, hla2⟩ : ∃ la, la < 40 ∧ la = (nx + 39) % 40 := ⟨_, Nat.mod_lt _ (by decide), rfl⟩
  obtain ⟨Ma, y1, a0, a1, a2, a3, a4, a5, a6, a7⟩ := s_copyFrom (X0 := 64) (X1 := 80 + 7 * la) (M := M) (by omega)
  have c1 : F_Main_undo M = some (1, uM (uM Ma 78 1 (nI la)) 78 2 (nI v)) := by
    unfold F_Main_undo F_Past_takeBack
    have key : J_Past_takeBack_18 64 (nI la) M = some (1, uM (uM Ma 78 1 (nI la)) 78 2 (nI v)) := by
      unfold J_Past_takeBack_18
      rw [p3, if_neg (nI_ne0 (by omega) (by omega)), show (40 : Int32) = nI 40 from rfl, if_neg (by rw [nI_leI (by omega) (by omega)]; omega), if_neg (nI_in (by omega) (by omega)), if_neg (nI_in (by omega) (by omega)), nI_clamp (by omega), y1, bI_s, nmM_e, uM_diff (by omega), a7 78 2 (by omega), p3, show (1 : Int32) = nI 1 from rfl, nI_sub (by omega), Nat.add_sub_cancel, nmM_e]
    by_cases w : nx = 0
    · have el : la = 39 := by rw [hla2, w]
      rw [p5, w, if_pos (by decide), show (39 : Int32) = nI 39 from rfl, ← el, key, bI2_s, if_pos (Or.inr rfl)]
    · have el : la = nx - 1 := by omega
      rw [p5, if_neg (nI_nle (by omega) (by omega)), show (1 : Int32) = nI 1 from rfl, nI_sub (by omega), ← el, key, bI2_s]
      exact if_pos (Or.inr rfl)
  have i1 := Option.some.inj (e1.symm.trans c1)
  injection i1 with i2 i3
  have f1 : ∀ c j, ¬ (64 ≤ c ∧ c < 71) → ¬ (c = 78 ∧ (j = 1 ∨ j = 2)) → M1 c j = M c j := fun c j w1 w2 => by rw [i3, uM_diff (by omega), uM_diff (by omega), a7 c j (by omega)]
  have g1 : M1 78 1 = nI la := by rw [i3, uM_diff (by omega), uM_same]
  have g2 : M1 78 2 = nI v := by rw [i3, uM_same]
  have gX : ∀ c j, 64 ≤ c → c < 71 → M1 c j = Ma c j := fun c j w1 w2 => by rw [i3, uM_diff (by omega), uM_diff (by omega)]
  obtain ⟨M2', z1, z2, z3, z4⟩ := s_undo (u := v) (M := M1) (by omega) (by rw [f1 401 57 (by omega) (by omega)]; exact p4)
  have j1 := Option.some.inj (e2.symm.trans z1)
  injection j1 with j2 j3
  subst j3
  have f2 : ∀ c j, ¬ (64 ≤ c ∧ c < 71) → ¬ (c = 78 ∧ (j = 1 ∨ j = 2)) → c ≠ 436 → ¬ (c = 401 ∧ j = 57) → M2 c j = M c j := fun c j w1 w2 w3 w4 => by rw [z4 c j (by omega), f1 c j w1 w2]
  have el : (nx + 40 - (v + 1) + v) % 40 = la := by omega
  have hrow := p6 v (by omega)
  rw [el] at hrow
  have gY : ∀ c j, 64 ≤ c → c < 71 → M2 c j = Ma c j := fun c j w1 w2 => by rw [z4 c j (by omega), gX c j w1 w2]
  refine ⟨h.mk2 hL hg (h.2.1.keep (fun c j w _ => f2 c j (by unfold vaC at w; omega) (by unfold vaC at w; omega) (by unfold vaC at w; omega) (by unfold vaC at w; omega))) (f2 ld 0 (by have := ld_le hL.la; omega) (by have := ld_le hL.la; omega) (by have := ld_le hL.la; omega) (by have := ld_le hL.la; omega)) ⟨?_, ⟨v, la, by omega, hla, ?_, z2, ?_, fun i hi => ?_⟩, ?_⟩, by rw [i2, j2]⟩
  · exact hrow.cp (by omega) (by omega) (fun j hj => by rw [gY _ _ (by omega) (by omega)]; exact a0 j hj) (fun j hj => by rw [gY _ _ (by omega) (by omega)]; exact a1 j hj) (fun j hj => by rw [gY _ _ (by omega) (by omega)]; exact a2 j hj) (fun j hj => by rw [gY _ _ (by omega) (by omega)]; exact a3 j hj) (fun j hj => by rw [gY _ _ (by omega) (by omega)]; exact a4 j hj) (fun j hj => by rw [gY _ _ (by omega) (by omega)]; exact a5 j hj) (fun j hj => by rw [gY _ _ (by omega) (by omega)]; exact a6 j hj) (fun k hk => by rw [z3 k hk, f1 440 _ (by omega) (by omega)])
  · rw [z4 78 2 (by omega)]; exact g2
  · rw [z4 78 1 (by omega)]; exact g1
  · have ei : (la + 40 - v + i) % 40 = (nx + 40 - (v + 1) + i) % 40 := by omega
    have hx2 := Nat.mod_lt (nx + 40 - (v + 1) + i) (show 0 < 40 by decide)
    rw [ei]
    exact ((p6 i (by omega)).mono (by omega) (by omega)).keep (fun c j w1 w2 => f2 c j (by omega) (by omega) (by omega) (by omega)) (fun k hk => f2 440 _ (by omega) (by omega) (by omega) (by omega))
  · exact (hl.mono (by omega) (by omega)).keep (fun c j w => f2 c j (by omega) (by omega) (by omega) (by omega))
theorem v_hold (h : G1 q ld M L) (hq : q < 512) (a : Int32) : ∃ r M1 r' M2, F_Main_hold a M = some (r, M1) ∧ F_Mod_hold a M1 = some (r', M2) ∧ G1 (q + 1) ld M2 L ∧ r = r' := by
  obtain ⟨r, M1, r', M2, e1, e2, hg, er⟩ := g_hold h.1 a
  obtain ⟨lv, nf, nd, ng, ne, hL, hS⟩ := h.get
  refine ⟨r, M1, r', M2, e1, e2, ?_, er⟩
  by_cases hs : ∃ s, s < 3 ∧ a = nI s
  · obtain ⟨s, hs, rfl⟩ := hs
    obtain ⟨Ma, y1, a0, a1, a2, a3, a4, a5, a6, a7⟩ := s_copyFrom (X0 := 362 + 7 * s) (X1 := 64) (M := M) (by omega)
    have c1 : F_Main_hold (nI s) M = some ((1 : Int32), uM Ma 360 1 (Ma 360 1 ||| (1 <<< (nI s &&& 31)))) := by
      unfold F_Main_hold F_Slots_keep
      rw [if_neg (nI_pos (by omega)), if_neg (by rw [show (3 : Int32) = nI 3 from rfl, nI_leI (by omega) (by omega)]; omega), nI_clamp (by omega), if_neg (nI_inc (by omega) (by omega)), if_neg (nI_inc (by omega) (by omega)), y1, bI_s, nmM_e, bI2_s]
      exact if_pos (Or.inr rfl)
    have i1 := Option.some.inj (e1.symm.trans c1)
    injection i1 with i2 i3
    have f1 : ∀ c j, ¬ (362 + 7 * s ≤ c ∧ c < 362 + 7 * s + 7) → ¬ (c = 360 ∧ j = 1) → M1 c j = M c j := fun c j w1 w2 => by rw [i3, uM_diff (by omega), a7 c j (by omega)]
    have gX : ∀ c j, 362 ≤ c → M1 c j = Ma c j := fun c j w1 => by rw [i3, uM_diff (by omega)]
    obtain ⟨M2', z1, z2, z3, z4⟩ := s_hold (s := s) (M := M1) hs
    have j1 := Option.some.inj (e2.symm.trans z1)
    injection j1 with j2 j3
    subst j3
    have f2 : ∀ c j, ¬ (362 + 7 * s ≤ c ∧ c < 362 + 7 * s + 7) → ¬ (c = 360 ∧ j = 1) → ¬ (c = 446 ∧ 38 * s ≤ j ∧ j < 38 * s + 38) → ¬ (c = 445 ∧ j = s) → M2 c j = M c j := fun c j w1 w2 w3 w4 => by rw [z4 c j (by omega), f1 c j w1 w2]
    refine h.mk2 hL hg (h.2.1.keep (fun c j w _ => f2 c j (by unfold vaC at w; omega) (by unfold vaC at w; omega) (by unfold vaC at w; omega) (by unfold vaC at w; omega))) (f2 ld 0 (by have := ld_le hL.la; omega) (by have := ld_le hL.la; omega) (by have := ld_le hL.la; omega) (by have := ld_le hL.la; omega)) ⟨?_, ?_, fun t ht et => ?_⟩
    · exact (hS.1.mono (by omega) (by omega)).keep (fun c j w1 w2 => f2 c j (by omega) (by omega) (by omega) (by omega)) (fun k hk => f2 436 k (by omega) (by omega) (by omega) (by omega))
    · exact (hS.2.1.mono (by omega) (by omega)).keep (fun c j w => f2 c j (by omega) (by omega) (by omega) (by omega))
    · by_cases q1 : t = s
      · subst q1
        have gY : ∀ c j, 362 + 7 * t ≤ c → c < 362 + 7 * t + 7 → M2 c j = Ma c j := fun c j w1 w2 => by rw [z4 c j (by omega), gX c j (by omega)]
        exact hS.1.cp (by omega) (by omega) (fun j hj => by rw [gY _ _ (by omega) (by omega)]; exact a0 j hj) (fun j hj => by rw [gY _ _ (by omega) (by omega)]; exact a1 j hj) (fun j hj => by rw [gY _ _ (by omega) (by omega)]; exact a2 j hj) (fun j hj => by rw [gY _ _ (by omega) (by omega)]; exact a3 j hj) (fun j hj => by rw [gY _ _ (by omega) (by omega)]; exact a4 j hj) (fun j hj => by rw [gY _ _ (by omega) (by omega)]; exact a5 j hj) (fun j hj => by rw [gY _ _ (by omega) (by omega)]; exact a6 j hj) (fun k hk => by rw [z3 k hk, f1 436 k (by omega) (by omega)])
      · have et2 : M 445 t = 1 := by rw [← f2 445 t (by omega) (by omega) (by omega) (by omega)]; exact et
        exact ((hS.2.2 t ht et2).mono (by omega) (by omega)).keep (fun c j w1 w2 => f2 c j (by omega) (by omega) (by omega) (by omega)) (fun k hk => f2 446 _ (by omega) (by omega) (by omega) (by omega))
  · have c1 : F_Main_hold a M = some (0, M) := by
      unfold F_Main_hold F_Slots_keep
      by_cases h0 : a < 0
      · rw [if_pos h0, bI2_s, if_pos (Or.inl rfl)]
      · rw [if_neg h0, if_pos, bI2_s, if_pos (Or.inl rfl)]
        obtain ⟨k, hk, rfl⟩ := nI_of h0
        rw [show (3 : Int32) = nI 3 from rfl, nI_leI (by omega) hk]
        refine Nat.le_of_not_lt (fun w => hs ⟨k, w, rfl⟩)
    have i1 := Option.some.inj (e1.symm.trans c1)
    injection i1 with i2 i3
    subst i3
    have c2 : F_Mod_hold a M1 = some (0, M1) := by
      unfold F_Mod_hold
      rcases in_cases a (a := 0) (b := 2) (by decide) (by decide) with ⟨w, _⟩ | ⟨k, _, w, e, _⟩
      · rw [show F_Mod_in a 0 2 = F_Mod_in a (nI 0) (nI 2) from rfl, w, bI_s, if_pos rfl]
      · exact absurd ⟨k, by omega, e⟩ hs
    have j1 := Option.some.inj (e2.symm.trans c2)
    injection j1 with j2 j3
    subst j3
    exact h.up
theorem v_restore (h : G1 q ld M L) (hq : q < 512) (a : Int32) : ∃ r M1 r' M2, F_Main_restore a M = some (r, M1) ∧ F_Mod_restore a M1 = some (r', M2) ∧ G1 (q + 1) ld M2 L ∧ r = r' := by
  obtain ⟨r, M1, r', M2, e1, e2, hg, er⟩ := g_restore h.1 a
  obtain ⟨lv, nf, nd, ng, ne, hL, hS⟩ := h.get
  refine ⟨r, M1, r', M2, e1, e2, ?_, er⟩
  by_cases hs : ∃ s, s < 3 ∧ a = nI s
  · obtain ⟨s, hs, rfl⟩ := hs
    obtain ⟨b, hb, hb1, hb2⟩ := h.1.2.2.2.2.2.2.2.2
    by_cases ht : b.testBit s = true
    · obtain ⟨Ma, y1, a0, a1, a2, a3, a4, a5, a6, a7⟩ := s_copyFrom (X0 := 64) (X1 := 362 + 7 * s) (M := M) (by omega)
      have c1 : F_Main_restore (nI s) M = some (1, uM (uM Ma 78 1 0) 78 2 0) := by
        unfold F_Main_restore F_Slots_bring F_Past_clear
        rw [if_neg (nI_pos (by omega)), if_neg (by rw [show (3 : Int32) = nI 3 from rfl, nI_leI (by omega) (by omega)]; omega), nI_clamp (by omega), if_neg (nI_inc (by omega) (by omega)), hb1, sl_bit hb hs, bI_s, if_pos ht, if_neg (show ¬ (1 : Int32) = 0 by decide), if_neg (nI_inc (by omega) (by omega)), y1, bI_s, bI2_s, if_neg (show ¬ (1 : Int32) = 0 by decide), nmM_e, nmM_e, bI_s]
      have i1 := Option.some.inj (e1.symm.trans c1)
      injection i1 with i2 i3
      have f1 : ∀ c j, ¬ (64 ≤ c ∧ c < 71) → ¬ (c = 78 ∧ (j = 1 ∨ j = 2)) → M1 c j = M c j := fun c j w1 w2 => by rw [i3, uM_diff (by omega), uM_diff (by omega), a7 c j (by omega)]
      have g1 : M1 78 1 = 0 := by rw [i3, uM_diff (by omega), uM_same]
      have g2 : M1 78 2 = 0 := by rw [i3, uM_same]
      have gX : ∀ c j, 64 ≤ c → c < 71 → M1 c j = Ma c j := fun c j w1 w2 => by rw [i3, uM_diff (by omega), uM_diff (by omega)]
      have h445 : M 445 s = 1 := by rw [hb2 s hs, if_pos ht]
      obtain ⟨M2', z1, z2, z3, z4⟩ := s_restore (s := s) (M := M1) hs (by rw [f1 445 s (by omega) (by omega), h445]; decide)
      have j1 := Option.some.inj (e2.symm.trans z1)
      injection j1 with j2 j3
      subst j3
      have f2 : ∀ c j, ¬ (64 ≤ c ∧ c < 71) → ¬ (c = 78 ∧ (j = 1 ∨ j = 2)) → c ≠ 436 → ¬ (c = 401 ∧ j = 57) → M2 c j = M c j := fun c j w1 w2 w3 w4 => by rw [z4 c j (by omega), f1 c j w1 w2]
      have gY : ∀ c j, 64 ≤ c → c < 71 → M2 c j = Ma c j := fun c j w1 w2 => by rw [z4 c j (by omega), gX c j w1 w2]
      refine h.mk2 hL hg (h.2.1.keep (fun c j w _ => f2 c j (by unfold vaC at w; omega) (by unfold vaC at w; omega) (by unfold vaC at w; omega) (by unfold vaC at w; omega))) (f2 ld 0 (by have := ld_le hL.la; omega) (by have := ld_le hL.la; omega) (by have := ld_le hL.la; omega) (by have := ld_le hL.la; omega)) ⟨?_, ⟨0, 0, by omega, by omega, ?_, z2, ?_, fun i hi => absurd hi (Nat.not_lt_zero _)⟩, ?_⟩
      · exact (hS.2.2 s hs h445).cp (by omega) (by omega) (fun j hj => by rw [gY _ _ (by omega) (by omega)]; exact a0 j hj) (fun j hj => by rw [gY _ _ (by omega) (by omega)]; exact a1 j hj) (fun j hj => by rw [gY _ _ (by omega) (by omega)]; exact a2 j hj) (fun j hj => by rw [gY _ _ (by omega) (by omega)]; exact a3 j hj) (fun j hj => by rw [gY _ _ (by omega) (by omega)]; exact a4 j hj) (fun j hj => by rw [gY _ _ (by omega) (by omega)]; exact a5 j hj) (fun j hj => by rw [gY _ _ (by omega) (by omega)]; exact a6 j hj) (fun k hk => by rw [z3 k hk, f1 446 _ (by omega) (by omega)])
      · rw [z4 78 2 (by omega), g2]; rfl
      · rw [z4 78 1 (by omega), g1]; rfl
      · exact (hS.2.2.mono (by omega) (by omega)).keep (fun c j w => f2 c j (by omega) (by omega) (by omega) (by omega))
    · have c1 : F_Main_restore (nI s) M = some (0, M) := by
        unfold F_Main_restore F_Slots_bring
        rw [if_neg (nI_pos (by omega)), if_neg (by rw [show (3 : Int32) = nI 3 from rfl, nI_leI (by omega) (by omega)]; omega), if_neg (by rw [nI_clamp (by omega)]; exact nI_inc (by omega) (by omega)), hb1, sl_bit hb hs, bI_s, if_neg ht, if_pos rfl, bI2_s, if_pos rfl]
      have i1 := Option.some.inj (e1.symm.trans c1)
      injection i1 with i2 i3
      subst i3
      have c2 : F_Mod_restore (nI s) M1 = some (0, M1) := s_restore0 hs (by rw [hb2 s hs, if_neg ht])
      have j1 := Option.some.inj (e2.symm.trans c2)
      injection j1 with j2 j3
      subst j3
      exact h.up
  · have c1 : F_Main_restore a M = some (0, M) := by
      unfold F_Main_restore F_Slots_bring
      by_cases h0 : a < 0
      · rw [if_pos h0, bI2_s, if_pos rfl]
      · rw [if_neg h0, if_pos, bI2_s, if_pos rfl]
        obtain ⟨k, hk, rfl⟩ := nI_of h0
        rw [show (3 : Int32) = nI 3 from rfl, nI_leI (by omega) hk]
        refine Nat.le_of_not_lt (fun w => hs ⟨k, w, rfl⟩)
    have i1 := Option.some.inj (e1.symm.trans c1)
    injection i1 with i2 i3
    subst i3
    have c2 : F_Mod_restore a M1 = some (0, M1) := by
      unfold F_Mod_restore
      rcases in_cases a (a := 0) (b := 2) (by decide) (by decide) with ⟨w, _⟩ | ⟨k, _, w, e, _⟩
      · rw [show F_Mod_in a 0 2 = F_Mod_in a (nI 0) (nI 2) from rfl, w, bI_s, if_pos rfl]
      · exact absurd ⟨k, by omega, e⟩ hs
    have j1 := Option.some.inj (e2.symm.trans c2)
    injection j1 with j2 j3
    subst j3
    exact h.up
theorem v_read (h : G1 q ld M L) (hq : q < 512) : ∃ k M1 L1 ld1 M2 L2, F_Main_read ld M L = some (nI k, M1, L1, ld1) ∧ F_Mod_read M1 L1 = some (nI k, M2, L2) ∧ G1 (q + 1) ld1 M2 L2 := by
  obtain ⟨k, M1, L1, ld1, M2, L2, e1, e2, hg, hva, hc⟩ := g_read h.1
  obtain ⟨lv, nf, nd, ng, ne, hL, hS⟩ := h.get
  refine ⟨k, M1, L1, ld1, M2, L2, e1, e2, hg, h.2.1.keep (fun c j w _ => hva c j w), ?_⟩
  rcases hc with ⟨k0, rfl, hld, hf⟩ | ⟨k0, f1, f2, f3, ⟨nf2, n1, n2, f4⟩, f5, f6, f7, f8, f9, f10, f11, f12, f13⟩
  · refine ⟨nf, hL.nf6, hld.trans hL.cf, (hS.mono (D' := 60 * (q + 1)) (Q' := q + 1) (by omega) (by omega)).keep (fun c j w => ?_)⟩
    by_cases w5 : c = 445
    · subst w5
      have hj : j < 3 := by unfold sC at w; omega
      obtain ⟨b, hb, hb1, hb2⟩ := h.1.2.2.2.2.2.2.2.2
      obtain ⟨b', hb', hb1', hb2'⟩ := hg.2.2.2.2.2.2.2.2
      have eb : b' = b := (nI_eq (by omega) (by omega)).mp (hb1'.symm.trans ((hf 360 1 (by unfold stC; omega)).trans hb1))
      rw [hb2 j hj, hb2' j hj, eb]
    · exact hf c j (by unfold sC at w; unfold stC; omega)
  · have hr : ∀ k, 6 ≤ k → k < 38 → k ≠ 11 → ¬ (15 ≤ k ∧ k < 19) → M2 436 k = 0 := fun k a b c d => by rw [f9 k a b, if_neg (by omega)]
    obtain ⟨b, hb, hb1, hb2⟩ := hg.2.2.2.2.2.2.2.2
    have b0 : b = 0 := (nI_eq (by omega) (by omega)).mp (hb1.symm.trans f12)
    refine ⟨nf2, n1, n2, ⟨⟨0, by omega, f1 0 (by decide), hr 35 (by omega) (by omega) (by omega) (by omega), fun g hg => ⟨0, by omega, f6 g hg, hr (31 + g) (by omega) (by omega) (by omega) (by omega), Or.inl ⟨rfl, by rw [f9 (15 + g) (by omega) (by omega), if_pos (by omega)]⟩⟩⟩, ?_, ?_, ?_, fun j hj => ?_, f4, fun d hd => ?_, fun i hi => ?_⟩, ⟨0, 0, by omega, by omega, f11, f13, f10, fun i hi => absurd hi (Nat.not_lt_zero _)⟩, fun s hs es => ?_⟩
    · rw [f1 1 (by decide), hr 36 (by omega) (by omega) (by omega) (by omega)]
    · rw [f1 2 (by decide), hr 37 (by omega) (by omega) (by omega) (by omega)]
    · rw [f2, f9 11 (by omega) (by omega), if_pos (by omega)]
    · rw [f3 j hj, hr (12 + j) (by omega) (by omega) (by omega) (by omega)]
    · rw [f5 d hd, hr (6 + d) (by omega) (by omega) (by omega) (by omega)]
    · rw [f8 i hi, hr (19 + i) (by omega) (by omega) (by omega) (by omega)]
    · rw [hb2 s hs, b0, Nat.zero_testBit] at es
      exact absurd es (by decide)
theorem v_place (h : G1 q ld M L) (hq : q < 512) : ∃ r r', F_Main_place M = some r ∧ F_Mod_place M = some r' ∧ G1 (q + 1) ld M L ∧ r = r' := by
  obtain ⟨r, r', e1, e2, _, e3⟩ := g_place h.1
  exact ⟨r, r', e1, e2, h.up, e3⟩
theorem v_amount (h : G1 q ld M L) (hq : q < 512) (a b : Int32) : ∃ r r', F_Main_amount ld a b M = some r ∧ F_Mod_amount a b M = some r' ∧ G1 (q + 1) ld M L ∧ r = r' := by
  obtain ⟨r, r', e1, e2, _, e3⟩ := g_amount h.1 a b
  exact ⟨r, r', e1, e2, h.up, e3⟩

theorem v_feed (h : G1 q ld M L) (hq : q < 512) (a b c d e : Int32) : ∃ r M1 r' M2, F_Main_feed a b c d e M = some (r, M1) ∧ F_Mod_feed a b c d e M1 = some (r', M2) ∧ G1 (q + 1) ld M2 L ∧ r = r' := by
  obtain ⟨r, M1, r', M2, e1, e2, hg, e3, e4⟩ := g_feed h.1 a b c d e
  exact ⟨r, M1, r', M2, e1, e2, h.fr hg e4 (e4 ld 0 (Or.inr (by have := La_cases h.1.la; omega))), e3⟩
theorem v_back (h : G1 q ld M L) (hq : q < 512) (a : Int32) : ∃ r M1 r' M2, F_Main_back a M = some (r, M1) ∧ F_Mod_back a M1 = some (r', M2) ∧ G1 (q + 1) ld M2 L ∧ r = r' := by
  obtain ⟨r, M1, r', M2, e1, e2, hg, e3, e4⟩ := g_back h.1 a
  exact ⟨r, M1, r', M2, e1, e2, h.fr hg e4 (e4 ld 0 (Or.inr (by have := La_cases h.1.la; omega))), e3⟩
theorem v_tell (h : G1 q ld M L) (hq : q < 512) (a b c : Int32) : ∃ r M1 r' M2, F_Main_tell a b c M = some (r, M1) ∧ F_Mod_tell a b c M1 = some (r', M2) ∧ G1 (q + 1) ld M2 L ∧ r = r' := by
  obtain ⟨r, M1, r', M2, e1, e2, hg, e3, e4⟩ := g_tell h.1 a b c
  exact ⟨r, M1, r', M2, e1, e2, h.fr hg e4 (e4 ld 0 (Or.inr (by have := La_cases h.1.la; omega))), e3⟩
theorem v_forget (h : G1 q ld M L) (hq : q < 512) : ∃ r M1 r' M2, F_Main_forget M = some (r, M1) ∧ F_Mod_forget M1 = some (r', M2) ∧ G1 (q + 1) ld M2 L ∧ r = r' := by
  obtain ⟨r, M1, r', M2, e1, e2, hg, e3, e4⟩ := g_forget h.1
  exact ⟨r, M1, r', M2, e1, e2, h.fr hg e4 (e4 ld 0 (Or.inr (by have := La_cases h.1.la; omega))), e3⟩
end SD
end PAR39
