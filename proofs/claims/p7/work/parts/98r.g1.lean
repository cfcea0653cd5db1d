/-! what holds between calls, both halves -/
section PAR38
def Pst (D Q nf : Nat) (M : gM) : Prop := ∃ u nx, u ≤ 40 ∧ nx < 40 ∧ M 78 2 = nI u ∧ M 401 57 = nI u ∧ M 78 1 = nI nx ∧ ∀ i, i < u → St D Q nf (80 + 7 * ((nx + 40 - u + i) % 40)) (fun k => M 440 (38 * i + k)) M
def Slt (D Q nf : Nat) (M : gM) : Prop := ∀ s, s < 3 → M 445 s = 1 → St D Q nf (362 + 7 * s) (fun k => M 446 (38 * s + k)) M
def Sta (D Q nf : Nat) (M : gM) : Prop := St D Q nf 64 (M 436) M ∧ Pst D Q nf M ∧ Slt D Q nf M
def G1 (q ld : Nat) (M : gM) (L : gL) : Prop := G0 ld M L ∧ VZ M ∧ ∃ nf, nf ≤ 6 ∧ M ld 0 = nI nf ∧ Sta (60 * q) q nf M
section GO
variable {D Q D' Q' q ld lv nf nd ng ne : Nat} {M M' : gM} {L : gL} {r : Nat → Int32}
theorem Pst.mono (h : Pst D Q nf M) (hD : D ≤ D') (hQ : Q ≤ Q') : Pst D' Q' nf M := by
  obtain ⟨u, nx, h1, h2, h3, h4, h5, h6⟩ := h
  exact ⟨u, nx, h1, h2, h3, h4, h5, fun i hi => (h6 i hi).mono hD hQ⟩
theorem Slt.mono (h : Slt D Q nf M) (hD : D ≤ D') (hQ : Q ≤ Q') : Slt D' Q' nf M := fun s hs e => (h s hs e).mono hD hQ
theorem Sta.mono (h : Sta D Q nf M) (hD : D ≤ D') (hQ : Q ≤ Q') : Sta D' Q' nf M := ⟨h.1.mono hD hQ, h.2.1.mono hD hQ, h.2.2.mono hD hQ⟩
theorem Pst.keep (h : Pst D Q nf M) (e : ∀ c j, c = 78 ∨ (80 ≤ c ∧ c < 360) ∨ c = 440 ∨ (c = 401 ∧ j = 57) → M' c j = M c j) : Pst D Q nf M' := by
  obtain ⟨u, nx, h1, h2, h3, h4, h5, h6⟩ := h
  refine ⟨u, nx, h1, h2, by rw [e _ _ (by omega)]; exact h3, by rw [e _ _ (by omega)]; exact h4, by rw [e _ _ (by omega)]; exact h5, fun i hi => (h6 i hi).keep (fun c j a b => e c j ?_) (fun k hk => e 440 _ (by omega))⟩
  have := Nat.mod_lt (nx + 40 - u + i) (show 0 < 40 by decide)
  omega
theorem Slt.keep (h : Slt D Q nf M) (e : ∀ c j, (362 ≤ c ∧ c < 383) ∨ c = 446 ∨ (c = 445 ∧ j < 3) → M' c j = M c j) : Slt D Q nf M' := fun s hs e1 => (h s hs (by rw [← e 445 s (by omega)]; exact e1)).keep (fun c j a b => e c j (by omega)) (fun k hk => e 446 _ (by omega))
theorem Sta.keep (h : Sta D Q nf M) (e : ∀ c j, sC c j → M' c j = M c j) : Sta D Q nf M' := ⟨h.1.keep (fun c j a b => e c j (by unfold sC; omega)) (fun k hk => e 436 k (by unfold sC; omega)), h.2.1.keep (fun c j w => e c j (by unfold sC; omega)), h.2.2.keep (fun c j w => e c j (by unfold sC; omega))⟩
theorem G1.get (h : G1 q ld M L) : ∃ lv nf nd ng ne, Lnd ld lv nf nd ng ne M ∧ Sta (60 * q) q nf M := by
  obtain ⟨⟨hT, hld, hWc, hWm, hI, ⟨lv, hlv, h18, ⟨nf, nd, ng, ne, c, i, hC, hD, hL, hc, hi⟩⟩, h11, hTd, hSl⟩, hV, nf2, h6, hf, hS⟩ := h
  have e : nf2 = nf := by
    have e1 := hf.symm.trans hC.1.1
    have e2 := hC.1.2.2
    exact (nI_eq (by omega) (by omega)).mp e1
  subst e
  exact ⟨lv, nf2, nd, ng, ne, ⟨hld, hlv, h18, hC, hD, ⟨c, i, hL, hc, hi⟩, hV⟩, hS⟩
theorem sC_C1 {c j : Nat} (h : sC c j) : C1 c j = false := by
  unfold sC at h
  unfold C1
  rw [C0_M (by omega) (by omega)]
  simp only [Bool.false_or, Bool.or_eq_false_iff, Bool.and_eq_false_iff, beq_eq_false_iff_ne, decide_eq_false_iff_not, Bool.not_eq_false', beq_iff_eq]
  omega
theorem sC_MS1 {c j : Nat} (h : sC c j) : MS1 c j = false := by
  unfold sC at h
  simp only [MS1, MS0, Bool.or_eq_false_iff, Bool.and_eq_false_iff, beq_eq_false_iff_ne]
  omega
theorem va_MS1 {c j : Nat} (h : vaC c) : MS1 c j = false := by
  unfold vaC at h
  simp only [MS1, MS0, Bool.or_eq_false_iff, Bool.and_eq_false_iff, beq_eq_false_iff_ne]
  omega
theorem VZ.kC1 (h : VZ M) (k : Kl C1 M zL M' zL) : VZ M' := h.keep (fun c j _ w => k.m (vz_C1 w))
theorem VZ.kSt (h : VZ M) (k : Kl CSt M zL M' zL) : VZ M' := h.keep (fun c j _ w => k.m (vz_CSt w))
theorem VZ.kM1 (h : VZ M) (k : Kl MS1 M zL M' zL) : VZ M' := h.keep (fun c j w _ => k.m (va_MS1 w))
/-- a query keeps all -/
theorem G1.q2 {M1 M2 : gM} (h : G1 q ld M L) (hg : G0 ld M2 L) (k1 : Kl C1 M zL M1 zL) (k2 : Kl MS1 M1 zL M2 zL) : G1 (q + 1) ld M2 L := by
  obtain ⟨h0, hV, nf, h6, hf, hS⟩ := h
  refine ⟨hg, (hV.kC1 k1).kM1 k2, nf, h6, ?_, (hS.keep (fun c j w => by rw [k2.m (sC_MS1 w), k1.m (sC_C1 w)])).mono (by omega) (by omega)⟩
  have e : gl ld 0 = true := gl_La (x := 0) h0.la (by decide) (Or.inl (by decide))
  rw [k2.m (gl_MS1 (by rw [e]; rfl)), k1.m (gl_C1 (by rw [e]; rfl))]
  exact hf
theorem G1.up (h : G1 q ld M L) : G1 (q + 1) ld M L := h.q2 h.1 Kl.rf Kl.rf
theorem G1.fr {M2 : gM} (h : G1 q ld M L) (hg : G0 ld M2 L) (e : ∀ c j, sV c j → M2 c j = M c j) (ef : M2 ld 0 = M ld 0) : G1 (q + 1) ld M2 L := by
  obtain ⟨h0, hV, nf, h6, hf, hS⟩ := h
  exact ⟨hg, hV.keep (fun c j w _ => e c j (Or.inr (by unfold vaC at w; omega))), nf, h6, ef.trans hf, (hS.keep (fun c j w => e c j (Or.inl w))).mono (by omega) (by omega)⟩
/-- the past, one more -/
theorem c_keep {u nx : Nat} (hu : u ≤ 40) (hn : nx < 40) (h2 : M 78 2 = nI u) (h1 : M 78 1 = nI nx) : ∃ M', F_Past_keep 64 M = some M' ∧ ((∀ j, j < 4 → M' (80 + 7 * nx) j = M 64 j) ∧ (∀ j, j < 3 → M' (80 + 7 * nx + 1) j = M (64 + 1) j) ∧ (∀ j, j < 6 → M' (80 + 7 * nx + 2) j = M (64 + 2) j) ∧ (∀ j, j < 5 → M' (80 + 7 * nx + 3) j = M (64 + 3) j) ∧ (∀ j, j < 4 → M' (80 + 7 * nx + 4) j = M (64 + 4) j) ∧ (∀ j, j < 4 → M' (80 + 7 * nx + 5) j = M (64 + 5) j) ∧ (∀ j, j < 12 → M' (80 + 7 * nx + 6) j = M (64 + 6) j)) ∧ M' 78 1 = nI ((nx + 1) % 40) ∧ M' 78 2 = nI (if u = 40 then 40 else u + 1) ∧ Eo (fun c j => (80 + 7 * nx ≤ c ∧ c < 80 + 7 * nx + 7) ∨ (c = 78 ∧ (j = 1 ∨ j = 2))) M M' := by
  unfold F_Past_keep
  obtain ⟨M1, e1, a0, a1, a2, a3, a4, a5, a6, a7⟩ := s_copyFrom (X0 := 80 + 7 * nx) (X1 := 64) (M := M) (by omega)
  rw [h1, if_neg (nI_pos (by omega)), show (40 : Int32) = nI 40 from rfl, if_neg (by rw [nI_leI (by omega) (by omega)]; omega), if_neg (nI_in (by omega) (by omega)), if_neg (nI_in (by omega) (by omega)), nI_clamp (by omega), e1, bI_s]
  have g1 : M1 78 1 = nI nx := by rw [a7 78 1 (by omega)]; exact h1
  have g2 : M1 78 2 = nI u := by rw [a7 78 2 (by omega)]; exact h2
  have fin : ∀ v : Nat, v = (nx + 1) % 40 → ∃ M', J_Past_keep_67 64 (nI v) M1 = some M' ∧ ((∀ j, j < 4 → M' (80 + 7 * nx) j = M 64 j) ∧ (∀ j, j < 3 → M' (80 + 7 * nx + 1) j = M (64 + 1) j) ∧ (∀ j, j < 6 → M' (80 + 7 * nx + 2) j = M (64 + 2) j) ∧ (∀ j, j < 5 → M' (80 + 7 * nx + 3) j = M (64 + 3) j) ∧ (∀ j, j < 4 → M' (80 + 7 * nx + 4) j = M (64 + 4) j) ∧ (∀ j, j < 4 → M' (80 + 7 * nx + 5) j = M (64 + 5) j) ∧ (∀ j, j < 12 → M' (80 + 7 * nx + 6) j = M (64 + 6) j)) ∧ M' 78 1 = nI ((nx + 1) % 40) ∧ M' 78 2 = nI (if u = 40 then 40 else u + 1) ∧ Eo (fun c j => (80 + 7 * nx ≤ c ∧ c < 80 + 7 * nx + 7) ∨ (c = 78 ∧ (j = 1 ∨ j = 2))) M M' := fun v hv => by
    unfold J_Past_keep_67
    rw [nmM_e, uM_diff (by omega), g2, nI_1, nmM_e]
    have es : (if nI (u + 1) < 40 then nI (u + 1) else 40) = nI (if u = 40 then 40 else u + 1) := by
      by_cases w : u + 1 < 40
      · rw [if_pos (by rw [show (40 : Int32) = nI 40 from rfl, nI_ltI (by omega) (by omega)]; exact w), if_neg (by omega)]
      · rw [if_neg (by rw [show (40 : Int32) = nI 40 from rfl, nI_ltI (by omega) (by omega)]; exact w)]
        by_cases w2 : u = 40
        · rw [if_pos w2]; rfl
        · rw [if_neg w2, show u + 1 = 40 by omega]; rfl
    rw [es]
    refine ⟨_, rfl, ⟨fun j hj => ?_, fun j hj => ?_, fun j hj => ?_, fun j hj => ?_, fun j hj => ?_, fun j hj => ?_, fun j hj => ?_⟩, ?_, uM_same, fun c j w => ?_⟩
    · rw [uM_diff (by omega), uM_diff (by omega)]; exact a0 j hj
    · rw [uM_diff (by omega), uM_diff (by omega)]; exact a1 j hj
    · rw [uM_diff (by omega), uM_diff (by omega)]; exact a2 j hj
    · rw [uM_diff (by omega), uM_diff (by omega)]; exact a3 j hj
    · rw [uM_diff (by omega), uM_diff (by omega)]; exact a4 j hj
    · rw [uM_diff (by omega), uM_diff (by omega)]; exact a5 j hj
    · rw [uM_diff (by omega), uM_diff (by omega)]; exact a6 j hj
    · rw [uM_diff (by omega), uM_same, hv]
    · rw [uM_diff (by omega), uM_diff (by omega)]; exact a7 c j (by omega)
  rw [g1, nI_1]
  by_cases w : 40 ≤ nx + 1
  · rw [if_pos (by rw [nI_leI (by omega) (by omega)]; exact w)]
    exact fin 0 (by omega)
  · rw [if_neg (by rw [nI_leI (by omega) (by omega)]; exact w)]
    exact fin (nx + 1) (by omega)
/-- a thing is done: the past keeps how it was, the model's history too -/
theorem Sta.done {Mk M1 N M2 : gM} (hS : Sta D Q nf M) (hD : D ≤ D') (hQ : Q ≤ Q') (ek : F_Past_keep 64 M = some Mk) (k1 : ∀ c j, sC c j → ¬ (64 ≤ c ∧ c < 71) → M1 c j = Mk c j) (h1 : St D' Q' nf 64 r M1) (kN : ∀ c j, sC c j → N c j = M1 c j) (hN : ∀ k, k < 38 → N 437 k = r k) (er : F_Mod_records N = some M2) : Sta D' Q' nf M2 := by
  obtain ⟨hs, ⟨u, nx, p1, p2, p3, p4, p5, p6⟩, hl⟩ := hS
  obtain ⟨Mk', y1, ⟨y2, y3, y4, y5, y6, y7, y8⟩, y9, y10, y11⟩ := c_keep p1 p2 p3 p5
  have i1 := Option.some.inj (ek.symm.trans y1)
  subst i1
  have kM : ∀ c j, sC c j → ¬ (64 ≤ c ∧ c < 71) → ¬ (80 + 7 * nx ≤ c ∧ c < 80 + 7 * nx + 7) → ¬ (c = 78 ∧ (j = 1 ∨ j = 2)) → N c j = M c j := fun c j a b w1 w2 => by rw [kN c j a, k1 c j a b, y11 c j (by omega)]
  have e57 : N 401 57 = nI u := by rw [kM 401 57 (by unfold sC; omega) (by omega) (by omega) (by omega)]; exact p4
  obtain ⟨M2', v, sh, z1, z2, z3, z4, z5, z6, z7⟩ := s_records p1 e57
  have i2 := Option.some.inj (er.symm.trans z1)
  subst i2
  have zC : ∀ c j, c ≠ 436 → c ≠ 440 → ¬ (c = 401 ∧ j = 57) → M2 c j = N c j := fun c j a b w => z7 c j (by omega)
  refine ⟨h1.keep (fun c j a b => by rw [zC c j (by omega) (by omega) (by omega), kN c j (by unfold sC; omega)]) (fun k hk => by rw [z4 k hk, hN k hk]), ⟨v + 1, (nx + 1) % 40, by omega, Nat.mod_lt _ (by decide), ?_, z3, ?_, fun i hi => ?_⟩, ?_⟩
  · rw [zC 78 2 (by omega) (by omega) (by omega), kN 78 2 (by unfold sC; omega), k1 78 2 (by unfold sC; omega) (by omega), y10]
    rcases z2 with ⟨w1, w2, w3⟩ | ⟨w1, w2, w3⟩
    · rw [if_neg (by omega), w2]
    · rw [if_pos w1, w2]
  · rw [zC 78 1 (by omega) (by omega) (by omega), kN 78 1 (by unfold sC; omega), k1 78 1 (by unfold sC; omega) (by omega), y9]
  · by_cases w : i = v
    · -- how it was just now
      have ex : ((nx + 1) % 40 + 40 - (v + 1) + i) % 40 = nx := by omega
      have g : ∀ c j, 80 + 7 * nx ≤ c → c < 80 + 7 * nx + 7 → M2 c j = Mk c j := fun c j a b => by rw [zC c j (by omega) (by omega) (by omega), kN c j (by unfold sC; omega), k1 c j (by unfold sC; omega) (by omega)]
      rw [ex]
      refine hs.cp hD hQ (fun j hj => by rw [g _ j (by omega) (by omega)]; exact y2 j hj) (fun j hj => by rw [g _ j (by omega) (by omega)]; exact y3 j hj) (fun j hj => by rw [g _ j (by omega) (by omega)]; exact y4 j hj) (fun j hj => by rw [g _ j (by omega) (by omega)]; exact y5 j hj) (fun j hj => by rw [g _ j (by omega) (by omega)]; exact y6 j hj) (fun j hj => by rw [g _ j (by omega) (by omega)]; exact y7 j hj) (fun j hj => by rw [g _ j (by omega) (by omega)]; exact y8 j hj) (fun k hk => ?_)
      show M2 440 (38 * i + k) = M 436 k
      rw [w, z6 k hk, kM 436 k (by unfold sC; omega) (by omega) (by omega) (by omega)]
    · -- an older one
      have hiv : i < v := by omega
      obtain ⟨i0, hi0, ei⟩ : ∃ i0, i0 < u ∧ ((nx + 1) % 40 + 40 - (v + 1) + i) % 40 = (nx + 40 - u + i0) % 40 ∧ (38 * i + sh = 38 * i0) := by
        rcases z2 with ⟨w1, w2, w3⟩ | ⟨w1, w2, w3⟩
        · exact ⟨i, by omega, by omega, by omega⟩
        · exact ⟨i + 1, by omega, by omega, by omega⟩
      have hx : (nx + 40 - u + i0) % 40 ≠ nx := by omega
      have hx2 := Nat.mod_lt (nx + 40 - u + i0) (show 0 < 40 by decide)
      rw [ei.1]
      refine ((p6 i0 hi0).mono hD hQ).keep (fun c j a b => ?_) (fun k hk => ?_)
      · rw [zC c j (by omega) (by omega) (by omega), kM c j (by unfold sC; omega) (by omega) (by omega) (by omega)]
      · show M2 440 (38 * i + k) = M 440 (38 * i0 + k)
        rw [z5 (38 * i + k) (by omega), kM 440 _ (by unfold sC; omega) (by omega) (by omega) (by omega)]
        congr 1
        omega
  · exact (hl.mono hD hQ).keep (fun c j a => by rw [zC c j (by omega) (by omega) (by omega), kM c j (by unfold sC; omega) (by omega) (by omega) (by omega)])
theorem m_copies (h : Lnd ld lv nf nd ng ne M) : ∃ M', F_Mod_copies M = some M' ∧ (∀ k, k < 38 → M' 437 k = M 436 k) ∧ M' 401 54 = M 423 lv ∧ Eo mQ M M' := by
  have h1 := h.l1
  refine ⟨_, s_copies h.l18 (by omega), fun k hk => ?_, uM_same, fun c j w => ?_⟩
  · rw [uM_diff (by omega), fl_in (by omega), Nat.sub_zero]
  · unfold mQ at w
    rw [uM_diff (by omega), fl_out (by omega)]
theorem m_isDish (h : Lnd ld lv nf nd ng ne M) (a : Int32) : (F_Main_isOne a (nI nd) = some 0 ∧ F_Mod_isDish a M = some 0) ∨ ∃ d, d < nd ∧ a = nI d ∧ F_Main_isOne a (nI nd) = some 1 ∧ F_Mod_isDish a M = some 1 := by
  have h1 := h.l1
  have h5 := h.nd5
  unfold F_Mod_isDish
  rw [h.l18, if_neg (nI_in (by omega) (by omega)), nI_clamp (by omega), h.md]
  rcases one_c2 a (n := nd) (by omega) with ⟨x, y⟩ | ⟨d, hd, e, x, y⟩
  · rw [y, bI_s, if_pos (Or.inl rfl)]; exact Or.inl ⟨x, rfl⟩
  · rw [y, bI_s, if_pos (Or.inr rfl)]; exact Or.inr ⟨d, hd, e, x, rfl⟩
theorem m_isFood (h : Lnd ld lv nf nd ng ne M) (a : Int32) : (F_Main_isOne a (nI nf) = some 0 ∧ F_Mod_isFood a M = some 0) ∨ ∃ d, d < nf ∧ a = nI d ∧ F_Main_isOne a (nI nf) = some 1 ∧ F_Mod_isFood a M = some 1 := by
  have h1 := h.l1
  have h5 := h.nf6
  unfold F_Mod_isFood
  rw [h.l18, if_neg (nI_in (by omega) (by omega)), nI_clamp (by omega), h.mf]
  rcases one_c2 a (n := nf) (by omega) with ⟨x, y⟩ | ⟨d, hd, e, x, y⟩
  · rw [y, bI_s, if_pos (Or.inl rfl)]; exact Or.inl ⟨x, rfl⟩
  · rw [y, bI_s, if_pos (Or.inr rfl)]; exact Or.inr ⟨d, hd, e, x, rfl⟩
theorem m_isGuest (h : Lnd ld lv nf nd ng ne M) (a : Int32) : (F_Main_isOne a (nI ng) = some 0 ∧ F_Mod_isGuest a M = some 0) ∨ ∃ d, d < ng ∧ a = nI d ∧ F_Main_isOne a (nI ng) = some 1 ∧ F_Mod_isGuest a M = some 1 := by
  have h1 := h.l1
  have h5 := h.ng4
  unfold F_Mod_isGuest
  rw [h.l18, if_neg (nI_in (by omega) (by omega)), nI_clamp (by omega), h.mg]
  rcases one_c2 a (n := ng) (by omega) with ⟨x, y⟩ | ⟨d, hd, e, x, y⟩
  · rw [y, bI_s, if_pos (Or.inl rfl)]; exact Or.inl ⟨x, rfl⟩
  · rw [y, bI_s, if_pos (Or.inr rfl)]; exact Or.inr ⟨d, hd, e, x, rfl⟩
theorem m_isDeed (h : Lnd ld lv nf nd ng ne M) (a : Int32) : (F_Main_isOne a (nI ne) = some 0 ∧ F_Mod_isDeed a M = some 0) ∨ ∃ d, d < ne ∧ a = nI d ∧ F_Main_isOne a (nI ne) = some 1 ∧ F_Mod_isDeed a M = some 1 := by
  have h1 := h.l1
  have h5 := h.ne6
  unfold F_Mod_isDeed
  rw [h.l18, if_neg (nI_in (by omega) (by omega)), nI_clamp (by omega), h.me]
  rcases one_c2 a (n := ne) (by omega) with ⟨x, y⟩ | ⟨d, hd, e, x, y⟩
  · rw [y, bI_s, if_pos (Or.inl rfl)]; exact Or.inl ⟨x, rfl⟩
  · rw [y, bI_s, if_pos (Or.inr rfl)]; exact Or.inr ⟨d, hd, e, x, rfl⟩
theorem inB_r {r' : Nat → Int32} {d : Nat} (e : ∀ k, k < 38 → r' k = r k) : ∀ n, n ≤ 6 → inB M lv d r' n = inB M lv d r n
  | 0, _ => rfl
  | n + 1, hn => by unfold inB; rw [inB_r e n (by omega), e n (by omega)]
theorem slS_r {r' : Nat → Int32} {d : Nat} {seed : Int32} (h0 : 0 < nf) (h6 : nf ≤ 6) (e : ∀ k, k < 38 → r' k = r k) : slS M lv nf seed r' d = slS M lv nf seed r d := by
  obtain ⟨x, hx, ex⟩ := lotS_r (n := nf) (seed := seed) (which := 8 * r 37 + 1) h0 (by omega)
  unfold slS
  rw [e 37 (by omega), e 35 (by omega), ex, nI_tn (by omega), e x (by omega)]
theorem ckR_r {r' : Nat → Int32} {d : Nat} {sl : Option Nat} (e : ∀ k, k < 38 → r' k = r k) : ∀ k, k < 38 → ckR M lv nf d sl r' k = ckR M lv nf d sl r k := fun k hk => by
  unfold ckR
  rw [e k hk, e 35 (by omega), e 36 (by omega), e 37 (by omega)]
theorem ckR_k (e : ∀ c j, 411 ≤ c → c ≤ 432 → M' c j = M c j) {d : Nat} {sl : Option Nat} : ckR M' lv nf d sl r = ckR M lv nf d sl r := by
  funext k
  unfold ckR
  rw [e 417 _ (by decide) (by decide), disS_k e, priS_k e]
/-- of a step: what G1 wants behind it -/
theorem G1.mk2 {M2 : gM} (h : G1 q ld M L) (hL : Lnd ld lv nf nd ng ne M) (hg : G0 ld M2 L) (hV : VZ M2) (ef : M2 ld 0 = M ld 0) (hS : Sta (60 * (q + 1)) (q + 1) nf M2) : G1 (q + 1) ld M2 L := ⟨hg, hV, nf, hL.nf6, ef.trans hL.cf, hS⟩
theorem ld0_St (hld : isLa ld) (k : Kl CSt M zL M' zL) : M' ld 0 = M ld 0 := k.m (gl_CSt (by rw [show gl ld 0 = true from gl_La (x := 0) hld (by decide) (Or.inl (by decide))]; rfl))
theorem ld0_C0 (hld : isLa ld) (k : Kl C0 M zL M' zL) : M' ld 0 = M ld 0 := k.m (gl_C0 (by rw [show gl ld 0 = true from gl_La (x := 0) hld (by decide) (Or.inl (by decide))]; rfl))
theorem ld_le (hld : isLa ld) : ld ≤ 38 := by rcases La_cases hld with e | e <;> omega
theorem St_fr {c j : Nat} (h : sC c j) (h2 : ¬ (64 ≤ c ∧ c < 71)) : CX 64 c j = false := by
  unfold sC at h
  unfold CX
  rw [C0_M (by omega) (by omega)]
  simp only [Bool.false_or, Bool.and_eq_false_iff, decide_eq_false_iff_not]
  omega
theorem v_cook (h : G1 q ld M L) (hq : q < 512) (a : Int32) : ∃ r M1 r' M2, F_Main_cook ld a M = some (r, M1) ∧ F_Mod_cook a M1 = some (r', M2) ∧ G1 (q + 1) ld M2 L ∧ r = r' := by
  obtain ⟨r, M1, r', M2, e1, e2, hg⟩ := g_cook h.1 a
  obtain ⟨lv, nf, nd, ng, ne, hL, hS⟩ := h.get
  have h6 := hL.nf6
  refine ⟨r, M1, r', M2, e1, e2, ?_⟩
  rcases m_isDish hL a with ⟨d1, d2⟩ | ⟨d, hd, rfl, d1, d2⟩
  · have c1 : F_Main_cook ld a M = some (-1, M) := by unfold F_Main_cook; rw [hL.cd, d1, bI_s, if_pos rfl]
    have i1 := Option.some.inj (e1.symm.trans c1)
    injection i1 with i2 i3
    subst i3
    have c2 : F_Mod_cook a M1 = some (-1, M1) := by unfold F_Mod_cook; rw [d2, bI_s, if_pos rfl]
    have j1 := Option.some.inj (e2.symm.trans c2)
    injection j1 with j2 j3
    subst j3
    exact ⟨h.up, by rw [i2, j2]⟩
  have h0 := hL.some_ (by omega)
  by_cases hb : inB M lv d (M 436) nf = true
  rotate_left
  · have c1 : F_Main_cook ld (nI d) M = some (-3, M) := by
      unfold F_Main_cook
      rw [hL.cd, d1, bI_s, if_neg (by decide), c_inStore hL hS.1 hd, bI_s, if_neg hb, if_pos rfl]
    have i1 := Option.some.inj (e1.symm.trans c1)
    injection i1 with i2 i3
    subst i3
    obtain ⟨Mc, x1, x2, x3, x4⟩ := m_copies hL
    have c2 : F_Mod_cook (nI d) M1 = some (-3, fl Mc 438 0 6 (potD Mc lv nf d)) := by
      unfold F_Mod_cook
      rw [d2, bI_s, if_neg (by decide), x1, bI_s, m_isInStore (hL.kQ x4) hd, bI2_s, inB_k (mQ_M x4), inB_r x2 nf h6, if_neg hb, if_pos rfl]
    have j1 := Option.some.inj (e2.symm.trans c2)
    injection j1 with j2 j3
    have eQ : Eo mQ M1 M2 := fun c j w => by
      have w2 := w
      unfold mQ at w2
      rw [j3, fl_out (by omega), x4 c j w]
    refine ⟨h.fr hg (fun c j w => eQ c j (by have := sV_n w; unfold mQ; omega)) (eQ ld 0 (by have := ld_le hL.la; unfold mQ; omega)), by rw [i2, j2]⟩
  -- it is cooked
  obtain ⟨u, nx, p1, p2, p3, p4, p5, p6⟩ := id hS.2.1
  obtain ⟨Mk, y1, y2, y3, y4, y5⟩ := c_keep p1 p2 p3 p5
  obtain ⟨Mk', t1, t2⟩ := tf_Past_keep (M := M)
  have it := Option.some.inj (t1.symm.trans y1)
  subst it
  have hLk : Lnd ld lv nf nd ng ne Mk' := hL.keep (fun c j w => t2.m (gv_CSt w))
  have mk : ∀ c j, 411 ≤ c → c ≤ 432 → Mk' c j = M c j := fun c j a b => y5 c j (by omega)
  have hSk : St (60 * q) q nf 64 (M 436) Mk' := hS.1.keep (fun c j a b => y5 c j (by omega)) (fun _ _ => rfl)
  obtain ⟨M1', z1, z2, z3⟩ := c_cookOne hLk hSk st64 hd (by rw [inB_k mk]; exact hb)
  have c1 : F_Main_cook ld (nI d) M = some (moreI (slS Mk' lv nf (Mk' 423 lv) (M 436) d), M1') := by
    unfold F_Main_cook
    rw [hL.cd, d1, bI_s, if_neg (by decide), c_inStore hL hS.1 hd, bI_s, if_pos hb, if_neg (by decide), t1, bI_s, z1, bI2_s]
  have i1 := Option.some.inj (e1.symm.trans c1)
  injection i1 with i2 i3
  subst i3
  rw [slS_k mk, mk 423 _ (by decide) (by decide)] at i2 z2
  rw [ckR_k mk] at z2
  -- the model
  have hL1 : Lnd ld lv nf nd ng ne M1 := hLk.kCX st64 z3
  have m1 : ∀ c j, 411 ≤ c → c ≤ 432 → M1 c j = M c j := fun c j a b => (kCX_M st64 z3 c j a b).trans (mk c j a b)
  have m1b : ∀ c j, 384 ≤ c → c ≠ 390 → M1 c j = M c j := fun c j a b => by
    rw [z3.m (by unfold CX; rw [C0_M (by omega) b]; simp only [Bool.false_or, Bool.and_eq_false_iff, decide_eq_false_iff_not]; omega), y5 c j (by omega)]
  have hI1 : Inv M1 := by
    have := ((h.1.kSt t2).kCX st64 z3).inv
    exact this
  obtain ⟨Mc, x1, x2, x3, x4⟩ := m_copies hL1
  have hIc : Inv Mc := by
    obtain ⟨Mq, b1, b2⟩ := tf_Mod_copies hI1
    have := Option.some.inj (b1.symm.trans x1)
    subst this
    exact hI1.keep inv_MS1 b2
  have kc : Kl MS1 M1 zL Mc zL := by
    obtain ⟨Mq, b1, b2⟩ := tf_Mod_copies hI1
    have := Option.some.inj (b1.symm.trans x1)
    subst this
    exact b2
  have hr : ∀ k, k < 38 → Mc 437 k = M 436 k := fun k hk => by rw [x2 k hk, m1b 436 k (by omega) (by omega)]
  have hLc := hL1.kQ x4
  have mc : ∀ c j, 411 ≤ c → c ≤ 432 → Mc c j = M c j := fun c j a b => (mQ_M x4 c j a b).trans (m1 c j a b)
  have f2 : Eo mQ Mc (fl Mc 438 0 6 (potD Mc lv nf d)) := fun c j w => fl_out (by unfold mQ at w; omega)
  have g437 : ∀ k, fl Mc 438 0 6 (potD Mc lv nf d) 437 k = Mc 437 k := fun k => fl_out (by omega)
  have g54 : fl Mc 438 0 6 (potD Mc lv nf d) 401 54 = M 423 lv := by rw [fl_out (by omega), x3, m1 423 _ (by decide) (by decide)]
  have hst : F_Mod_isInStore (nI d) Mc = some (1, fl Mc 438 0 6 (potD Mc lv nf d)) := by
    rw [m_isInStore hLc hd, inB_k mc, inB_r hr nf h6, if_pos hb]
  have hIf : Inv (fl Mc 438 0 6 (potD Mc lv nf d)) := by
    obtain ⟨rq, Mq, b1, _, b2⟩ := tf_Mod_isInStore (p0 := nI d) hIc (by have := hL.nd5; rw [nI_toInt (by omega)]; omega)
    have := Option.some.inj (b1.symm.trans hst)
    injection this with b3 b4
    rw [← b4]
    exact hIc.keep inv_MS1 b2
  have kf : Kl MS1 Mc zL (fl Mc 438 0 6 (potD Mc lv nf d)) zL := by
    obtain ⟨rq, Mq, b1, _, b2⟩ := tf_Mod_isInStore (p0 := nI d) hIc (by have := hL.nd5; rw [nI_toInt (by omega)]; omega)
    have := Option.some.inj (b1.symm.trans hst)
    injection this with b3 b4
    rw [← b4]
    exact b2
  generalize hNf : fl Mc 438 0 6 (potD Mc lv nf d) = Nf at f2 g437 g54 hst hIf kf
  have hLf := hLc.kQ f2
  have mf : ∀ c j, 411 ≤ c → c ≤ 432 → Nf c j = M c j := fun c j a b => (mQ_M f2 c j a b).trans (mc c j a b)
  have hrf : ∀ k, k < 38 → Nf 437 k = M 436 k := fun k hk => (g437 k).trans (hr k hk)
  obtain ⟨N2, w1, w2, w3⟩ := m_cooks hIf hLf hd
  rw [g54, slS_k mf, slS_r h0 h6 hrf] at w1 w2
  have hw2 : ∀ k, k < 38 → N2 437 k = ckR M lv nf d (slS M lv nf (M 423 lv) (M 436) d) (M 436) k := fun k hk => by rw [w2 k hk, ckR_k mf]; exact ckR_r hrf k hk
  have kAll : Kl MS1 M1 zL N2 zL := (kc.trans kf).trans w3
  have hun : ∃ M2', F_Mod_records N2 = some M2' ∧ F_Mod_cook (nI d) M1 = some (moreI (slS M lv nf (M 423 lv) (M 436) d), M2') := by
    have u57 : N2 401 57 = nI u := by rw [kAll.m (show MS1 401 57 = false from rfl), m1b 401 57 (by omega) (by omega)]; exact p4
    obtain ⟨M2', v, sh, b1, _⟩ := s_records p1 u57
    refine ⟨M2', b1, ?_⟩
    have d3 : F_Mod_isDish (nI d) M1 = some 1 := by
      rcases m_isDish hL1 (nI d) with ⟨q1, _⟩ | ⟨d', _, _, _, q2⟩
      · rw [q1] at d1; cases d1
      · exact q2
    unfold F_Mod_cook
    rw [d3, bI_s, if_neg (by decide), x1, bI_s, hst, bI2_s, if_neg (by decide), w1, bI2_s, b1, bI_s]
  obtain ⟨M2', b1, b2⟩ := hun
  have j1 := Option.some.inj (e2.symm.trans b2)
  injection j1 with j2 j3
  subst j3
  have hSt := hS.done (D' := 60 * (q + 1)) (Q' := q + 1) (M1 := M1) (N := N2) (by omega) (by omega) t1 (fun c j a b => z3.m (St_fr a b)) (z2.mono (by omega) (by omega)) (fun c j a => kAll.m (sC_MS1 a)) hw2 b1
  obtain ⟨_, v, sh, rb1, rb2, rb3, rb4, rb5, rb6, rb7⟩ := s_records (M := N2) p1 (by rw [kAll.m (show MS1 401 57 = false from rfl), m1b 401 57 (by omega) (by omega)]; exact p4)
  have ib := Option.some.inj (b1.symm.trans rb1)
  rw [← ib] at rb7
  refine ⟨h.mk2 hL hg ?_ ?_ hSt, by rw [i2, j2]⟩
  · have v1 : VZ M1 := (h.2.1.kSt t2).kSt (z3.mono (CX_CSt st64))
    exact (v1.kM1 kAll).keep (fun c j w _ => rb7 c j (by unfold vaC at w; omega))
  · have := ld_le hL.la
    rw [rb7 ld 0 (by omega), kAll.m (gl_MS1 (by rw [show gl ld 0 = true from gl_La (x := 0) hL.la (by decide) (Or.inl (by decide))]; rfl)), ld0_St hL.la (z3.mono (CX_CSt st64)), ld0_St hL.la t2]
end GO
end PAR38
