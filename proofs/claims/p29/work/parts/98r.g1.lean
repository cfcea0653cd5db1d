section MG15x0
/-! what holds between calls, both halves -/
section PAR38
def Pst (D Q nf : Nat) (M : gM) : Prop := ∃ u nx, u ≤ 40 ∧ nx < 40 ∧ M 78 2 = nI u ∧ M 401 57 = nI u ∧ M 78 1 = nI nx ∧ ∀ i, i < u → St D Q nf (80 + 7 * ((nx + 40 - u + i) % 40)) (fun k => M 440 (38 * i + k)) M
def Slt (D Q nf : Nat) (M : gM) : Prop := ∀ s, s < 3 → M 445 s = 1 → St D Q nf (362 + 7 * s) (fun k => M 446 (38 * s + k)) M
def Sta (D Q nf : Nat) (M : gM) : Prop := St D Q nf 64 (M 436) M ∧ Pst D Q nf M ∧ Slt D Q nf M
def G1 (q ld : Nat) (M : gM) (L : gL) : Prop := G0 ld M L ∧ VZ M ∧ ∃ nf, nf ≤ 6 ∧ M ld 0 = nI nf ∧ Sta (60 * q) q nf M
section GO
variable {D Q D' Q' q ld lv nf nd ng ne : Nat} {M M' : gM} {L : gL} {r : Nat → Int32}
theorem Pst.mono (h : Pst D Q nf M) (hD : D ≤ D') (hQ : Q ≤ Q') : Pst D' Q' nf M := by
  obtain ⟨u, nx, h1, h2, h3, h4, h5, h6⟩ := h
  exact ⟨u, nx, h1, h2, h3, h4, h5, fun i hi => (h6 i hi).mono hD hQ⟩
theorem Slt.mono (h : Slt D Q nf M) (hD : D ≤ D') (hQ : Q ≤ Q') : Slt D' Q' nf M := fun s hs e => (h s hs e).mono hD hQ
theorem Sta.mono (h : Sta D Q nf M) (hD : D ≤ D') (hQ : Q ≤ Q') : Sta D' Q' nf M := ⟨h.1.mono hD hQ, h.2.1.mono hD hQ, h.2.2.mono hD hQ⟩
theorem Pst.keep (h : Pst D Q nf M) (e : ∀ c j, c = 78 ∨ (80 ≤ c ∧ c < 360) ∨ c = 440 ∨ (c = 401 ∧ j = 57) → M' c j = M c j) : Pst D Q nf M' := by
  obtain ⟨u, nx, h1, h2, h3, h4, h5, h6⟩ := h
  refine ⟨u, nx, h1, h2, by rw [e _ _ (by omega)]; exact h3, by rw [e _ _ (by omega)]; exact h4, by rw [e _ _ (by omega)]; exact h5, fun i hi => (h6 i hi).keep (fun c j a b => e c j ?_) (fun k hk => e 440 _ (by omega))⟩
  have := Nat.mod_lt (nx + 40 - u + i) (show 0 < 40 by decide)
  omega
theorem Slt.keep (h : Slt D Q nf M) (e : ∀ c j, (362 ≤ c ∧ c < 383) ∨ c = 446 ∨ (c = 445 ∧ j < 3) → M' c j = M c j) : Slt D Q nf M' := fun s hs e1 => (h s hs (by rw [← e 445 s (by omega)]; exact e1)).keep (fun c j a b => e c j (by omega)) (fun k hk => e 446 _ (by omega))
theorem Sta.keep (h : Sta D Q nf M) (e : ∀ c j, sC c j → M' c j = M c j) : Sta D Q nf M' := ⟨h.1.keep (fun c j a b => e c j (by unfold sC; omega)) (fun k hk => e 436 k (by unfold sC; omega)), h.2.1.keep (fun c j w => e c j (by unfold sC; omega)), h.2.2.keep (fun c j w => e c j (by unfold sC; omega))⟩
theorem G1.get (h : G1 q ld M L) : ∃ lv nf nd ng ne, Lnd ld lv nf nd ng ne M ∧ Sta (60 * q) q nf M := by
  obtain ⟨⟨hT, hld, hWc, hWm, hI, ⟨lv, hlv, h18, ⟨nf, nd, ng, ne, c, i, hC, hD, hL, hc, hi⟩⟩, h11, hTd, hSl⟩, hV, nf2, h6, hf, hS⟩ := h
  have e : nf2 = nf := by
    have e1 := hf.symm.trans hC.1.1
    have e2 := hC.1.2.2
    exact (nI_eq (by omega) (by omega)).mp e1
  subst e
  exact ⟨lv, nf2, nd, ng, ne, ⟨hld, hlv, h18, hC, hD, ⟨c, i, hL, hc, hi⟩, hV⟩, hS⟩
theorem sC_C1 {c j : Nat} (h : sC c j) : C1 c j = false := by
  unfold sC at h
  unfold C1
  rw [C0_M (by omega) (by omega)]
  simp only [Bool.false_or, Bool.or_eq_false_iff, Bool.and_eq_false_iff, beq_eq_false_iff_ne, decide_eq_false_iff_not, Bool.not_eq_false', beq_iff_eq]
  omega
theorem sC_MS1 {c j : Nat} (h : sC c j) : MS1 c j = false := by
  unfold sC at h
  simp only [MS1, MS0, Bool.or_eq_false_iff, Bool.and_eq_false_iff, beq_eq_false_iff_ne]
  omega
theorem va_MS1 {c j : Nat} (h : vaC c) : MS1 c j = false := by
  unfold vaC at h
  simp only [MS1, MS0, Bool.or_eq_false_iff, Bool.and_eq_false_iff, beq_eq_false_iff_ne]
  omega
theorem VZ.kC1 (h : VZ M) (k : Kl C1 M zL M' zL) : VZ M' := h.keep (fun c j _ w => k.m (vz_C1 w))
theorem VZ.kSt (h : VZ M) (k : Kl CSt M zL M' zL) : VZ M' := h.keep (fun c j _ w => k.m (vz_CSt w))
theorem VZ.kM1 (h : VZ M) (k : Kl MS1 M zL M' zL) : VZ M' := h.keep (fun c j w _ => k.m (va_MS1 w))
/-- a query keeps all -/
theorem G1.q2 {M1 M2 : gM} (h : G1 q ld M L) (hg : G0 ld M2 L) (k1 : Kl C1 M zL M1 zL) (k2 : Kl MS1 M1 zL M2 zL) : G1 (q + 1) ld M2 L := by
  obtain ⟨h0, hV, nf, h6, hf, hS⟩ := h
  refine ⟨hg, (hV.kC1 k1).kM1 k2, nf, h6, ?_, (hS.keep (fun c j w => by rw [k2.m (sC_MS1 w), k1.m (sC_C1 w)])).mono (by omega) (by omega)⟩
  have e : gl ld 0 = true := gl_La (x := 0) h0.la (by decide) (Or.inl (by decide))
  rw [k2.m (gl_MS1 (by rw [e]; rfl)), k1.m (gl_C1 (by rw [e]; rfl))]
  exact hf
theorem G1.up (h : G1 q ld M L) : G1 (q + 1) ld M L := h.q2 h.1 Kl.rf Kl.rf
theorem G1.fr {M2 : gM} (h : G1 q ld M L) (hg : G0 ld M2 L) (e : ∀ c j, sV c j → M2 c j = M c j) (ef : M2 ld 0 = M ld 0) : G1 (q + 1) ld M2 L := by
  obtain ⟨h0, hV, nf, h6, hf, hS⟩ := h
  exact ⟨hg, hV.keep (fun c j w _ => e c j (Or.inr (by unfold vaC at w; omega))), nf, h6, ef.trans hf, (hS.keep (fun c j w => e c j (Or.inl w))).mono (by omega) (by omega)⟩
/-- the past, one more -/
theorem c_keep {u nx : Nat} (hu : u ≤ 40) (hn : nx < 40) (h2 : M 78 2 = nI u) (h1 : M 78 1 = nI nx) : ∃ M', F_Past_keep 64 M = some M' ∧ ((∀ j, j < 4 → M' (80 + 7 * nx) j = M 64 j) ∧ (∀ j, j < 3 → M' (80 + 7 * nx + 1) j = M (64 + 1) j) ∧ (∀ j, j < 6 → M' (80 + 7 * nx + 2) j = M (64 + 2) j) ∧ (∀ j, j < 5 → M' (80 + 7 * nx + 3) j = M (64 + 3) j) ∧ (∀ j, j < 4 → M' (80 + 7 * nx + 4) j = M (64 + 4) j) ∧ (∀ j, j < 4 → M' (80 + 7 * nx + 5) j = M (64 + 5) j) ∧ (∀ j, j < 12 → M' (80 + 7 * nx + 6) j = M (64 + 6) j)) ∧ M' 78 1 = nI ((nx + 1) % 40) ∧ M' 78 2 = nI (if u = 40 then 40 else u + 1) ∧ Eo (fun c j => (80 + 7 * nx ≤ c ∧ c < 80 + 7 * nx + 7) ∨ (c = 78 ∧ (j = 1 ∨ j = 2))) M M' := by
  unfold F_Past_keep
  obtain ⟨M1, e1, a0, a1, a2, a3, a4, a5, a6, a7⟩ := s_copyFrom (X0 := 80 + 7 * nx) (X1 := 64) (M := M) (by omega)
  rw [h1, if_neg (nI_pos (by omega)), show (40 : Int32) = nI 40 from rfl, if_neg (by rw [nI_leI (by omega) (by omega)]; omega), if_neg (nI_in (by omega) (by omega)), if_neg (nI_in (by omega) (by omega)), nI_clamp (by omega), e1, bI_s]
  have g1 : M1 78 1 = nI nx := by rw [a7 78 1 (by omega)]; exact h1
  have g2 : M1 78 2 = nI u := by rw [a7 78 2 (by omega)]; exact h2
  have fin : ∀ v : Nat, v = (nx + 1) % 40 → ∃ M', J_Past_keep_67 64 (nI v) M1 = some M' ∧ ((∀ j, j < 4 → M' (80 + 7 * nx) j = M 64 j) ∧ (∀ j, j < 3 → M' (80 + 7 * nx + 1) j = M (64 + 1) j) ∧ (∀ j, j < 6 → M' (80 + 7 * nx + 2) j = M (64 + 2) j) ∧ (∀ j, j < 5 → M' (80 + 7 * nx + 3) j = M (64 + 3) j) ∧ (∀ j, j < 4 → M' (80 + 7 * nx + 4) j = M (64 + 4) j) ∧ (∀ j, j < 4 → M' (80 + 7 * nx + 5) j = M (64 + 5) j) ∧ (∀ j, j < 12 → M' (80 + 7 * nx + 6) j = M (64 + 6) j)) ∧ M' 78 1 = nI ((nx + 1) % 40) ∧ M' 78 2 = nI (if u = 40 then 40 else u + 1) ∧ Eo (fun c j => (80 + 7 * nx ≤ c ∧ c < 80 + 7 * nx + 7) ∨ (c = 78 ∧ (j = 1 ∨ j = 2))) M M' := fun v hv => by
    unfold J_Past_keep_67
    rw [nmM_e, uM_diff (by omega), g2, nI_1, nmM_e]
    have es : (if nI (u + 1) < 40 then nI (u + 1) else 40) = nI (if u = 40 then 40 else u + 1) := by
      by_cases w : u + 1 < 40
      · rw [if_pos (by rw [show (40 : Int32) = nI 40 from rfl, nI_ltI (by omega) (by omega)]; exact w), if_neg (by omega)]
      · rw [if_neg (by rw [show (40 : Int32) = nI 40 from rfl, nI_ltI (by omega) (by omega)]; exact w)]
        by_cases w2 : u = 40
        · rw [if_pos w2]; rfl
        · rw [if_neg w2, show u + 1 = 40 by omega]; rfl
    rw [es]
    refine ⟨_, rfl, ⟨fun j hj => ?_, fun j hj => ?_, fun j hj => ?_, fun j hj => ?_, fun j hj => ?_, fun j hj => ?_, fun j hj => ?_⟩, ?_, uM_same, fun c j w => ?_⟩
    · rw [uM_diff (by omega), uM_diff (by omega)]; exact a0 j hj
    · rw [uM_diff (by omega), uM_diff (by omega)]; exact a1 j hj
    · rw [uM_diff (by omega), uM_diff (by omega)]; exact a2 j hj
    · rw [uM_diff (by omega), uM_diff (by omega)]; exact a3 j hj
    · rw [uM_diff (by omega), uM_diff (by omega)]; exact a4 j hj
    · rw [uM_diff (by omega), uM_diff (by omega)]; exact a5 j hj
    · rw [uM_diff (by omega), uM_diff (by omega)]; exact a6 j hj
    · rw [uM_diff (by omega), uM_same, hv]
    · rw [uM_diff (by omega), uM_diff (by omega)]; exact a7 c j (by omega)
  rw [g1, nI_1]
  by_cases w : 40 ≤ nx + 1
  · rw [if_pos (by rw [nI_leI (by omega) (by omega)]; exact w)]
    exact fin 0 (by omega)
  · rw [if_neg (by rw [nI_leI (by omega) (by omega)]; exact w)]
    exact fin (nx + 1) (by omega)
/-- a thing is done: the past keeps how it was, the model's history too -/
theorem Sta.done {Mk M1 N M2 : gM} (hS : Sta D Q nf M) (hD : D ≤ D') (hQ : Q ≤ Q') (ek : F_Past_keep 64 M = some Mk) (k1 : ∀ c j, sC c j → ¬ (64 ≤ c ∧ c < 71) → M1 c j = Mk c j) (h1 : St D' Q' nf 64 r M1) (kN : ∀ c j, sC c j → N c j = M1 c j) (hN : ∀ k, k < 38 → N 437 k = r k) (er : F_Mod_records N = some M2) : Sta D' Q' nf M2 := by
  obtain ⟨hs, ⟨u, nx, p1, p2, p3, p4, p5, p6⟩, hl⟩ := hS
  obtain ⟨Mk', y1, ⟨y2, y3, y4, y5, y6, y7, y8⟩, y9, y10, y11⟩ := c_keep p1 p2 p3 p5
  have i1 := Option.some.inj (ek.symm.trans y1)
  subst i1
  have kM : ∀ c j, sC c j → ¬ (64 ≤ c ∧ c < 71) → ¬ (80 + 7 * nx ≤ c ∧ c < 80 + 7 * nx + 7) → ¬ (c = 78 ∧ (j = 1 ∨ j = 2)) → N c j = M c j := fun c j a b w1 w2 => by rw [kN c j a, k1 c j a b, y11 c j (by omega)]
  have e57 : N 401 57 = nI u := by rw [kM 401 57 (by unfold sC; omega) (by omega) (by omega) (by omega)]; exact p4
  obtain ⟨M2', v, sh, z1, z2, z3, z4, z5, z6, z7⟩ := s_records p1 e57
  have i2 := Option.some.inj (er.symm.trans z1)
  subst i2
  have zC : ∀ c j, c ≠ 436 → c ≠ 440 → ¬ (c = 401 ∧ j = 57) → M2 c j = N c j := fun c j a b w => z7 c j (by omega)
  refine ⟨h1.keep (fun c j a b => by rw [zC c j (by omega) (by omega) (by omega), kN c j (by unfold sC; omega)]) (fun k hk => by rw [z4 k hk, hN k hk]), ⟨v + 1, (nx + 1) % 40, by omega, Nat.mod_lt _ (by decide), ?_, z3, ?_, fun i hi => ?_⟩, ?_⟩
  · rw [zC 78 2 (by omega) (by omega) (by omega), kN 78 2 (by unfold sC; omega), k1 78 2 (by unfold sC; omega) (by omega), y10]
    rcases z2 with ⟨w1, w2, w3⟩ | ⟨w1, w2, w3⟩
    · rw [if_neg (by omega), w2]
    · rw [if_pos w1, w2]
  · rw [zC 78 1 (by omega) (by omega) (by omega), kN 78 1 (by unfold sC; omega), k1 78 1 (by unfold sC; omega) (by omega), y9]
  · by_cases w : i = v
    · -- how it was just now
      have ex : ((nx + 1) % 40 + 40 - (v + 1) + i) % 40 = nx := by omega
      have g : ∀ c j, 80 + 7 * nx ≤ c → c < 80 + 7 * nx + 7 → M2 c j = Mk c j := fun c j a b => by rw [zC c j (by omega) (by omega) (by omega), kN c j (by unfold sC; omega), k1 c j (by unfold sC; omega) (by omega)]
      rw [ex]
      refine hs.cp hD hQ (fun j hj => by rw [g _ j (by omega) (by omega)]; exact y2 j hj) (fun j hj => by rw [g _ j (by omega) (by omega)]; exact y3 j hj) (fun j hj => by rw [g _ j (by omega) (by omega)]; exact y4 j hj) (fun j hj => by rw [g _ j (by omega) (by omega)]; exact y5 j hj) (fun j hj => by rw [g _ j (by omega) (by omega)]; exact y6 j hj) (fun j hj => by rw [g _ j (by omega) (by omega)]; exact y7 j hj) (fun j hj => by rw [g _ j (by omega) (by omega)]; exact y8 j hj) (fun k hk => ?_)
      show M2 440 (38 * i + k) = M 436 k
      rw [w, z6 k hk, kM 436 k (by unfold sC; omega) (by omega) (by omega) (by omega)]
    · -- an older one
      have hiv : i < v := by omega
      obtain ⟨i0, hi0, ei⟩ : ∃ i0, i0 < u ∧ ((nx + 1) % 40 + 40 - (v + 1) + i) % 40 = (nx + 40 - u + i0) % 40 ∧ (38 * i + sh = 38 * i0) := by
        rcases z2 with ⟨w1, w2, w3⟩ | ⟨w1, w2, w3⟩
        · exact ⟨i, by omega, by omega, by omega⟩
        · exact ⟨i + 1, by omega, by omega, by omega⟩
      have hx : (nx + 40 - u + i0) % 40 ≠ nx := by omega
      have hx2 := Nat.mod_lt (nx + 40 - u + i0) (show 0 < 40 by decide)
      rw [ei.1]
      refine ((p6 i0 hi0).mono hD hQ).keep (fun c j a b => ?_) (fun k hk => ?_)
      · rw [zC c j (by omega) (by omega) (by omega), kM c j (by unfold sC; omega) (by omega) (by omega) (by omega)]
      · show M2 440 (38 * i + k) = M 440 (38 * i0 + k)
        rw [z5 (38 * i + k) (by omega), kM 440 _ (by unfold sC; omega) (by omega) (by omega) (by omega)]
        congr 1
        omega
  · exact (hl.mono hD hQ).keep (fun c j a => by rw [zC c j (by omega) (by omega) (by omega), kM c j (by unfold sC; omega) (by omega) (by omega) (by omega)])
theorem m_copies (h : Lnd ld lv nf nd ng ne M) : ∃ M', F_Mod_copies M = some M' ∧ (∀ k, k < 38 → M' 437 k = M 436 k) ∧ M' 401 54 = M 423 lv ∧ Eo mQ M M' := by
  have h1 := h.l1
  refine ⟨_, s_copies h.l18 (by omega), fun k hk => ?_, uM_same, fun c j w => ?_⟩
  · rw [uM_diff (by omega), fl_in (by omega), Nat.sub_zero]
  · unfold mQ at w
    rw [uM_diff (by omega), fl_out (by omega)]
theorem m_isDish (h : Lnd ld lv nf nd ng ne M) (a : Int32) : (F_Main_isOne a (nI nd) = some 0 ∧ F_Mod_isDish a M = some 0) ∨ ∃ d, d < nd ∧ a = nI d ∧ F_Main_isOne a (nI nd) = some 1 ∧ F_Mod_isDish a M = some 1 := by
  have h1 := h.l1
  have h5 := h.nd5
  unfold F_Mod_isDish
  rw [h.l18, if_neg (nI_in (by omega) (by omega)), nI_clamp (by omega), h.md]
  rcases one_c2 a (n := nd) (by omega) with ⟨x, y⟩ | ⟨d, hd, e, x, y⟩
  · rw [y, bI_s, if_pos (Or.inl rfl)]; exact Or.inl ⟨x, rfl⟩
  · rw [y, bI_s, if_pos (Or.inr rfl)]; exact Or.inr ⟨d, hd, e, x, rfl⟩
theorem m_isFood (h : Lnd ld lv nf nd ng ne M) (a : Int32) : (F_Main_isOne a (nI nf) = some 0 ∧ F_Mod_isFood a M = some 0) ∨ ∃ d, d < nf ∧ a = nI d ∧ F_Main_isOne a (nI nf) = some 1 ∧ F_Mod_isFood a M = some 1 := by
  have h1 := h.l1
  have h5 := h.nf6
  unfold F_Mod_isFood
  rw [h.l18, if_neg (nI_in (by omega) (by omega)), nI_clamp (by omega), h.mf]
  rcases one_c2 a (n := nf) (by omega) with ⟨x, y⟩ | ⟨d, hd, e, x, y⟩
  · rw [y, bI_s, if_pos (Or.inl rfl)]; exact Or.inl ⟨x, rfl⟩
  · rw [y, bI_s, if_pos (Or.inr rfl)]; exact Or.inr ⟨d, hd, e, x, rfl⟩
theorem m_isGuest (h : Lnd ld lv nf nd ng ne M) (a : Int32) : (F_Main_isOne a (nI ng) = some 0 ∧ F_Mod_isGuest a M = some 0) ∨ ∃ d, d < ng ∧ a = nI d ∧ F_Main_isOne a (nI ng) = some 1 ∧ F_Mod_isGuest a M = some 1 := by
  have h1 := h.l1
  have h5 := h.ng4
  unfold F_Mod_isGuest
  rw [h.l18, if_neg (nI_in (by omega) (by omega)), nI_clamp (by omega), h.mg]
  rcases one_c2 a (n := ng) (by omega) with ⟨x, y⟩ | ⟨d, hd, e, x, y⟩
  · rw [y, bI_s, if_pos (Or.inl rfl)]; exact Or.inl ⟨x, rfl⟩
  · rw [y, bI_s, if_pos (Or.inr rfl)]; exact Or.inr ⟨d, hd, e, x, rfl⟩
theorem m_isDeed (h : Lnd ld lv nf nd ng ne M) (a : Int32) : (F_Main_isOne a (nI ne) = some 0 ∧ F_Mod_isDeed a M = some 0) ∨ ∃ d, d < ne ∧ a = nI d ∧ F_Main_isOne a (nI ne) = some 1 ∧ F_Mod_isDeed a M = some 1 := by
  have h1 := h.l1
  have h5 := h.ne6
  unfold F_Mod_isDeed
  rw [h.l18, if_neg (nI_in (by omega) (by omega)), nI_clamp (by omega), h.me]
  rcases one_c2 a (n := ne) (by omega) with ⟨x, y⟩ | ⟨d, hd, e, x, y⟩
  · rw [y, bI_s, if_pos (Or.inl rfl)]; exact Or.inl ⟨x, rfl⟩
  · rw [y, bI_s, if_pos (Or.inr rfl)]; exact Or.inr ⟨d, hd, e, x, rfl⟩
theorem inB_r {r' : Nat → Int32} {d : Nat} (e : ∀ k, k < 38 → r' k = r k) : ∀ n, n ≤ 6 → inB M lv d r' n = inB M lv d r n
  | 0, _ => rfl
  | n + 1, hn => by unfold inB; rw [inB_r e n (by omega), e n (by omega)]
theorem slS_r {r' : Nat → Int32} {d : Nat} {seed : Int32} (h0 : 0 < nf) (h6 : nf ≤ 6) (e : ∀ k, k < 38 → r' k = r k) : slS M lv nf seed r' d = slS M lv nf seed r d := by
  obtain ⟨x, hx, ex⟩ := lotS_r (n := nf) (seed := seed) (which := 8 * r 37 + 1) h0 (by omega)
  unfold slS
  rw [e 37 (by omega), e 35 (by omega), ex, nI_tn (by omega), e x (by omega)]
theorem ckR_r {r' : Nat → Int32} {d : Nat} {sl : Option Nat} (e : ∀ k, k < 38 → r' k = r k) : ∀ k, k < 38 → ckR M lv nf d sl r' k = ckR M lv nf d sl r k := fun k hk => by
  unfold ckR
  rw [e k hk, e 35 (by omega), e 36 (by omega), e 37 (by omega)]
theorem ckR_k (e : ∀ c j, 411 ≤ c → c ≤ 432 → M' c j = M c j) {d : Nat} {sl : Option Nat} : ckR M' lv nf d sl r = ckR M lv nf d sl r := by
  funext k
  unfold ckR
  rw [e 417 _ (by decide) (by decide), disS_k e, priS_k e]
/-- of a step: what G1 wants behind it -/
theorem G1.mk2 {M2 : gM} (h : G1 q ld M L) (hL : Lnd ld lv nf nd ng ne M) (hg : G0 ld M2 L) (hV : VZ M2) (ef : M2 ld 0 = M ld 0) (hS : Sta (60 * (q + 1)) (q + 1) nf M2) : G1 (q + 1) ld M2 L := ⟨hg, hV, nf, hL.nf6, ef.trans hL.cf, hS⟩
theorem ld0_St (hld : isLa ld) (k : Kl CSt M zL M' zL) : M' ld 0 = M ld 0 := k.m (gl_CSt (by rw [show gl ld 0 = true from gl_La (x := 0) hld (by decide) (Or.inl (by decide))]; rfl))
theorem ld0_C0 (hld : isLa ld) (k : Kl C0 M zL M' zL) : M' ld 0 = M ld 0 := k.m (gl_C0 (by rw [show gl ld 0 = true from gl_La (x := 0) hld (by decide) (Or.inl (by decide))]; rfl))
theorem ld_le (hld : isLa ld) : ld ≤ 38 := by rcases La_cases hld with e | e <;> omega
theorem St_fr {c j : Nat} (h : sC c j) (h2 : ¬ (64 ≤ c ∧ c < 71)) : CX 64 c j = false := by
  unfold sC at h
  unfold CX
  rw [C0_M (by omega) (by omega)]
  simp only [Bool.false_or, Bool.and_eq_false_iff, decide_eq_false_iff_not]
  omega
theorem v_cook (h : G1 q ld M L) (hq : q < 512) (a : Int32) : ∃ r M1 r' M2, F_Main_cook ld a M = some (r, M1) ∧ F_Mod_cook a M1 = some (r', M2) ∧ G1 (q + 1) ld M2 L ∧ r = r' := by
  obtain ⟨r, M1, r', M2, e1, e2, hg⟩ := g_cook h.1 a
  obtain ⟨lv, nf, nd, ng, ne, hL, hS⟩ := h.get
  have h6 := hL.nf6
  refine ⟨r, M1, r', M2, e1, e2, ?_⟩
  rcases m_isDish hL a with ⟨d1, d2⟩ | ⟨d, hd, rfl, d1, d2⟩
  · have c1 : F_Main_cook ld a M = some (-1, M) := by unfold F_Main_cook; rw [hL.cd, d1, bI_s, if_pos rfl]
    have i1 := Option.some.inj (e1.symm.trans c1)
    injection i1 with i2 i3
    subst i3
    have c2 : F_Mod_cook a M1 = some (-1, M1) := by unfold F_Mod_cook; rw [d2, bI_s, if_pos rfl]
    have j1 := Option.some.inj (e2.symm.trans c2)
    injection j1 with j2 j3
    subst j3
    exact ⟨h.up, by rw [i2, j2]⟩
  have h0 := hL.some_ (by omega)
  by_cases hb : inB M lv d (M 436) nf = true
  rotate_left
  · have c1 : F_Main_cook ld (nI d) M = some (-3, M) := by
      unfold F_Main_cook
      rw [hL.cd, d1, bI_s, if_neg (by decide), c_inStore hL hS.1 hd, bI_s, if_neg hb, if_pos rfl]
    have i1 := Option.some.inj (e1.symm.trans c1)
    injection i1 with i2 i3
    subst i3
    obtain ⟨Mc, x1, x2, x3, x4⟩ := m_copies hL
    have c2 : F_Mod_cook (nI d) M1 = some (-3, fl Mc 438 0 6 (potD Mc lv nf d)) := by
      unfold F_Mod_cook
      rw [d2, bI_s, if_neg (by decide), x1, bI_s, m_isInStore (hL.kQ x4) hd, bI2_s, inB_k (mQ_M x4), inB_r x2 nf h6, if_neg hb, if_pos rfl]
    have j1 := Option.some.inj (e2.symm.trans c2)
    injection j1 with j2 j3
    have eQ : Eo mQ M1 M2 := fun c j w => by
      have w2 := w
      unfold mQ at w2
      rw [j3, fl_out (by omega), x4 c j w]
    refine ⟨h.fr hg (fun c j w => eQ c j (by have := sV_n w; unfold mQ; omega)) (eQ ld 0 (by have := ld_le hL.la; unfold mQ; omega)), by rw [i2, j2]⟩
  -- it is cooked
  obtain ⟨u, nx, p1, p2, p3, p4, p5, p6⟩ := id hS.2.1
  obtain ⟨Mk, y1, y2, y3, y4, y5⟩ := c_keep p1 p2 p3 p5
  obtain ⟨Mk', t1, t2⟩ := tf_Past_keep (M := M)
  have it := Option.some.inj (t1.symm.trans y1)
  subst it
  have hLk : Lnd ld lv nf nd ng ne Mk' := hL.keep (fun c j w => t2.m (gv_CSt w))
  have mk : ∀ c j, 411 ≤ c → c ≤ 432 → Mk' c j = M c j := fun c j a b => y5 c j (by omega)
  have hSk : St (60 * q) q nf 64 (M 436) Mk' := hS.1.keep (fun c j a b => y5 c j (by omega)) (fun _ _ => rfl)
  obtain ⟨M1', z1, z2, z3⟩ := c_cookOne hLk hSk st64 hd (by rw [inB_k mk]; exact hb)
  have c1 : F_Main_cook ld (nI d) M = some (moreI (slS Mk' lv nf (Mk' 423 lv) (M 436) d), M1') := by
    unfold F_Main_cook
    rw [hL.cd, d1, bI_s, if_neg (by decide), c_inStore hL hS.1 hd, bI_s, if_pos hb, if_neg (by decide), t1, bI_s, z1, bI2_s]
  have i1 := Option.some.inj (e1.symm.trans c1)
  injection i1 with i2 i3
  subst i3
  rw [slS_k mk, mk 423 _ (by decide) (by decide)] at i2 z2
  rw [ckR_k mk] at z2
  -- the model
  have hL1 : Lnd ld lv nf nd ng ne M1 := hLk.kCX st64 z3
  have m1 : ∀ c j, 411 ≤ c → c ≤ 432 → M1 c j = M c j := fun c j a b => (kCX_M st64 z3 c j a b).trans (mk c j a b)
  have m1b : ∀ c j, 384 ≤ c → c ≠ 390 → M1 c j = M c j := fun c j a b => by
    rw [z3.m (by unfold CX; rw [C0_M (by omega) b]; simp only [Bool.false_or, Bool.and_eq_false_iff, decide_eq_false_iff_not]; omega), y5 c j (by omega)]
  have hI1 : Inv M1 := by
    have := ((h.1.kSt t2).kCX st64 z3).inv
    exact this
  obtain ⟨Mc, x1, x2, x3, x4⟩ := m_copies hL1
  have hIc : Inv Mc := by
    obtain ⟨Mq, b1, b2⟩ := tf_Mod_copies hI1
    have := Option.some.inj (b1.symm.trans x1)
    subst this
    exact hI1.keep inv_MS1 b2
  have kc : Kl MS1 M1 zL Mc zL := by
    obtain ⟨Mq, b1, b2⟩ := tf_Mod_copies hI1
    have := Option.some.inj (b1.symm.trans x1)
    subst this
    exact b2
  have hr : ∀ k, k < 38 → Mc 437 k = M 436 k := fun k hk => by rw [x2 k hk, m1b 436 k (by omega) (by omega)]
  have hLc := hL1.kQ x4
  have mc : ∀ c j, 411 ≤ c → c ≤ 432 → Mc c j = M c j := fun c j a b => (mQ_M x4 c j a b).trans (m1 c j a b)
  have f2 : Eo mQ Mc (fl Mc 438 0 6 (potD Mc lv nf d)) := fun c j w => fl_out (by unfold mQ at w; omega)
  have g437 : ∀ k, fl Mc 438 0 6 (potD Mc lv nf d) 437 k = Mc 437 k := fun k => fl_out (by omega)
  have g54 : fl Mc 438 0 6 (potD Mc lv nf d) 401 54 = M 423 lv := by rw [fl_out (by omega), x3, m1 423 _ (by decide) (by decide)]
  have hst : F_Mod_isInStore (nI d) Mc = some (1, fl Mc 438 0 6 (potD Mc lv nf d)) := by
    rw [m_isInStore hLc hd, inB_k mc, inB_r hr nf h6, if_pos hb]
  have hIf : Inv (fl Mc 438 0 6 (potD Mc lv nf d)) := by
    obtain ⟨rq, Mq, b1, _, b2⟩ := tf_Mod_isInStore (p0 := nI d) hIc (by have := hL.nd5; rw [nI_toInt (by omega)]; omega)
    have := Option.some.inj (b1.symm.trans hst)
    injection this with b3 b4
    rw [← b4]
    exact hIc.keep inv_MS1 b2
  have kf : Kl MS1 Mc zL (fl Mc 438 0 6 (potD Mc lv nf d)) zL := by
    obtain ⟨rq, Mq, b1, _, b2⟩ := tf_Mod_isInStore (p0 := nI d) hIc (by have := hL.nd5; rw [nI_toInt (by omega)]; omega)
    have := Option.some.inj (b1.symm.trans hst)
    injection this with b3 b4
    rw [← b4]
    exact b2
  generalize hNf : fl Mc 438 0 6 (potD Mc lv nf d) = Nf at f2 g437 g54 hst hIf kf
  have hLf := hLc.kQ f2
  have mf : ∀ c j, 411 ≤ c → c ≤ 432 → Nf c j = M c j := fun c j a b => (mQ_M f2 c j a b).trans (mc c j a b)
  have hrf : ∀ k, k < 38 → Nf 437 k = M 436 k := fun k hk => (g437 k).trans (hr k hk)
  obtain ⟨N2, w1, w2, w3⟩ := m_cooks hIf hLf hd
  rw [g54, slS_k mf, slS_r h0 h6 hrf] at w1 w2
  have hw2 : ∀ k, k < 38 → N2 437 k = ckR M lv nf d (slS M lv nf (M 423 lv) (M 436) d) (M 436) k := fun k hk => by rw [w2 k hk, ckR_k mf]; exact ckR_r hrf k hk
  have kAll : Kl MS1 M1 zL N2 zL := (kc.trans kf).trans w3
  have hun : ∃ M2', F_Mod_records N2 = some M2' ∧ F_Mod_cook (nI d) M1 = some (moreI (slS M lv nf (M 423 lv) (M 436) d), M2') := by
    have u57 : N2 401 57 = nI u := by rw [kAll.m (show MS1 401 57 = false from rfl), m1b 401 57 (by omega) (by omega)]; exact p4
    obtain ⟨M2', v, sh, b1, _⟩ := s_records p1 u57
    refine ⟨M2', b1, ?_⟩
    have d3 : F_Mod_isDish (nI d) M1 = some 1 := by
      rcases m_isDish hL1 (nI d) with ⟨q1, _⟩ | ⟨d', _, _, _, q2⟩
      · rw [q1] at d1; cases d1
      · exact q2
    unfold F_Mod_cook
    rw [d3, bI_s, if_neg (by decide), x1, bI_s, hst, bI2_s, if_neg (by decide), w1, bI2_s, b1, bI_s]
  obtain ⟨M2', b1, b2⟩ := hun
  have j1 := Option.some.inj (e2.symm.trans b2)
  injection j1 with j2 j3
  subst j3
  have hSt := hS.done (D' := 60 * (q + 1)) (Q' := q + 1) (M1 := M1) (N := N2) (by omega) (by omega) t1 (fun c j a b => z3.m (St_fr a b)) (z2.mono (by omega) (by omega)) (fun c j a => kAll.m (sC_MS1 a)) hw2 b1
  obtain ⟨_, v, sh, rb1, rb2, rb3, rb4, rb5, rb6, rb7⟩ := s_records (M := N2) p1 (by rw [kAll.m (show MS1 401 57 = false from rfl), m1b 401 57 (by omega) (by omega)]; exact p4)
  have ib := Option.some.inj (b1.symm.trans rb1)
  rw [← ib] at rb7
  refine ⟨h.mk2 hL hg ?_ ?_ hSt, by rw [i2, j2]⟩
  · have v1 : VZ M1 := (h.2.1.kSt t2).kSt (z3.mono (CX_CSt st64))
    exact (v1.kM1 kAll).keep (fun c j w _ => rb7 c j (by unfold vaC at w; omega))
  · have := ld_le hL.la
    rw [rb7 ld 0 (by omega), kAll.m (gl_MS1 (by rw [show gl ld 0 = true from gl_La (x := 0) hL.la (by decide) (Or.inl (by decide))]; rfl)), ld0_St hL.la (z3.mono (CX_CSt st64)), ld0_St hL.la t2]
end GO
end PAR38
end MG15x0
section MG15x1
/-! the things done, with both halves -/
section PAR39
section SD
variable {D Q D' Q' q ld lv nf nd ng ne : Nat} {M M' : gM} {L : gL} {r : Nat → Int32}
theorem St.d0 {X : Nat} (h : St D Q nf X r M) : M X 0 = r 35 := by
  obtain ⟨⟨day, d1, d2, d3, d4⟩, _⟩ := h
  rw [d2, d3]
/-- the class keeps how it was, then changes its state alone -/
theorem G1.kept (h : G1 q ld M L) (hL : Lnd ld lv nf nd ng ne M) (hS : Sta D Q nf M) : ∃ Mk, F_Past_keep 64 M = some Mk ∧ Kl CSt M zL Mk zL ∧ Lnd ld lv nf nd ng ne Mk ∧ (∀ c j, 411 ≤ c → c ≤ 432 → Mk c j = M c j) ∧ St D Q nf 64 (M 436) Mk ∧ (∀ c j, 384 ≤ c → Mk c j = M c j) := by
  obtain ⟨u, nx, p1, p2, p3, p4, p5, p6⟩ := id hS.2.1
  obtain ⟨Mk, y1, y2, y3, y4, y5⟩ := c_keep p1 p2 p3 p5
  obtain ⟨Mk', t1, t2⟩ := tf_Past_keep (M := M)
  have it := Option.some.inj (t1.symm.trans y1)
  subst it
  exact ⟨Mk', t1, t2, hL.keep (fun c j w => t2.m (gv_CSt w)), fun c j a b => y5 c j (by omega), hS.1.keep (fun c j a b => y5 c j (by omega)) (fun _ _ => rfl), fun c j a => y5 c j (by omega)⟩
theorem cx_hi {c j : Nat} (a : 384 ≤ c) (b : c ≠ 390) : CX 64 c j = false := by
  unfold CX
  rw [C0_M (by omega) b]
  simp only [Bool.false_or, Bool.and_eq_false_iff, decide_eq_false_iff_not]
  omega
theorem mQ_ld (hld : isLa ld) {N N' : gM} (e : Eo mQ N N') : N' ld 0 = N ld 0 := e ld 0 (by have := ld_le hld; unfold mQ; omega)
/-- what records changes -/
theorem rec_fr {N M2 : gM} {u : Nat} (hu : u ≤ 40) (h57 : N 401 57 = nI u) (er : F_Mod_records N = some M2) : (∀ k, k < 38 → M2 436 k = N 437 k) ∧ Eo (fun c j => c = 436 ∨ c = 440 ∨ (c = 401 ∧ j = 57)) N M2 := by
  obtain ⟨M', v, sh, z1, z2, z3, z4, z5, z6, z7⟩ := s_records hu h57
  have := Option.some.inj (er.symm.trans z1)
  subst this
  exact ⟨z4, z7⟩
theorem v_days (h : G1 q ld M L) (hq : q < 512) (a : Int32) : ∃ r M1 r' M2, F_Main_days ld a M = some (r, M1) ∧ F_Mod_days a M1 = some (r', M2) ∧ G1 (q + 1) ld M2 L ∧ r = r' := by
  obtain ⟨r, M1, r', M2, e1, e2, hg⟩ := g_days h.1 a
  obtain ⟨lv, nf, nd, ng, ne, hL, hS⟩ := h.get
  refine ⟨r, M1, r', M2, e1, e2, ?_⟩
  rcases in_cases a (a := 0) (b := 60) (by decide) (by decide) with ⟨w1, w2⟩ | ⟨n, _, hn, rfl, w1⟩
  · have c1 : F_Main_days ld a M = some (-1, M) := by
      unfold F_Main_days
      by_cases h0 : a < 0
      · rw [if_pos h0]
      · rw [if_neg h0, if_neg]
        intro h1
        obtain ⟨k, hk, rfl⟩ := nI_of h0
        rw [show (60 : Int32) = nI 60 from rfl, nI_leI (by omega) (by omega)] at h1
        exact w2 ⟨k, by omega, h1, rfl⟩
    have i1 := Option.some.inj (e1.symm.trans c1)
    injection i1 with i2 i3
    subst i3
    have c2 : F_Mod_days a M1 = some (-1, M1) := by unfold F_Mod_days; rw [show F_Mod_in a 0 60 = some 0 from w1, bI_s, if_pos rfl]
    have j1 := Option.some.inj (e2.symm.trans c2)
    injection j1 with j2 j3
    subst j3
    exact ⟨h.up, by rw [i2, j2]⟩
  have hp : ¬ nI n < 0 := nI_pos (by omega)
  have h60 : nI n ≤ 60 := by rw [show (60 : Int32) = nI 60 from rfl, nI_leI (by omega) (by omega)]; exact hn
  by_cases hz : n = 0
  · subst hz
    have c1 : F_Main_days ld (nI 0) M = some (M 64 0, M) := by unfold F_Main_days; rw [if_neg hp, if_pos h60, if_pos (by decide)]
    have i1 := Option.some.inj (e1.symm.trans c1)
    injection i1 with i2 i3
    subst i3
    have c2 : F_Mod_days (nI 0) M1 = some (M1 436 35, M1) := by unfold F_Mod_days; rw [show F_Mod_in (nI 0) 0 60 = some 1 from w1, bI_s, if_neg (by decide), if_pos (show nI 0 = 0 from rfl)]
    have j1 := Option.some.inj (e2.symm.trans c2)
    injection j1 with j2 j3
    subst j3
    exact ⟨h.up, by rw [i2, j2]; exact hS.1.d0⟩
  obtain ⟨Mk, t1, t2, hLk, mk, hSk, mhi⟩ := h.kept hL hS
  obtain ⟨M1', z1, z2, z3⟩ := c_passDays hLk st64 hSk (n := n) (by omega)
  have c1 : F_Main_days ld (nI n) M = some (M1' 64 0, M1') := by
    unfold F_Main_days
    rw [if_neg hp, if_pos h60, if_neg (nI_nle (by omega) (by omega)), t1, bI_s, z1, bI_s]
  have i1 := Option.some.inj (e1.symm.trans c1)
  injection i1 with i2 i3
  subst i3
  have hdk : dyI Mk lv nf n (M 436) = dyI M lv nf n (M 436) := by
    have : ∀ n r, dyI Mk lv nf n r = dyI M lv nf n r := fun n => by
      induction n with
      | zero => intro r; rfl
      | succ n ih => intro r; show dyI Mk lv nf n (dyR Mk lv nf r) = dyI M lv nf n (dyR M lv nf r); rw [dyR_k mk, ih]
    exact this n _
  rw [hdk] at z2
  have hL1 : Lnd ld lv nf nd ng ne M1 := hLk.kCX st64 z3
  have m1 : ∀ c j, 411 ≤ c → c ≤ 432 → M1 c j = M c j := fun c j a b => (kCX_M st64 z3 c j a b).trans (mk c j a b)
  have m1b : ∀ c j, 384 ≤ c → c ≠ 390 → M1 c j = M c j := fun c j a b => (z3.m (cx_hi a b)).trans (mhi c j a)
  obtain ⟨Mc, x1, x2, x3, x4⟩ := m_copies hL1
  obtain ⟨N, y1, y2, y3⟩ := m_goes (hL1.kQ x4) (n := n) (by omega)
  have hr : ∀ k, k < 38 → Mc 437 k = M 436 k := fun k hk => by rw [x2 k hk, m1b 436 k (by omega) (by omega)]
  have mc : ∀ c j, 411 ≤ c → c ≤ 432 → Mc c j = M c j := fun c j a b => (mQ_M x4 c j a b).trans (m1 c j a b)
  have hdc : ∀ n r, dyI Mc lv nf n r = dyI M lv nf n r := fun n => by
    induction n with
    | zero => intro r; rfl
    | succ n ih => intro r; show dyI Mc lv nf n (dyR Mc lv nf r) = dyI M lv nf n (dyR M lv nf r); rw [dyR_k mc, ih]
  have hN : ∀ k, k < 38 → N 437 k = dyI M lv nf n (M 436) k := fun k hk => by rw [y2 k hk, hdc]; exact dyI_r hL.nf6 n _ _ hr k hk
  have eQ := x4.tr y3
  obtain ⟨u, nx, p1, p2, p3, p4, p5, p6⟩ := id hS.2.1
  have u57 : N 401 57 = nI u := by rw [eQ 401 57 (by unfold mQ; omega), m1b 401 57 (by omega) (by omega)]; exact p4
  obtain ⟨M2', v, sh, b1, _⟩ := s_records p1 u57
  obtain ⟨rf1, rf2⟩ := rec_fr p1 u57 b1
  have c2 : F_Mod_days (nI n) M1 = some (M2' 436 35, M2') := by
    unfold F_Mod_days
    rw [show F_Mod_in (nI n) 0 60 = some 1 from w1, bI_s, if_neg (by decide), if_neg (nI_ne0 (by omega) (by omega)), x1, bI_s, y1, bI_s, b1, bI_s]
  have j1 := Option.some.inj (e2.symm.trans c2)
  injection j1 with j2 j3
  subst j3
  have hSt := hS.done (D' := 60 * (q + 1)) (Q' := q + 1) (M1 := M1) (N := N) (by omega) (by omega) t1 (fun c j a b => z3.m (St_fr a b)) (z2.mono (by omega) (by omega)) (fun c j a => eQ c j (by unfold sC at a; unfold mQ; omega)) hN b1
  refine ⟨h.mk2 hL hg ?_ ?_ hSt, ?_⟩
  · have v1 : VZ M1 := (h.2.1.kSt t2).kSt (z3.mono (CX_CSt st64))
    exact v1.keep (fun c j w _ => by rw [rf2 c j (by unfold vaC at w; omega), eQ c j (by unfold vaC at w; unfold mQ; omega)])
  · have := ld_le hL.la
    rw [rf2 ld 0 (by omega), mQ_ld hL.la eQ, ld0_St hL.la (z3.mono (CX_CSt st64)), ld0_St hL.la t2]
  · rw [i2, j2, rf1 35 (by omega), hN 35 (by omega)]
    exact z2.d0
theorem bowS_r {r' : Nat → Int32} {g j : Nat} {a : Int32} (hg : g < 4) (hj : j < 3) (e : ∀ k, k < 38 → r' k = r k) : bowS M lv r' g j a = bowS M lv r g j a := by
  unfold bowS
  rw [e (15 + g) (by omega), e (19 + 3 * g + j) (by omega), e 35 (by omega)]
theorem v_eat (h : G1 q ld M L) (hq : q < 512) (a : Int32) : ∃ r M1 r' M2, F_Main_eat ld a M = some (r, M1) ∧ F_Mod_eat a M1 = some (r', M2) ∧ G1 (q + 1) ld M2 L ∧ r = r' := by
  obtain ⟨r, M1, r', M2, e1, e2, hg0⟩ := g_eat h.1 a
  obtain ⟨lv, nf, nd, ng, ne, hL, hS⟩ := h.get
  refine ⟨r, M1, r', M2, e1, e2, ?_⟩
  rcases m_isGuest hL a with ⟨d1, d2⟩ | ⟨g, hg, rfl, d1, d2⟩
  · have c1 : F_Main_eat ld a M = some (-1, M) := by unfold F_Main_eat; rw [hL.cg, d1, bI_s, if_pos rfl]
    have i1 := Option.some.inj (e1.symm.trans c1)
    injection i1 with i2 i3
    subst i3
    have c2 : F_Mod_eat a M1 = some (-1, M1) := by unfold F_Mod_eat; rw [d2, bI_s, if_pos rfl]
    have j1 := Option.some.inj (e2.symm.trans c2)
    injection j1 with j2 j3
    subst j3
    exact ⟨h.up, by rw [i2, j2]⟩
  have hg4 := hL.ng4
  have s11 : M 64 3 = M 436 11 := hS.1.2.2.2.1
  by_cases hs : 0 ≤ M 64 3
  rotate_left
  · have c1 : F_Main_eat ld (nI g) M = some (-2, M) := by unfold F_Main_eat; rw [hL.cg, d1, bI_s, if_neg (by decide), if_neg hs]
    have i1 := Option.some.inj (e1.symm.trans c1)
    injection i1 with i2 i3
    subst i3
    obtain ⟨Mc, x1, x2, x3, x4⟩ := m_copies hL
    have c2 : F_Mod_eat (nI g) M1 = some (-2, Mc) := by unfold F_Mod_eat; rw [d2, bI_s, if_neg (by decide), x1, bI_s, x2 11 (by omega), ← s11, if_neg hs]
    have j1 := Option.some.inj (e2.symm.trans c2)
    injection j1 with j2 j3
    subst j3
    exact ⟨h.fr hg0 (fun c j w => x4 c j (by have := sV_n w; unfold mQ; omega)) (mQ_ld hL.la x4), by rw [i2, j2]⟩
  obtain ⟨Mk, t1, t2, hLk, mk, hSk, mhi⟩ := h.kept hL hS
  obtain ⟨Me, z1, z2, z3⟩ := c_eatServed hSk st64 (g := g) (by omega)
  have hLe := hLk.kCX st64 z3
  obtain ⟨M1', f1, f2⟩ := c_freeOf hLe z2 st64 (by omega) (by omega) (g := g) (ahead := 0) hg
  have c1 : F_Main_eat ld (nI g) M = some (frS Me lv (fun j => bowS Me lv (eaR (M 436) g) g j 0) ne, M1') := by
    unfold F_Main_eat
    rw [hL.cg, d1, bI_s, if_neg (by decide), if_pos hs, t1, bI_s, z1, bI_s, f1, bI2_s]
  have i1 := Option.some.inj (e1.symm.trans c1)
  injection i1 with i2 i3
  subst i3
  have hL1 := hLe.k0 f2
  have me : ∀ c j, 411 ≤ c → c ≤ 432 → Me c j = M c j := fun c j a b => (kCX_M st64 z3 c j a b).trans (mk c j a b)
  have m1 : ∀ c j, 411 ≤ c → c ≤ 432 → M1 c j = M c j := fun c j a b => (k0_M f2 c j a b).trans (me c j a b)
  have m1b : ∀ c j, 384 ≤ c → c ≠ 390 → M1 c j = M c j := fun c j a b => by rw [f2.m (C0_M (by omega) b), z3.m (cx_hi a b)]; exact mhi c j a
  have z2b : St (60 * q) (q + 1) nf 64 (eaR (M 436) g) M1 := z2.k0 st64 f2
  obtain ⟨Mc, x1, x2, x3, x4⟩ := m_copies hL1
  have hr : ∀ k, k < 38 → Mc 437 k = M 436 k := fun k hk => by rw [x2 k hk, m1b 436 k (by omega) (by omega)]
  -- the model's row
  obtain ⟨N, n1, n2, n3⟩ : ∃ N, (∀ M5, F_Mod_records N = some M5 → F_Mod_eat (nI g) M1 = bI2 (F_Mod_freeBits (nI g) M5) (fun r16 M17 => some (r16, M17))) ∧ (∀ k, k < 38 → N 437 k = eaR (M 436) g k) ∧ Eo mQ M1 N := by
    refine ⟨uM (fl (uM Mc 437 (15 + g) (Mc 437 35)) 437 (19 + 3 * g + 0) 3 (fun j => uM Mc 437 (15 + g) (Mc 437 35) 437 (12 + (0 + j)))) 437 (31 + g) (fl (uM Mc 437 (15 + g) (Mc 437 35)) 437 (19 + 3 * g + 0) 3 (fun j => uM Mc 437 (15 + g) (Mc 437 35) 437 (12 + (0 + j))) 437 (31 + g) + 1), fun M5 e5 => ?_, fun k hk => ?_, x4.tr (fun c j w => ?_)⟩
    · unfold F_Mod_eat
      have d3 : F_Mod_isGuest (nI g) M1 = some 1 := by
        rcases m_isGuest hL1 (nI g) with ⟨q1, _⟩ | ⟨d', _, _, _, q2⟩
        · rw [q1] at d1; cases d1
        · exact q2
      rw [d3, bI_s, if_neg (by decide), x1, bI_s, hr 11 (by omega), ← s11, if_pos hs, show (15 : Int32) = nI 15 from rfl, nI_add, nI_clamp (by omega), if_neg (nI_inc (by omega) (by omega)), nmM_e]
      obtain ⟨p, hp⟩ := FU_k (1 + 3) (by omega)
      rw [hp, ← Nat.add_assoc, show (H_Mod_eat_45 (nI g) (p + 1 + 3) 0 : gM → Option (Int32 × gM)) = H_Mod_eat_45 (nI g) (p + 1 + 3) (nI 0) from rfl, eat_loop (by omega) 3 0 _ _ (by omega)]
      unfold J_Mod_eat_78
      rw [show (31 : Int32) = nI 31 from rfl, nI_add, nI_clamp (by omega), if_neg (nI_inc (by omega) (by omega)), if_neg (nI_inc (by omega) (by omega)), nmM_e, e5, bI_s]
    · unfold eaR
      by_cases q1 : k = 31 + g
      · rw [q1, uM_same, fl_out (by omega), uM_diff (by omega), if_neg (by omega), if_neg (by omega), if_pos rfl, hr _ (by omega)]
      rw [uM_diff (by omega)]
      by_cases q2 : k = 15 + g
      · rw [q2, fl_out (by omega), uM_same, if_pos rfl, hr 35 (by omega)]
      rw [if_neg q2]
      by_cases q3 : 19 + 3 * g ≤ k ∧ k < 22 + 3 * g
      · rw [if_pos q3, fl_in (by omega), uM_diff (by omega), hr _ (by omega)]
        exact congrArg (M 436) (by omega)
      · rw [if_neg q3, if_neg q1, fl_out (by omega), uM_diff (by omega), hr k hk]
    · unfold mQ at w
      rw [uM_diff (by omega), fl_out (by omega), uM_diff (by omega)]
  obtain ⟨u, nx, p1, p2, p3, p4, p5, p6⟩ := id hS.2.1
  have u57 : N 401 57 = nI u := by rw [n3 401 57 (by unfold mQ; omega), m1b 401 57 (by omega) (by omega)]; exact p4
  obtain ⟨M5, v, sh, b1, _⟩ := s_records p1 u57
  obtain ⟨rf1, rf2⟩ := rec_fr p1 u57 b1
  have hL5 : Lnd ld lv nf nd ng ne M5 := (hL1.kQ n3).keep (fun c j w => rf2 c j (by have := gv_num w; omega))
  have m5 : ∀ c j, 411 ≤ c → c ≤ 432 → M5 c j = M c j := fun c j a b => by rw [rf2 c j (by omega), mQ_M n3 c j a b]; exact m1 c j a b
  obtain ⟨M2', w1, w2⟩ := m_freeBits hL5 (g := g) (by omega)
  have c2 : F_Mod_eat (nI g) M1 = some (frS M5 lv (fun j => bowS M5 lv (M5 437) g j 0) ne, M2') := by rw [n1 M5 b1, w1, bI2_s]
  have j1 := Option.some.inj (e2.symm.trans c2)
  injection j1 with j2 j3
  subst j3
  have hSt := hS.done (D' := 60 * (q + 1)) (Q' := q + 1) (M1 := M1) (N := N) (by omega) (by omega) t1 (fun c j a b => by rw [f2.m (C0_M (by unfold sC at a; omega) (by unfold sC at a; omega))]; exact z3.m (St_fr a b)) (z2b.mono (by omega) (by omega)) (fun c j a => n3 c j (by unfold sC at a; unfold mQ; omega)) n2 b1
  refine ⟨h.mk2 hL hg0 ?_ ?_ (hSt.keep (fun c j a => w2 c j (by unfold sC at a; unfold mV; omega))), ?_⟩
  · have v1 : VZ M1 := ((h.2.1.kSt t2).kSt (z3.mono (CX_CSt st64))).kC1 (f2.mono C0_C1)
    exact v1.keep (fun c j w _ => by rw [w2 c j (by unfold vaC at w; unfold mV; omega), rf2 c j (by unfold vaC at w; omega), n3 c j (by unfold vaC at w; unfold mQ; omega)])
  · have := ld_le hL.la
    rw [w2 ld 0 (by unfold mV; omega), rf2 ld 0 (by omega), mQ_ld hL.la n3, ld0_C0 hL.la f2, ld0_St hL.la (z3.mono (CX_CSt st64)), ld0_St hL.la t2]
  · have hk : ∀ e, e < ne → ∃ x, x ≤ 2 ∧ M 421 (6 * lv + e) = nI x := fun e he => by
      obtain ⟨x, hx, _, ex⟩ := hL.df he
      exact ⟨x, hx, ex⟩
    rw [i2, j2, frS_k me, frS_k m5]
    refine frS_b (fun j hj => ?_) hk ne (Nat.le_refl _)
    rw [bowS_k me, bowS_k m5]
    exact (bowS_r (by omega) hj (fun k hk => by rw [rf2 437 k (by omega), n2 k hk])).symm
theorem v_undo (h : G1 q ld M L) (hq : q < 512) : ∃ r M1 r' M2, F_Main_undo M = some (r, M1) ∧ F_Mod_undo M1 = some (r', M2) ∧ G1 (q + 1) ld M2 L ∧ r = r' := by
  obtain ⟨r, M1, r', M2, e1, e2, hg⟩ := g_undo h.1
  obtain ⟨lv, nf, nd, ng, ne, hL, hS⟩ := h.get
  refine ⟨r, M1, r', M2, e1, e2, ?_⟩
  obtain ⟨hs, ⟨u, nx, p1, p2, p3, p4, p5, p6⟩, hl⟩ := id hS
  by_cases hu : u = 0
  · have c1 : F_Main_undo M = some (0, M) := by
      unfold F_Main_undo F_Past_takeBack J_Past_takeBack_18
      have : M 78 2 = 0 := by rw [p3, hu]; rfl
      by_cases w : M 78 1 ≤ 0
      · rw [if_pos w, if_pos this, bI2_s, if_pos (Or.inl rfl)]
      · rw [if_neg w, if_pos this, bI2_s, if_pos (Or.inl rfl)]
    have i1 := Option.some.inj (e1.symm.trans c1)
    injection i1 with i2 i3
    subst i3
    have c2 : F_Mod_undo M1 = some (0, M1) := by
      unfold F_Mod_undo
      have : M1 401 57 = 0 := by rw [p4, hu]; rfl
      rw [if_pos this]
    have j1 := Option.some.inj (e2.symm.trans c2)
    injection j1 with j2 j3
    subst j3
    exact ⟨h.up, by rw [i2, j2]⟩
  obtain ⟨v, rfl⟩ : ∃ v, u = v + 1 := ⟨u - 1, by omega⟩
  obtain ⟨la, hla, hla2⟩ : ∃ la, la < 40 ∧ la = (nx + 39) % 40 := ⟨_, Nat.mod_lt _ (by decide), rfl⟩
  obtain ⟨Ma, y1, a0, a1, a2, a3, a4, a5, a6, a7⟩ := s_copyFrom (X0 := 64) (X1 := 80 + 7 * la) (M := M) (by omega)
  have c1 : F_Main_undo M = some (1, uM (uM Ma 78 1 (nI la)) 78 2 (nI v)) := by
    unfold F_Main_undo F_Past_takeBack
    have key : J_Past_takeBack_18 64 (nI la) M = some (1, uM (uM Ma 78 1 (nI la)) 78 2 (nI v)) := by
      unfold J_Past_takeBack_18
      rw [p3, if_neg (nI_ne0 (by omega) (by omega)), show (40 : Int32) = nI 40 from rfl, if_neg (by rw [nI_leI (by omega) (by omega)]; omega), if_neg (nI_in (by omega) (by omega)), if_neg (nI_in (by omega) (by omega)), nI_clamp (by omega), y1, bI_s, nmM_e, uM_diff (by omega), a7 78 2 (by omega), p3, show (1 : Int32) = nI 1 from rfl, nI_sub (by omega), Nat.add_sub_cancel, nmM_e]
    by_cases w : nx = 0
    · have el : la = 39 := by rw [hla2, w]
      rw [p5, w, if_pos (by decide), show (39 : Int32) = nI 39 from rfl, ← el, key, bI2_s, if_pos (Or.inr rfl)]
    · have el : la = nx - 1 := by omega
      rw [p5, if_neg (nI_nle (by omega) (by omega)), show (1 : Int32) = nI 1 from rfl, nI_sub (by omega), ← el, key, bI2_s]
      exact if_pos (Or.inr rfl)
  have i1 := Option.some.inj (e1.symm.trans c1)
  injection i1 with i2 i3
  have f1 : ∀ c j, ¬ (64 ≤ c ∧ c < 71) → ¬ (c = 78 ∧ (j = 1 ∨ j = 2)) → M1 c j = M c j := fun c j w1 w2 => by rw [i3, uM_diff (by omega), uM_diff (by omega), a7 c j (by omega)]
  have g1 : M1 78 1 = nI la := by rw [i3, uM_diff (by omega), uM_same]
  have g2 : M1 78 2 = nI v := by rw [i3, uM_same]
  have gX : ∀ c j, 64 ≤ c → c < 71 → M1 c j = Ma c j := fun c j w1 w2 => by rw [i3, uM_diff (by omega), uM_diff (by omega)]
  obtain ⟨M2', z1, z2, z3, z4⟩ := s_undo (u := v) (M := M1) (by omega) (by rw [f1 401 57 (by omega) (by omega)]; exact p4)
  have j1 := Option.some.inj (e2.symm.trans z1)
  injection j1 with j2 j3
  subst j3
  have f2 : ∀ c j, ¬ (64 ≤ c ∧ c < 71) → ¬ (c = 78 ∧ (j = 1 ∨ j = 2)) → c ≠ 436 → ¬ (c = 401 ∧ j = 57) → M2 c j = M c j := fun c j w1 w2 w3 w4 => by rw [z4 c j (by omega), f1 c j w1 w2]
  have el : (nx + 40 - (v + 1) + v) % 40 = la := by omega
  have hrow := p6 v (by omega)
  rw [el] at hrow
  have gY : ∀ c j, 64 ≤ c → c < 71 → M2 c j = Ma c j := fun c j w1 w2 => by rw [z4 c j (by omega), gX c j w1 w2]
  refine ⟨h.mk2 hL hg (h.2.1.keep (fun c j w _ => f2 c j (by unfold vaC at w; omega) (by unfold vaC at w; omega) (by unfold vaC at w; omega) (by unfold vaC at w; omega))) (f2 ld 0 (by have := ld_le hL.la; omega) (by have := ld_le hL.la; omega) (by have := ld_le hL.la; omega) (by have := ld_le hL.la; omega)) ⟨?_, ⟨v, la, by omega, hla, ?_, z2, ?_, fun i hi => ?_⟩, ?_⟩, by rw [i2, j2]⟩
  · exact hrow.cp (by omega) (by omega) (fun j hj => by rw [gY _ _ (by omega) (by omega)]; exact a0 j hj) (fun j hj => by rw [gY _ _ (by omega) (by omega)]; exact a1 j hj) (fun j hj => by rw [gY _ _ (by omega) (by omega)]; exact a2 j hj) (fun j hj => by rw [gY _ _ (by omega) (by omega)]; exact a3 j hj) (fun j hj => by rw [gY _ _ (by omega) (by omega)]; exact a4 j hj) (fun j hj => by rw [gY _ _ (by omega) (by omega)]; exact a5 j hj) (fun j hj => by rw [gY _ _ (by omega) (by omega)]; exact a6 j hj) (fun k hk => by rw [z3 k hk, f1 440 _ (by omega) (by omega)])
  · rw [z4 78 2 (by omega)]; exact g2
  · rw [z4 78 1 (by omega)]; exact g1
  · have ei : (la + 40 - v + i) % 40 = (nx + 40 - (v + 1) + i) % 40 := by omega
    have hx2 := Nat.mod_lt (nx + 40 - (v + 1) + i) (show 0 < 40 by decide)
    rw [ei]
    exact ((p6 i (by omega)).mono (by omega) (by omega)).keep (fun c j w1 w2 => f2 c j (by omega) (by omega) (by omega) (by omega)) (fun k hk => f2 440 _ (by omega) (by omega) (by omega) (by omega))
  · exact (hl.mono (by omega) (by omega)).keep (fun c j w => f2 c j (by omega) (by omega) (by omega) (by omega))
theorem v_hold (h : G1 q ld M L) (hq : q < 512) (a : Int32) : ∃ r M1 r' M2, F_Main_hold a M = some (r, M1) ∧ F_Mod_hold a M1 = some (r', M2) ∧ G1 (q + 1) ld M2 L ∧ r = r' := by
  obtain ⟨r, M1, r', M2, e1, e2, hg, er⟩ := g_hold h.1 a
  obtain ⟨lv, nf, nd, ng, ne, hL, hS⟩ := h.get
  refine ⟨r, M1, r', M2, e1, e2, ?_, er⟩
  by_cases hs : ∃ s, s < 3 ∧ a = nI s
  · obtain ⟨s, hs, rfl⟩ := hs
    obtain ⟨Ma, y1, a0, a1, a2, a3, a4, a5, a6, a7⟩ := s_copyFrom (X0 := 362 + 7 * s) (X1 := 64) (M := M) (by omega)
    have c1 : F_Main_hold (nI s) M = some ((1 : Int32), uM Ma 360 1 (Ma 360 1 ||| (1 <<< (nI s &&& 31)))) := by
      unfold F_Main_hold F_Slots_keep
      rw [if_neg (nI_pos (by omega)), if_neg (by rw [show (3 : Int32) = nI 3 from rfl, nI_leI (by omega) (by omega)]; omega), nI_clamp (by omega), if_neg (nI_inc (by omega) (by omega)), if_neg (nI_inc (by omega) (by omega)), y1, bI_s, nmM_e, bI2_s]
      exact if_pos (Or.inr rfl)
    have i1 := Option.some.inj (e1.symm.trans c1)
    injection i1 with i2 i3
    have f1 : ∀ c j, ¬ (362 + 7 * s ≤ c ∧ c < 362 + 7 * s + 7) → ¬ (c = 360 ∧ j = 1) → M1 c j = M c j := fun c j w1 w2 => by rw [i3, uM_diff (by omega), a7 c j (by omega)]
    have gX : ∀ c j, 362 ≤ c → M1 c j = Ma c j := fun c j w1 => by rw [i3, uM_diff (by omega)]
    obtain ⟨M2', z1, z2, z3, z4⟩ := s_hold (s := s) (M := M1) hs
    have j1 := Option.some.inj (e2.symm.trans z1)
    injection j1 with j2 j3
    subst j3
    have f2 : ∀ c j, ¬ (362 + 7 * s ≤ c ∧ c < 362 + 7 * s + 7) → ¬ (c = 360 ∧ j = 1) → ¬ (c = 446 ∧ 38 * s ≤ j ∧ j < 38 * s + 38) → ¬ (c = 445 ∧ j = s) → M2 c j = M c j := fun c j w1 w2 w3 w4 => by rw [z4 c j (by omega), f1 c j w1 w2]
    refine h.mk2 hL hg (h.2.1.keep (fun c j w _ => f2 c j (by unfold vaC at w; omega) (by unfold vaC at w; omega) (by unfold vaC at w; omega) (by unfold vaC at w; omega))) (f2 ld 0 (by have := ld_le hL.la; omega) (by have := ld_le hL.la; omega) (by have := ld_le hL.la; omega) (by have := ld_le hL.la; omega)) ⟨?_, ?_, fun t ht et => ?_⟩
    · exact (hS.1.mono (by omega) (by omega)).keep (fun c j w1 w2 => f2 c j (by omega) (by omega) (by omega) (by omega)) (fun k hk => f2 436 k (by omega) (by omega) (by omega) (by omega))
    · exact (hS.2.1.mono (by omega) (by omega)).keep (fun c j w => f2 c j (by omega) (by omega) (by omega) (by omega))
    · by_cases q1 : t = s
      · subst q1
        have gY : ∀ c j, 362 + 7 * t ≤ c → c < 362 + 7 * t + 7 → M2 c j = Ma c j := fun c j w1 w2 => by rw [z4 c j (by omega), gX c j (by omega)]
        exact hS.1.cp (by omega) (by omega) (fun j hj => by rw [gY _ _ (by omega) (by omega)]; exact a0 j hj) (fun j hj => by rw [gY _ _ (by omega) (by omega)]; exact a1 j hj) (fun j hj => by rw [gY _ _ (by omega) (by omega)]; exact a2 j hj) (fun j hj => by rw [gY _ _ (by omega) (by omega)]; exact a3 j hj) (fun j hj => by rw [gY _ _ (by omega) (by omega)]; exact a4 j hj) (fun j hj => by rw [gY _ _ (by omega) (by omega)]; exact a5 j hj) (fun j hj => by rw [gY _ _ (by omega) (by omega)]; exact a6 j hj) (fun k hk => by rw [z3 k hk, f1 436 k (by omega) (by omega)])
      · have et2 : M 445 t = 1 := by rw [← f2 445 t (by omega) (by omega) (by omega) (by omega)]; exact et
        exact ((hS.2.2 t ht et2).mono (by omega) (by omega)).keep (fun c j w1 w2 => f2 c j (by omega) (by omega) (by omega) (by omega)) (fun k hk => f2 446 _ (by omega) (by omega) (by omega) (by omega))
  · have c1 : F_Main_hold a M = some (0, M) := by
      unfold F_Main_hold F_Slots_keep
      by_cases h0 : a < 0
      · rw [if_pos h0, bI2_s, if_pos (Or.inl rfl)]
      · rw [if_neg h0, if_pos, bI2_s, if_pos (Or.inl rfl)]
        obtain ⟨k, hk, rfl⟩ := nI_of h0
        rw [show (3 : Int32) = nI 3 from rfl, nI_leI (by omega) hk]
        refine Nat.le_of_not_lt (fun w => hs ⟨k, w, rfl⟩)
    have i1 := Option.some.inj (e1.symm.trans c1)
    injection i1 with i2 i3
    subst i3
    have c2 : F_Mod_hold a M1 = some (0, M1) := by
      unfold F_Mod_hold
      rcases in_cases a (a := 0) (b := 2) (by decide) (by decide) with ⟨w, _⟩ | ⟨k, _, w, e, _⟩
      · rw [show F_Mod_in a 0 2 = F_Mod_in a (nI 0) (nI 2) from rfl, w, bI_s, if_pos rfl]
      · exact absurd ⟨k, by omega, e⟩ hs
    have j1 := Option.some.inj (e2.symm.trans c2)
    injection j1 with j2 j3
    subst j3
    exact h.up
theorem v_restore (h : G1 q ld M L) (hq : q < 512) (a : Int32) : ∃ r M1 r' M2, F_Main_restore a M = some (r, M1) ∧ F_Mod_restore a M1 = some (r', M2) ∧ G1 (q + 1) ld M2 L ∧ r = r' := by
  obtain ⟨r, M1, r', M2, e1, e2, hg, er⟩ := g_restore h.1 a
  obtain ⟨lv, nf, nd, ng, ne, hL, hS⟩ := h.get
  refine ⟨r, M1, r', M2, e1, e2, ?_, er⟩
  by_cases hs : ∃ s, s < 3 ∧ a = nI s
  · obtain ⟨s, hs, rfl⟩ := hs
    obtain ⟨b, hb, hb1, hb2⟩ := h.1.2.2.2.2.2.2.2.2
    by_cases ht : b.testBit s = true
    · obtain ⟨Ma, y1, a0, a1, a2, a3, a4, a5, a6, a7⟩ := s_copyFrom (X0 := 64) (X1 := 362 + 7 * s) (M := M) (by omega)
      have c1 : F_Main_restore (nI s) M = some (1, uM (uM Ma 78 1 0) 78 2 0) := by
        unfold F_Main_restore F_Slots_bring F_Past_clear
        rw [if_neg (nI_pos (by omega)), if_neg (by rw [show (3 : Int32) = nI 3 from rfl, nI_leI (by omega) (by omega)]; omega), nI_clamp (by omega), if_neg (nI_inc (by omega) (by omega)), hb1, sl_bit hb hs, bI_s, if_pos ht, if_neg (show ¬ (1 : Int32) = 0 by decide), if_neg (nI_inc (by omega) (by omega)), y1, bI_s, bI2_s, if_neg (show ¬ (1 : Int32) = 0 by decide), nmM_e, nmM_e, bI_s]
      have i1 := Option.some.inj (e1.symm.trans c1)
      injection i1 with i2 i3
      have f1 : ∀ c j, ¬ (64 ≤ c ∧ c < 71) → ¬ (c = 78 ∧ (j = 1 ∨ j = 2)) → M1 c j = M c j := fun c j w1 w2 => by rw [i3, uM_diff (by omega), uM_diff (by omega), a7 c j (by omega)]
      have g1 : M1 78 1 = 0 := by rw [i3, uM_diff (by omega), uM_same]
      have g2 : M1 78 2 = 0 := by rw [i3, uM_same]
      have gX : ∀ c j, 64 ≤ c → c < 71 → M1 c j = Ma c j := fun c j w1 w2 => by rw [i3, uM_diff (by omega), uM_diff (by omega)]
      have h445 : M 445 s = 1 := by rw [hb2 s hs, if_pos ht]
      obtain ⟨M2', z1, z2, z3, z4⟩ := s_restore (s := s) (M := M1) hs (by rw [f1 445 s (by omega) (by omega), h445]; decide)
      have j1 := Option.some.inj (e2.symm.trans z1)
      injection j1 with j2 j3
      subst j3
      have f2 : ∀ c j, ¬ (64 ≤ c ∧ c < 71) → ¬ (c = 78 ∧ (j = 1 ∨ j = 2)) → c ≠ 436 → ¬ (c = 401 ∧ j = 57) → M2 c j = M c j := fun c j w1 w2 w3 w4 => by rw [z4 c j (by omega), f1 c j w1 w2]
      have gY : ∀ c j, 64 ≤ c → c < 71 → M2 c j = Ma c j := fun c j w1 w2 => by rw [z4 c j (by omega), gX c j w1 w2]
      refine h.mk2 hL hg (h.2.1.keep (fun c j w _ => f2 c j (by unfold vaC at w; omega) (by unfold vaC at w; omega) (by unfold vaC at w; omega) (by unfold vaC at w; omega))) (f2 ld 0 (by have := ld_le hL.la; omega) (by have := ld_le hL.la; omega) (by have := ld_le hL.la; omega) (by have := ld_le hL.la; omega)) ⟨?_, ⟨0, 0, by omega, by omega, ?_, z2, ?_, fun i hi => absurd hi (Nat.not_lt_zero _)⟩, ?_⟩
      · exact (hS.2.2 s hs h445).cp (by omega) (by omega) (fun j hj => by rw [gY _ _ (by omega) (by omega)]; exact a0 j hj) (fun j hj => by rw [gY _ _ (by omega) (by omega)]; exact a1 j hj) (fun j hj => by rw [gY _ _ (by omega) (by omega)]; exact a2 j hj) (fun j hj => by rw [gY _ _ (by omega) (by omega)]; exact a3 j hj) (fun j hj => by rw [gY _ _ (by omega) (by omega)]; exact a4 j hj) (fun j hj => by rw [gY _ _ (by omega) (by omega)]; exact a5 j hj) (fun j hj => by rw [gY _ _ (by omega) (by omega)]; exact a6 j hj) (fun k hk => by rw [z3 k hk, f1 446 _ (by omega) (by omega)])
      · rw [z4 78 2 (by omega), g2]; rfl
      · rw [z4 78 1 (by omega), g1]; rfl
      · exact (hS.2.2.mono (by omega) (by omega)).keep (fun c j w => f2 c j (by omega) (by omega) (by omega) (by omega))
    · have c1 : F_Main_restore (nI s) M = some (0, M) := by
        unfold F_Main_restore F_Slots_bring
        rw [if_neg (nI_pos (by omega)), if_neg (by rw [show (3 : Int32) = nI 3 from rfl, nI_leI (by omega) (by omega)]; omega), if_neg (by rw [nI_clamp (by omega)]; exact nI_inc (by omega) (by omega)), hb1, sl_bit hb hs, bI_s, if_neg ht, if_pos rfl, bI2_s, if_pos rfl]
      have i1 := Option.some.inj (e1.symm.trans c1)
      injection i1 with i2 i3
      subst i3
      have c2 : F_Mod_restore (nI s) M1 = some (0, M1) := s_restore0 hs (by rw [hb2 s hs, if_neg ht])
      have j1 := Option.some.inj (e2.symm.trans c2)
      injection j1 with j2 j3
      subst j3
      exact h.up
  · have c1 : F_Main_restore a M = some (0, M) := by
      unfold F_Main_restore F_Slots_bring
      by_cases h0 : a < 0
      · rw [if_pos h0, bI2_s, if_pos rfl]
      · rw [if_neg h0, if_pos, bI2_s, if_pos rfl]
        obtain ⟨k, hk, rfl⟩ := nI_of h0
        rw [show (3 : Int32) = nI 3 from rfl, nI_leI (by omega) hk]
        refine Nat.le_of_not_lt (fun w => hs ⟨k, w, rfl⟩)
    have i1 := Option.some.inj (e1.symm.trans c1)
    injection i1 with i2 i3
    subst i3
    have c2 : F_Mod_restore a M1 = some (0, M1) := by
      unfold F_Mod_restore
      rcases in_cases a (a := 0) (b := 2) (by decide) (by decide) with ⟨w, _⟩ | ⟨k, _, w, e, _⟩
      · rw [show F_Mod_in a 0 2 = F_Mod_in a (nI 0) (nI 2) from rfl, w, bI_s, if_pos rfl]
      · exact absurd ⟨k, by omega, e⟩ hs
    have j1 := Option.some.inj (e2.symm.trans c2)
    injection j1 with j2 j3
    subst j3
    exact h.up
theorem v_read (h : G1 q ld M L) (hq : q < 512) : ∃ k M1 L1 ld1 M2 L2, F_Main_read ld M L = some (nI k, M1, L1, ld1) ∧ F_Mod_read M1 L1 = some (nI k, M2, L2) ∧ G1 (q + 1) ld1 M2 L2 := by
  obtain ⟨k, M1, L1, ld1, M2, L2, e1, e2, hg, hva, hc⟩ := g_read h.1
  obtain ⟨lv, nf, nd, ng, ne, hL, hS⟩ := h.get
  refine ⟨k, M1, L1, ld1, M2, L2, e1, e2, hg, h.2.1.keep (fun c j w _ => hva c j w), ?_⟩
  rcases hc with ⟨k0, rfl, hld, hf⟩ | ⟨k0, f1, f2, f3, ⟨nf2, n1, n2, f4⟩, f5, f6, f7, f8, f9, f10, f11, f12, f13⟩
  · refine ⟨nf, hL.nf6, hld.trans hL.cf, (hS.mono (D' := 60 * (q + 1)) (Q' := q + 1) (by omega) (by omega)).keep (fun c j w => ?_)⟩
    by_cases w5 : c = 445
    · subst w5
      have hj : j < 3 := by unfold sC at w; omega
      obtain ⟨b, hb, hb1, hb2⟩ := h.1.2.2.2.2.2.2.2.2
      obtain ⟨b', hb', hb1', hb2'⟩ := hg.2.2.2.2.2.2.2.2
      have eb : b' = b := (nI_eq (by omega) (by omega)).mp (hb1'.symm.trans ((hf 360 1 (by unfold stC; omega)).trans hb1))
      rw [hb2 j hj, hb2' j hj, eb]
    · exact hf c j (by unfold sC at w; unfold stC; omega)
  · have hr : ∀ k, 6 ≤ k → k < 38 → k ≠ 11 → ¬ (15 ≤ k ∧ k < 19) → M2 436 k = 0 := fun k a b c d => by rw [f9 k a b, if_neg (by omega)]
    obtain ⟨b, hb, hb1, hb2⟩ := hg.2.2.2.2.2.2.2.2
    have b0 : b = 0 := (nI_eq (by omega) (by omega)).mp (hb1.symm.trans f12)
    refine ⟨nf2, n1, n2, ⟨⟨0, by omega, f1 0 (by decide), hr 35 (by omega) (by omega) (by omega) (by omega), fun g hg => ⟨0, by omega, f6 g hg, hr (31 + g) (by omega) (by omega) (by omega) (by omega), Or.inl ⟨rfl, by rw [f9 (15 + g) (by omega) (by omega), if_pos (by omega)]⟩⟩⟩, ?_, ?_, ?_, fun j hj => ?_, f4, fun d hd => ?_, fun i hi => ?_⟩, ⟨0, 0, by omega, by omega, f11, f13, f10, fun i hi => absurd hi (Nat.not_lt_zero _)⟩, fun s hs es => ?_⟩
    · rw [f1 1 (by decide), hr 36 (by omega) (by omega) (by omega) (by omega)]
    · rw [f1 2 (by decide), hr 37 (by omega) (by omega) (by omega) (by omega)]
    · rw [f2, f9 11 (by omega) (by omega), if_pos (by omega)]
    · rw [f3 j hj, hr (12 + j) (by omega) (by omega) (by omega) (by omega)]
    · rw [f5 d hd, hr (6 + d) (by omega) (by omega) (by omega) (by omega)]
    · rw [f8 i hi, hr (19 + i) (by omega) (by omega) (by omega) (by omega)]
    · rw [hb2 s hs, b0, Nat.zero_testBit] at es
      exact absurd es (by decide)
theorem v_place (h : G1 q ld M L) (hq : q < 512) : ∃ r r', F_Main_place M = some r ∧ F_Mod_place M = some r' ∧ G1 (q + 1) ld M L ∧ r = r' := by
  obtain ⟨r, r', e1, e2, _, e3⟩ := g_place h.1
  exact ⟨r, r', e1, e2, h.up, e3⟩
theorem v_amount (h : G1 q ld M L) (hq : q < 512) (a b : Int32) : ∃ r r', F_Main_amount ld a b M = some r ∧ F_Mod_amount a b M = some r' ∧ G1 (q + 1) ld M L ∧ r = r' := by
  obtain ⟨r, r', e1, e2, _, e3⟩ := g_amount h.1 a b
  exact ⟨r, r', e1, e2, h.up, e3⟩

theorem v_feed (h : G1 q ld M L) (hq : q < 512) (a b c d e : Int32) : ∃ r M1 r' M2, F_Main_feed a b c d e M = some (r, M1) ∧ F_Mod_feed a b c d e M1 = some (r', M2) ∧ G1 (q + 1) ld M2 L ∧ r = r' := by
  obtain ⟨r, M1, r', M2, e1, e2, hg, e3, e4⟩ := g_feed h.1 a b c d e
  exact ⟨r, M1, r', M2, e1, e2, h.fr hg e4 (e4 ld 0 (Or.inr (by have := La_cases h.1.la; omega))), e3⟩
theorem v_back (h : G1 q ld M L) (hq : q < 512) (a : Int32) : ∃ r M1 r' M2, F_Main_back a M = some (r, M1) ∧ F_Mod_back a M1 = some (r', M2) ∧ G1 (q + 1) ld M2 L ∧ r = r' := by
  obtain ⟨r, M1, r', M2, e1, e2, hg, e3, e4⟩ := g_back h.1 a
  exact ⟨r, M1, r', M2, e1, e2, h.fr hg e4 (e4 ld 0 (Or.inr (by have := La_cases h.1.la; omega))), e3⟩
theorem v_tell (h : G1 q ld M L) (hq : q < 512) (a b c : Int32) : ∃ r M1 r' M2, F_Main_tell a b c M = some (r, M1) ∧ F_Mod_tell a b c M1 = some (r', M2) ∧ G1 (q + 1) ld M2 L ∧ r = r' := by
  obtain ⟨r, M1, r', M2, e1, e2, hg, e3, e4⟩ := g_tell h.1 a b c
  exact ⟨r, M1, r', M2, e1, e2, h.fr hg e4 (e4 ld 0 (Or.inr (by have := La_cases h.1.la; omega))), e3⟩
theorem v_forget (h : G1 q ld M L) (hq : q < 512) : ∃ r M1 r' M2, F_Main_forget M = some (r, M1) ∧ F_Mod_forget M1 = some (r', M2) ∧ G1 (q + 1) ld M2 L ∧ r = r' := by
  obtain ⟨r, M1, r', M2, e1, e2, hg, e3, e4⟩ := g_forget h.1
  exact ⟨r, M1, r', M2, e1, e2, h.fr hg e4 (e4 ld 0 (Or.inr (by have := La_cases h.1.la; omega))), e3⟩
end SD
end PAR39
end MG15x1
section MG15x2
/-! what is asked, first row -/
section PAR40
section QU
variable {D Q q ld lv nf nd ng ne : Nat} {M M1 : gM} {L : gL} {r : Nat → Int32}
theorem C1_hi {c j : Nat} (a : 401 ≤ c) : C1 c j = false := by
  unfold C1
  rw [C0_M (by omega) (by omega)]
  simp only [Bool.false_or, Bool.or_eq_false_iff, Bool.and_eq_false_iff, beq_eq_false_iff_ne, decide_eq_false_iff_not, Bool.not_eq_false', beq_iff_eq]
  omega
/-- behind the class, the model's copy of the row -/
theorem cop (hL : Lnd ld lv nf nd ng ne M) (k1 : Kl C1 M zL M1 zL) : Lnd ld lv nf nd ng ne M1 ∧ (∀ c j, 401 ≤ c → M1 c j = M c j) ∧ ∃ Mc, F_Mod_copies M1 = some Mc ∧ (∀ k, k < 38 → Mc 437 k = M 436 k) ∧ Mc 401 54 = M 423 lv ∧ Lnd ld lv nf nd ng ne Mc ∧ (∀ c j, 411 ≤ c → c ≤ 432 → Mc c j = M c j) := by
  have h1 := hL.k1 k1
  have m1 : ∀ c j, 401 ≤ c → M1 c j = M c j := fun c j a => k1.m (C1_hi a)
  obtain ⟨Mc, x1, x2, x3, x4⟩ := m_copies h1
  exact ⟨h1, m1, Mc, x1, fun k hk => by rw [x2 k hk, m1 436 k (by omega)], by rw [x3, m1 423 _ (by omega)], h1.kQ x4, fun c j a b => by rw [mQ_M x4 c j a b, m1 c j (by omega)]⟩
theorem v_food (h : G1 q ld M L) (hq : q < 512) (a b : Int32) : ∃ r r', F_Main_food ld a b M = some r ∧ F_Mod_food a b M = some r' ∧ G1 (q + 1) ld M L ∧ r = r' := by
  obtain ⟨r, r', e1, e2, _⟩ := g_food h.1 a b
  obtain ⟨lv, nf, nd, ng, ne, hL, hS⟩ := h.get
  refine ⟨r, r', e1, e2, h.up, ?_⟩
  have h6 := hL.nf6
  have h1 := hL.l1
  unfold F_Main_food at e1
  unfold F_Mod_food at e2
  rw [hL.cf] at e1
  rcases m_isFood hL a with ⟨d1, d2⟩ | ⟨f, hf, rfl, d1, d2⟩
  · rw [d1, bI_s, if_pos rfl] at e1
    rw [d2, bI_s, if_pos rfl] at e2
    exact (Option.some.inj e1).symm.trans (Option.some.inj e2)
  rw [d1, bI_s, if_neg (by decide)] at e1
  rw [d2, bI_s, if_neg (by decide), hL.l18] at e2
  by_cases b0 : b = 0
  · obtain ⟨x, _, s2, s3, _⟩ := hS.1.2.2.2.2.2.1 f (by omega)
    rw [if_pos b0, s_at (by omega) (by decide), bI_s, s2] at e1
    rw [if_pos b0, if_neg (nI_in (by omega) (by omega)), nI_clamp (by omega), s3] at e2
    exact (Option.some.inj e1).symm.trans (Option.some.inj e2)
  rw [if_neg b0] at e1 e2
  by_cases b1 : b = 1
  · rw [if_pos b1, s_at (by omega) (by decide), bI_s, hL.pr hf] at e1
    rw [if_pos b1, show (6 : Int32) = nI 6 from rfl, nI_mul, nI_add, if_neg (nI_in (by omega) (by omega)), nI_clamp (by omega)] at e2
    exact (Option.some.inj e1).symm.trans (Option.some.inj e2)
  rw [if_neg b1] at e1 e2
  have br : ∀ j, j < 3 → F_Land_broughtBy ld (nI f) (nI (j + 2) - 2) M = some (M 414 (3 * (6 * lv + f) + j)) := fun j hj => by
    rw [show (2 : Int32) = nI 2 from rfl, nI_sub (by omega), Nat.add_sub_cancel]; exact c_brought hL hf hj
  have mr : ∀ j, j < 3 → (if ((((3 * ((6 * nI lv) + nI f)) + nI (j + 2)) - 2) : Int32) < 0 ∨ 36 ≤ ((((3 * ((6 * nI lv) + nI f)) + nI (j + 2)) - 2) : Int32).toNatClampNeg then none else some (M 414 ((((3 * ((6 * nI lv) + nI f)) + nI (j + 2)) - 2) : Int32).toNatClampNeg)) = some (M 414 (3 * (6 * lv + f) + j)) := fun j hj => by
    rw [show (3 : Int32) = nI 3 from rfl, show (6 : Int32) = nI 6 from rfl, show (2 : Int32) = nI 2 from rfl, nI_mul, nI_add, nI_mul, nI_add, nI_sub (by omega), show 3 * (6 * lv + f) + (j + 2) - 2 = 3 * (6 * lv + f) + j by omega, if_neg (nI_in (by omega) (by omega)), nI_clamp (by omega)]
  by_cases b2 : b = 2
  · rw [if_pos b2, b2, show (2 : Int32) = nI (0 + 2) from rfl, show (nI (0 + 2) - nI (0 + 2)) = nI (0 + 2) - 2 from rfl, br 0 (by decide), bI_s] at e1
    rw [if_pos b2, b2] at e2
    exact (Option.some.inj e1).symm.trans (Option.some.inj ((mr 0 (by decide)).symm.trans e2))
  rw [if_neg b2] at e1 e2
  by_cases b3 : b = 3
  · rw [if_pos b3, b3, show ((3 : Int32) - 2) = nI (1 + 2) - 2 from rfl, br 1 (by decide), bI_s] at e1
    rw [if_pos b3, b3] at e2
    exact (Option.some.inj e1).symm.trans (Option.some.inj ((mr 1 (by decide)).symm.trans e2))
  rw [if_neg b3] at e1 e2
  by_cases b4 : b = 4
  · rw [if_pos b4, b4, show ((4 : Int32) - 2) = nI (2 + 2) - 2 from rfl, br 2 (by decide), bI_s] at e1
    rw [if_pos b4, b4] at e2
    exact (Option.some.inj e1).symm.trans (Option.some.inj ((mr 2 (by decide)).symm.trans e2))
  rw [if_neg b4] at e1 e2
  exact (Option.some.inj e1).symm.trans (Option.some.inj e2)
theorem full_e {b : Nat} (hb : b < 8) : ∀ s0 s1 s2 : Int32, s0 = (if b.testBit 0 then 1 else 0) → s1 = (if b.testBit 1 then 1 else 0) → s2 = (if b.testBit 2 then 1 else 0) → F_Int_bitCount (nI b) = some ((if s0 = 0 then 0 else 1) + (if s1 = 0 then 0 else 1) + (if s2 = 0 then 0 else 1)) := fun s0 s1 s2 e0 e1 e2 => by
  subst e0; subst e1; subst e2
  exact (by decide +kernel : ∀ b, b < 8 → F_Int_bitCount (nI b) = some ((if (if b.testBit 0 then (1 : Int32) else 0) = 0 then 0 else 1) + (if (if b.testBit 1 then (1 : Int32) else 0) = 0 then 0 else 1) + (if (if b.testBit 2 then (1 : Int32) else 0) = 0 then 0 else 1))) b hb
theorem c_allMeals (hS : St D Q nf 64 r M) : F_State_allMeals 64 M = some (r 31 + r 32 + r 33 + r 34) := by
  have hm : ∀ g, g < 4 → M (64 + 4) g = r (31 + g) := fun g hg => by
    obtain ⟨⟨day, d1, d2, d3, d4⟩, _⟩ := hS
    obtain ⟨ml, _, m2, m3, _⟩ := d4 g hg
    rw [m2, m3]
  unfold F_State_allMeals
  obtain ⟨g, hg⟩ := FU_k 5 (by omega)
  have step : ∀ (f k : Nat) (acc : Int32), k < 4 → H_State_allMeals_4 64 M (f + 1) acc (nI k) = H_State_allMeals_4 64 M f (acc + r (31 + k)) (nI (k + 1)) := fun f k acc hk => by
    show B_State_allMeals_4 64 M (H_State_allMeals_4 64 M f) acc (nI k) = _
    unfold B_State_allMeals_4
    rw [show (4 : Int32) = nI 4 from rfl, if_neg (by rw [nI_leI (by omega) (by omega)]; omega), s_at hk (by decide), bI_s, hm k hk, nmI_e, nmI_e, nI_1]
  rw [hg, show (H_State_allMeals_4 64 M (g + 5) 0 0) = H_State_allMeals_4 64 M (g + 4 + 1) 0 (nI 0) from rfl, step (g + 4) 0 0 (by decide), step (g + 3) 1 _ (by decide), step (g + 2) 2 _ (by decide), step (g + 1) 3 _ (by decide)]
  show B_State_allMeals_4 64 M (H_State_allMeals_4 64 M g) _ (nI 4) = _
  unfold B_State_allMeals_4
  rw [if_pos (by decide), Int32.zero_add]
theorem v_count (h : G1 q ld M L) (hq : q < 512) (a : Int32) : ∃ r r', F_Main_count ld a M = some r ∧ F_Mod_count a M = some r' ∧ G1 (q + 1) ld M L ∧ r = r' := by
  obtain ⟨r, r', e1, e2, _⟩ := g_count h.1 a
  obtain ⟨lv, nf, nd, ng, ne, hL, hS⟩ := h.get
  refine ⟨r, r', e1, e2, h.up, ?_⟩
  have h1 := hL.l1
  obtain ⟨hs, ⟨u, nx, p1, p2, p3, p4, p5, p6⟩, hl⟩ := id hS
  obtain ⟨b, n, hT, hQ⟩ := h.1.1
  obtain ⟨k, t1, t2, t3, _⟩ := h.1.2.2.2.2.2.2.2.1
  obtain ⟨sb, sb1, sb2, sb3⟩ := h.1.2.2.2.2.2.2.2.2
  have hgd : ¬ (nI lv < 0 ∨ 2 ≤ (nI lv).toNatClampNeg) := nI_in (by omega) (by omega)
  unfold F_Main_count at e1
  unfold F_Mod_count at e2
  rw [hL.l18] at e2
  have fin : ∀ x y : Int32, some x = some r → some y = some r' → x = y → r = r' := fun x y u1 u2 u3 => by rw [← Option.some.inj u1, ← Option.some.inj u2, u3]
  by_cases c0 : a = 0
  · rw [if_pos c0] at e1 e2; rw [if_neg hgd, nI_clamp (by omega)] at e2
    exact fin _ _ e1 e2 (by rw [hL.cf, hL.mf])
  rw [if_neg c0] at e1 e2
  by_cases c1 : a = 1
  · rw [if_pos c1] at e1 e2; rw [if_neg hgd, nI_clamp (by omega)] at e2
    exact fin _ _ e1 e2 (by rw [hL.cd, hL.md])
  rw [if_neg c1] at e1 e2
  by_cases c2 : a = 2
  · rw [if_pos c2] at e1 e2; rw [if_neg hgd, nI_clamp (by omega)] at e2
    exact fin _ _ e1 e2 (by rw [hL.cg, hL.mg])
  rw [if_neg c2] at e1 e2
  by_cases c3 : a = 3
  · rw [if_pos c3] at e1 e2; rw [if_neg hgd, nI_clamp (by omega)] at e2
    exact fin _ _ e1 e2 (by rw [hL.ce, hL.me])
  rw [if_neg c3] at e1 e2
  by_cases c4 : a = 4
  · rw [if_pos c4] at e1 e2; rw [c4, show ((31 : Int32) + 4) = nI 35 from rfl, if_neg (nI_in (by omega) (by omega)), nI_clamp (by omega)] at e2
    exact fin _ _ e1 e2 hs.d0
  rw [if_neg c4] at e1 e2
  by_cases c5 : a = 5
  · rw [if_pos c5] at e1 e2; rw [c5, show ((31 : Int32) + 5) = nI 36 from rfl, if_neg (nI_in (by omega) (by omega)), nI_clamp (by omega)] at e2
    exact fin _ _ e1 e2 hs.2.1
  rw [if_neg c5] at e1 e2
  by_cases c6 : a = 6
  · rw [if_pos c6] at e1 e2
    exact fin _ _ e1 e2 hs.2.2.2.1
  rw [if_neg c6] at e1 e2
  by_cases c7 : a = 7
  · rw [if_pos c7] at e1 e2
    rw [c7, show ((7 : Int32) - 7) = nI 0 from rfl, s_at (by omega) (by decide), bI_s] at e1
    rw [c7, show ((5 : Int32) + 7) = nI 12 from rfl, if_neg (nI_in (by omega) (by omega)), nI_clamp (by omega)] at e2
    exact fin _ _ e1 e2 (hs.2.2.2.2.1 0 (by decide))
  rw [if_neg c7] at e1 e2
  by_cases c8 : a = 8
  · rw [if_pos c8] at e1 e2
    rw [c8, show ((8 : Int32) - 7) = nI 1 from rfl, s_at (by omega) (by decide), bI_s] at e1
    rw [c8, show ((5 : Int32) + 8) = nI 13 from rfl, if_neg (nI_in (by omega) (by omega)), nI_clamp (by omega)] at e2
    exact fin _ _ e1 e2 (hs.2.2.2.2.1 1 (by decide))
  rw [if_neg c8] at e1 e2
  by_cases c9 : a = 9
  · rw [if_pos c9] at e1 e2
    rw [c9, show ((9 : Int32) - 7) = nI 2 from rfl, s_at (by omega) (by decide), bI_s] at e1
    rw [c9, show ((5 : Int32) + 9) = nI 14 from rfl, if_neg (nI_in (by omega) (by omega)), nI_clamp (by omega)] at e2
    exact fin _ _ e1 e2 (hs.2.2.2.2.1 2 (by decide))
  rw [if_neg c9] at e1 e2
  by_cases c10 : a = 10
  · rw [if_pos c10] at e1 e2
    exact fin _ _ e1 e2 (by rw [hT.1, hQ.1])
  rw [if_neg c10] at e1 e2
  by_cases c11 : a = 11
  · rw [if_pos c11] at e1 e2
    exact fin _ _ e1 e2 (by rw [p3, p4])
  rw [if_neg c11] at e1 e2
  by_cases c12 : a = 12
  · rw [if_pos c12] at e1 e2
    exact fin _ _ e1 e2 (by rw [t2, t3])
  rw [if_neg c12] at e1 e2
  by_cases c13 : a = 13
  · rw [if_pos c13] at e1 e2
    unfold F_Slots_full at e1
    rw [sb2, full_e sb1 (M 445 0) (M 445 1) (M 445 2) (sb3 0 (by decide)) (sb3 1 (by decide)) (sb3 2 (by decide)), bI_s, bI_s] at e1
    unfold J_Mod_count_176 J_Mod_count_190 at e2
    refine fin ((if M 445 0 = 0 then 0 else 1) + (if M 445 1 = 0 then 0 else 1) + (if M 445 2 = 0 then 0 else 1)) ((if M 445 0 = 0 then 0 else 1) + (if M 445 1 = 0 then 0 else 1) + (if M 445 2 = 0 then 0 else 1)) e1 (Eq.trans ?_ e2) rfl
    by_cases w0 : M 445 0 = 0
    · rw [if_pos w0, if_pos w0]
      by_cases w1 : M 445 1 = 0
      · rw [if_pos w1, if_pos w1]
        by_cases w2 : M 445 2 = 0
        · rw [if_pos w2, if_pos w2]
        · rw [if_neg w2, if_neg w2]
      · rw [if_neg w1, if_neg w1]
        by_cases w2 : M 445 2 = 0
        · rw [if_pos w2, if_pos w2]
        · rw [if_neg w2, if_neg w2]
    · rw [if_neg w0, if_neg w0]
      by_cases w1 : M 445 1 = 0
      · rw [if_pos w1, if_pos w1]
        by_cases w2 : M 445 2 = 0
        · rw [if_pos w2, if_pos w2]
        · rw [if_neg w2, if_neg w2]
      · rw [if_neg w1, if_neg w1]
        by_cases w2 : M 445 2 = 0
        · rw [if_pos w2, if_pos w2]
        · rw [if_neg w2, if_neg w2]
  rw [if_neg c13] at e1 e2
  by_cases c14 : a = 14
  · rw [if_pos c14] at e1 e2
    exact fin _ _ e1 e2 hs.2.2.1
  rw [if_neg c14] at e1 e2
  by_cases c15 : a = 15
  · rw [if_pos c15] at e1 e2
    rw [c_allMeals hs, bI_s] at e1
    exact fin _ _ e1 e2 rfl
  rw [if_neg c15] at e1 e2
  exact fin _ _ e1 e2 rfl
theorem pair_fin {x y r r' : Int32} {X Y M1 M2 : gM} (u1 : some (x, X) = some (r, M1)) (u2 : some (y, Y) = some (r', M2)) (e : x = y) : r = r' := by
  rw [← (Prod.mk.inj (Option.some.inj u1)).1, ← (Prod.mk.inj (Option.some.inj u2)).1, e]
theorem v_dish (h : G1 q ld M L) (hq : q < 512) (a b : Int32) : ∃ r M1 r' M2, F_Main_dish ld a b M = some (r, M1) ∧ F_Mod_dish a b M1 = some (r', M2) ∧ G1 (q + 1) ld M2 L ∧ r = r' := by
  obtain ⟨r, M1, e1, -, k1⟩ := tf_Main_dish (p1 := a) (p2 := b) (M := M) h.1.la
  have g1 := h.1.kC0 k1
  obtain ⟨r', M2, e2, -, k2⟩ := tf_Mod_dish (p0 := a) (p1 := b) g1.inv
  refine ⟨r, M1, r', M2, e1, e2, h.q2 (g1.kM1 k2) (k1.mono C0_C1) k2, ?_⟩
  obtain ⟨lv, nf, nd, ng, ne, hL, hS⟩ := h.get
  obtain ⟨hL1, m1, Mc, x1, x2, x3, hLc, mc⟩ := cop hL (k1.mono C0_C1)
  have h6 := hL.nf6
  have h5 := hL.nd5
  have h1 := hL.l1
  unfold F_Main_dish at e1
  unfold F_Mod_dish at e2
  rw [hL.cd] at e1
  rcases m_isDish hL1 a with ⟨d1, d2⟩ | ⟨d, hd, rfl, d1, d2⟩
  · rw [d1, bI_s, if_pos rfl] at e1
    rw [d2, bI_s, if_pos rfl] at e2
    exact pair_fin e1 e2 rfl
  rw [d1, bI_s, if_neg (by decide)] at e1
  rw [d2, bI_s, if_neg (by decide), x1, bI_s, m_fillsPot hLc hd, bI_s] at e2
  have f7 : Eo mQ Mc (fl Mc 438 0 6 (potD Mc lv nf d)) := fun c j w => fl_out (by unfold mQ at w; omega)
  have hp7 : ∀ i, i < 6 → fl Mc 438 0 6 (potD Mc lv nf d) 438 i = potD Mc lv nf d i := fun i hi => by rw [fl_in (by omega), Nat.sub_zero]
  have r7 : ∀ k, k < 38 → fl Mc 438 0 6 (potD Mc lv nf d) 437 k = M 436 k := fun k hk => by rw [fl_out (by omega)]; exact x2 k hk
  generalize fl Mc 438 0 6 (potD Mc lv nf d) = N at f7 hp7 r7 e2
  have hN := hLc.kQ f7
  have mN : ∀ c j, 411 ≤ c → c ≤ 432 → N c j = M c j := fun c j a b => (mQ_M f7 c j a b).trans (mc c j a b)
  have hpN : ∀ i, i < 6 → N 438 i = potD N lv nf d i := fun i hi => by
    rw [hp7 i hi]
    unfold potD
    rw [mQ_M f7 417 _ (by decide) (by decide)]
  have hPot : Pot N lv nf d none := fun i hi => by rw [hpN i hi, if_neg (by simp)]
  rw [hN.l18] at e2
  have gd : ¬ ((5 : Int32) * nI lv + nI d < 0 ∨ 10 ≤ ((5 : Int32) * nI lv + nI d).toNatClampNeg) := by rw [show (5 : Int32) = nI 5 from rfl, nI_mul, nI_add]; exact nI_in (by omega) (by omega)
  have gc : ((5 : Int32) * nI lv + nI d).toNatClampNeg = 5 * lv + d := by rw [show (5 : Int32) = nI 5 from rfl, nI_mul, nI_add, nI_clamp (by omega)]
  by_cases b0 : b = 0
  · rw [if_pos b0, s_at (by omega) (by decide), bI_s] at e1
    rw [if_pos b0, if_neg gd, gc] at e2
    exact pair_fin e1 e2 (by rw [hL.htE hd, mN 416 _ (by decide) (by decide)])
  rw [if_neg b0] at e1 e2
  by_cases b1 : b = 1
  · rw [if_pos b1, c_manyIn hL hd, bI_s] at e1
    rw [if_pos b1, m_potMany, bI_s] at e2
    exact pair_fin e1 e2 (by rw [potD_man hpN h6, manS_k mN])
  rw [if_neg b1] at e1 e2
  by_cases b2 : b = 2
  · rw [if_pos b2, c_priceOf hL hd, bI_s] at e1
    rw [if_pos b2, m_potPrice hN, bI_s] at e2
    exact pair_fin e1 e2 (by rw [potD_pri hpN h6, priS_k mN])
  rw [if_neg b2] at e1 e2
  have cf : ∀ j, j < 3 → ∃ X, F_Land_dishForce ld (nI d) (-2) (nI j) (M 64 0) M = some (disS M lv nf d none j (M 64 0), X) := fun j hj => by
    obtain ⟨X, y1, _⟩ := c_dishForce hL (d := d) (j := j) (more := none) (day := M 64 0) hd hj (fun f w => by cases w)
    exact ⟨X, y1⟩
  have mf : ∀ j, j < 3 → ∃ X, F_Mod_forceBy (nI j) (N 416 (5 * lv + d)) N = some (disS M lv nf d none j (M 64 0), X) := fun j hj => by
    obtain ⟨X, y1, _⟩ := hPot.force hN (j := j) (fun f w => by cases w) hj
    rw [disS_k mN, r7 35 (by omega), ← hS.1.d0] at y1
    exact ⟨X, y1⟩
  by_cases b3 : b = 3
  · obtain ⟨X, y1⟩ := cf 0 (by decide)
    obtain ⟨Y, y2⟩ := mf 0 (by decide)
    rw [if_pos b3, b3, show ((3 : Int32) - 3) = nI 0 from rfl, y1, bI2_s] at e1
    rw [if_pos b3, if_neg gd, gc, b3, show ((3 : Int32) - 3) = nI 0 from rfl, y2, bI2_s] at e2
    exact pair_fin e1 e2 rfl
  rw [if_neg b3] at e1 e2
  by_cases b4 : b = 4
  · obtain ⟨X, y1⟩ := cf 1 (by decide)
    obtain ⟨Y, y2⟩ := mf 1 (by decide)
    rw [if_pos b4, b4, show ((4 : Int32) - 3) = nI 1 from rfl, y1, bI2_s] at e1
    rw [if_pos b4, if_neg gd, gc, b4, show ((4 : Int32) - 3) = nI 1 from rfl, y2, bI2_s] at e2
    exact pair_fin e1 e2 rfl
  rw [if_neg b4] at e1 e2
  by_cases b5 : b = 5
  · obtain ⟨X, y1⟩ := cf 2 (by decide)
    obtain ⟨Y, y2⟩ := mf 2 (by decide)
    rw [if_pos b5, b5, show ((5 : Int32) - 3) = nI 2 from rfl, y1, bI2_s] at e1
    rw [if_pos b5, if_neg gd, gc, b5, show ((5 : Int32) - 3) = nI 2 from rfl, y2, bI2_s] at e2
    exact pair_fin e1 e2 rfl
  rw [if_neg b5] at e1 e2
  by_cases b6 : b = 6
  · rw [if_pos b6, s_at (by omega) (by decide), bI_s] at e1
    rw [if_pos b6, show (6 : Int32) = nI 6 from rfl, nI_add, if_neg (nI_in (by omega) (by omega)), nI_clamp (by omega)] at e2
    exact pair_fin e1 e2 (by rw [r7 _ (by omega)]; exact hS.1.2.2.2.2.2.2.1 d (by omega))
  rw [if_neg b6] at e1 e2
  exact pair_fin e1 e2 rfl
theorem v_guest (h : G1 q ld M L) (hq : q < 512) (a b : Int32) : ∃ r M1 r' M2, F_Main_guest ld a b M = some (r, M1) ∧ F_Mod_guest a b M1 = some (r', M2) ∧ G1 (q + 1) ld M2 L ∧ r = r' := by
  obtain ⟨r, M1, e1, -, k1⟩ := tf_Main_guest (p1 := a) (p2 := b) (M := M) h.1.la
  have g1 := h.1.kC0 k1
  obtain ⟨r', M2, e2, -, k2⟩ := tf_Mod_guest (p0 := a) (p1 := b) g1.inv
  refine ⟨r, M1, r', M2, e1, e2, h.q2 (g1.kM1 k2) (k1.mono C0_C1) k2, ?_⟩
  obtain ⟨lv, nf, nd, ng, ne, hL, hS⟩ := h.get
  obtain ⟨hL1, m1, Mc, x1, x2, x3, hLc, mc⟩ := cop hL (k1.mono C0_C1)
  have h4 := hL.ng4
  have h1 := hL.l1
  unfold F_Main_guest at e1
  unfold F_Mod_guest at e2
  rw [hL.cg] at e1
  rcases m_isGuest hL1 a with ⟨d1, d2⟩ | ⟨g, hg, rfl, d1, d2⟩
  · rw [d1, bI_s, if_pos rfl] at e1
    rw [d2, bI_s, if_pos rfl] at e2
    exact pair_fin e1 e2 rfl
  rw [d1, bI_s, if_neg (by decide)] at e1
  rw [d2, bI_s, if_neg (by decide), x1, bI_s, hLc.l18] at e2
  obtain ⟨⟨day, dd1, dd2, dd3, dd4⟩, s1, s2, s3, s4, s5, s6, s7⟩ := id hS.1
  obtain ⟨ml, n1, n2, n3, n4⟩ := dd4 g (by omega)
  by_cases b0 : b = 0
  · rw [if_pos b0, s_at (by omega) (by decide), bI_s] at e1
    rw [if_pos b0, show (4 : Int32) = nI 4 from rfl, nI_mul, nI_add, if_neg (nI_in (by omega) (by omega)), nI_clamp (by omega)] at e2
    exact pair_fin e1 e2 (by rw [hL.pa hg, mc 419 _ (by decide) (by decide)])
  rw [if_neg b0] at e1 e2
  by_cases b1 : b = 1
  · rw [if_pos b1, c_hasEaten hS.1 (by omega) (by omega) (by omega), bI_s] at e1
    rw [if_pos b1, show (15 : Int32) = nI 15 from rfl, nI_add, if_neg (nI_in (by omega) (by omega)), nI_clamp (by omega), x2 _ (by omega)] at e2
    by_cases w : 0 ≤ M 436 (15 + g)
    · unfold F_State_agoOf at e1
      rw [if_pos w, if_neg (by decide), s_at (by omega) (by decide), bI_s, bI_s] at e1
      rw [if_pos w, if_neg (not_or.mpr ⟨nI_pos (by omega), by omega⟩), x2 _ (by omega)] at e2
      refine pair_fin e1 e2 ?_
      have e5 : M (64 + 5) g = M 436 (15 + g) := by
        rcases n4 with ⟨_, m6⟩ | ⟨_, e, _, m7, m8⟩
        · rw [m6] at w; exact absurd w (by decide)
        · rw [m7, m8]
      rw [e5, hS.1.d0]
    · rw [if_neg w, if_pos rfl] at e1
      rw [if_neg w] at e2
      exact pair_fin e1 e2 rfl
  rw [if_neg b1] at e1 e2
  by_cases b2 : b = 2
  · rw [if_pos b2, s_at (by omega) (by decide), bI_s] at e1
    rw [if_pos b2, show (31 : Int32) = nI 31 from rfl, nI_add, if_neg (nI_in (by omega) (by omega)), nI_clamp (by omega)] at e2
    exact pair_fin e1 e2 (by rw [x2 _ (by omega), n2, n3])
  rw [if_neg b2] at e1 e2
  have cf : ∀ j, j < 3 → ∃ X, F_State_boundOf 64 ld (nI g) (nI j) 0 M = some (bowS M lv (M 436) g j 0, X) := fun j hj => by
    obtain ⟨X, y1, _⟩ := c_boundOf hL hS.1 (by omega) (by omega) (g := g) (j := j) (ahead := 0) hg hj
    exact ⟨X, y1⟩
  have mf : ∀ j, j < 3 → ∃ X, F_Mod_boundNow (nI g) (nI j) Mc = some (bowS M lv (M 436) g j 0, X) := fun j hj => by
    obtain ⟨X, y1, _⟩ := m_boundNow hLc (g := g) (j := j) (by omega) hj
    rw [bowS_k mc, bowS_r (by omega) hj x2] at y1
    exact ⟨X, y1⟩
  by_cases b3 : b = 3
  · obtain ⟨X, y1⟩ := cf 0 (by decide)
    obtain ⟨Y, y2⟩ := mf 0 (by decide)
    rw [if_pos b3, b3, show ((3 : Int32) - 3) = nI 0 from rfl, y1, bI2_s] at e1
    rw [if_pos b3, b3, show ((3 : Int32) - 3) = nI 0 from rfl, y2, bI2_s] at e2
    exact pair_fin e1 e2 rfl
  rw [if_neg b3] at e1 e2
  by_cases b4 : b = 4
  · obtain ⟨X, y1⟩ := cf 1 (by decide)
    obtain ⟨Y, y2⟩ := mf 1 (by decide)
    rw [if_pos b4, b4, show ((4 : Int32) - 3) = nI 1 from rfl, y1, bI2_s] at e1
    rw [if_pos b4, b4, show ((4 : Int32) - 3) = nI 1 from rfl, y2, bI2_s] at e2
    exact pair_fin e1 e2 rfl
  rw [if_neg b4] at e1 e2
  by_cases b5 : b = 5
  · obtain ⟨X, y1⟩ := cf 2 (by decide)
    obtain ⟨Y, y2⟩ := mf 2 (by decide)
    rw [if_pos b5, b5, show ((5 : Int32) - 3) = nI 2 from rfl, y1, bI2_s] at e1
    rw [if_pos b5, b5, show ((5 : Int32) - 3) = nI 2 from rfl, y2, bI2_s] at e2
    exact pair_fin e1 e2 rfl
  rw [if_neg b5] at e1 e2
  exact pair_fin e1 e2 rfl
/-! a new object, both halves -/
theorem VZ_start : VZ M00 := fun c j hc hj => by
  have h1 := vz_va hc
  unfold vaC at h1
  have key : ∀ c, (c = 23 ∨ c = 27 ∨ c = 31 ∨ c = 35 ∨ c = 49 ∨ c = 53 ∨ c = 57 ∨ c = 61) → ∀ j, j < 9 → M00 c j = 0 := fun c hc => by
    rcases hc with e | e | e | e | e | e | e | e <;> subst e <;> decide +kernel
  exact key c h1 j hj
theorem St_start : St 0 0 0 64 (M00 436) M00 := by
  refine ⟨⟨0, by decide, by decide +kernel, by decide +kernel, fun g hg => ⟨0, by decide, ?_, ?_, Or.inl ⟨rfl, ?_⟩⟩⟩, by decide +kernel, by decide +kernel, by decide +kernel, fun j hj => ?_, fun f hf => ⟨0, by decide, ?_, ?_, fun _ => rfl⟩, fun d hd => ?_, fun i hi => ?_⟩
  · exact (by decide +kernel : ∀ g, g < 4 → M00 (64 + 4) g = nI 0) g hg
  · exact (by decide +kernel : ∀ g, g < 4 → M00 436 (31 + g) = nI 0) g hg
  · exact (by decide +kernel : ∀ g, g < 4 → M00 436 (15 + g) = -2) g hg
  · exact (by decide +kernel : ∀ j, j < 3 → M00 (64 + 1) j = M00 436 (12 + j)) j hj
  · exact (by decide +kernel : ∀ f, f < 6 → M00 (64 + 2) f = nI 0) f hf
  · exact (by decide +kernel : ∀ f, f < 6 → M00 436 f = nI 0) f hf
  · exact (by decide +kernel : ∀ d, d < 5 → M00 (64 + 3) d = M00 436 (6 + d)) d hd
  · exact (by decide +kernel : ∀ i, i < 12 → M00 (64 + 6) i = M00 436 (19 + i)) i hi
theorem G1_start : G1 0 12 M00 L00 := ⟨G0_start, VZ_start, 0, by decide, by decide +kernel, St_start, ⟨0, 0, by decide, by decide, by decide +kernel, by decide +kernel, by decide +kernel, fun i hi => absurd hi (Nat.not_lt_zero _)⟩, fun s hs e => by
  rw [(by decide +kernel : ∀ s, s < 3 → M00 445 s = 0) s hs] at e
  exact absurd e (by decide)⟩
end QU
end PAR40
end MG15x2
section MG15x3
/-! what is asked, second row: deed, hunger, boundIn, stockIn -/
section PAR42
section QV
theorem gt_I {a b : Nat} (ha : a < 2 ^ 31) (hb : b < 2 ^ 31) : (nI a < nI b) ↔ a < b := by
  rw [← Int32.not_le, nI_leI hb ha]; omega
/-- bits set one by one -/
def frP (p : Nat → Bool) : Nat → Int32
  | 0 => 0
  | n + 1 => if p n then frP p n else frP p n ||| (1 <<< (nI n &&& 31))
def q6 (b0 b1 b2 b3 b4 b5 : Bool) : Nat → Bool
  | 0 => b0
  | 1 => b1
  | 2 => b2
  | 3 => b3
  | 4 => b4
  | _ => b5
theorem frP_c {p p' : Nat → Bool} : ∀ n, (∀ i, i < n → p i = p' i) → frP p n = frP p' n
  | 0, _ => rfl
  | n + 1, h => by unfold frP; rw [frP_c n (fun i hi => h i (by omega)), h n (by omega)]
theorem q6_e (p : Nat → Bool) {i : Nat} (hi : i < 6) : p i = q6 (p 0) (p 1) (p 2) (p 3) (p 4) (p 5) i := by
  rcases (show i = 0 ∨ i = 1 ∨ i = 2 ∨ i = 3 ∨ i = 4 ∨ i = 5 by omega) with q | q | q | q | q | q <;> subst q <;> rfl
theorem bit_all : ∀ b0 b1 b2 b3 b4 b5 : Bool, ∀ n, n < 7 → ∀ e, e < n → F_Main_hasBit (frP (q6 b0 b1 b2 b3 b4 b5) n) (nI e) = some (if q6 b0 b1 b2 b3 b4 b5 e then 0 else 1) := by decide +kernel
theorem frP_bit {p : Nat → Bool} {n e : Nat} (hn : n ≤ 6) (he : e < n) : F_Main_hasBit (frP p n) (nI e) = some (if p e then 0 else 1) := by
  rw [frP_c (p' := q6 (p 0) (p 1) (p 2) (p 3) (p 4) (p 5)) n (fun i hi => q6_e p (by omega)), bit_all _ _ _ _ _ _ n (by omega) e he, ← q6_e p (by omega)]
theorem bits_e (x : Int32) : F_Mod_bits x = some (0 + ((x >>> (nI 0 &&& 31)) &&& 1) + ((x >>> (nI 1 &&& 31)) &&& 1) + ((x >>> (nI 2 &&& 31)) &&& 1) + ((x >>> (nI 3 &&& 31)) &&& 1) + ((x >>> (nI 4 &&& 31)) &&& 1) + ((x >>> (nI 5 &&& 31)) &&& 1)) := by
  unfold F_Mod_bits
  obtain ⟨g, hg⟩ := FU_k 7 (by omega)
  have step : ∀ (f k : Nat) (acc : Int32), k < 6 → H_Mod_bits_4 x (f + 1) acc (nI k) = H_Mod_bits_4 x f (acc + ((x >>> (nI k &&& 31)) &&& 1)) (nI (k + 1)) := fun f k acc hk => by
    show B_Mod_bits_4 x (H_Mod_bits_4 x f) acc (nI k) = _
    unfold B_Mod_bits_4
    rw [show (6 : Int32) = nI 6 from rfl, if_neg (by rw [nI_leI (by omega) (by omega)]; omega), nmI_e, nmI_e, nI_1]
  rw [hg, show H_Mod_bits_4 x (g + 7) 0 0 = H_Mod_bits_4 x (g + 6 + 1) 0 (nI 0) from rfl, step (g + 6) 0 0 (by decide), step (g + 5) 1 _ (by decide), step (g + 4) 2 _ (by decide), step (g + 3) 3 _ (by decide), step (g + 2) 4 _ (by decide), step (g + 1) 5 _ (by decide)]
  show B_Mod_bits_4 x (H_Mod_bits_4 x g) _ (nI 6) = _
  unfold B_Mod_bits_4
  rw [if_pos (by decide)]
theorem st71 : isSt 71 := (by decide : (71 : Nat) ∈ lSt)
def bcS (x : Int32) : Int32 := 0 + ((x >>> (nI 0 &&& 31)) &&& 1) + ((x >>> (nI 1 &&& 31)) &&& 1) + ((x >>> (nI 2 &&& 31)) &&& 1) + ((x >>> (nI 3 &&& 31)) &&& 1) + ((x >>> (nI 4 &&& 31)) &&& 1) + ((x >>> (nI 5 &&& 31)) &&& 1)
theorem cnt_all : ∀ b0 b1 b2 b3 b4 b5 : Bool, ∀ n, n < 7 → F_Int_bitCount (frP (q6 b0 b1 b2 b3 b4 b5) n) = some (bcS (frP (q6 b0 b1 b2 b3 b4 b5) n)) ∧ 0 ≤ bcS (frP (q6 b0 b1 b2 b3 b4 b5) n) := by decide +kernel
variable {D Q q ld lv nf nd ng ne : Nat} {M M1 Mc : gM} {L : gL} {r : Nat → Int32}
theorem frS_P {b : Nat → Int32} : ∀ n, frS M lv b n = frP (fun e => decide (M 422 (6 * lv + e) ≤ b (M 421 (6 * lv + e)).toInt.toNat)) n
  | 0 => rfl
  | n + 1 => by
    unfold frS frP
    rw [frS_P n]
    by_cases w : M 422 (6 * lv + n) ≤ b (M 421 (6 * lv + n)).toInt.toNat
    · rw [if_pos w, if_pos (decide_eq_true w)]
    · rw [if_neg w, if_neg (by rw [decide_eq_true_eq]; exact w)]
theorem frS_bit {b : Nat → Int32} {n e : Nat} (hn : n ≤ 6) (he : e < n) : F_Main_hasBit (frS M lv b n) (nI e) = some (if M 422 (6 * lv + e) ≤ b (M 421 (6 * lv + e)).toInt.toNat then 0 else 1) := by
  rw [frS_P, frP_bit hn he]
  by_cases w : M 422 (6 * lv + e) ≤ b (M 421 (6 * lv + e)).toInt.toNat
  · rw [if_pos w, if_pos (decide_eq_true w)]
  · rw [if_neg w, if_neg (by rw [decide_eq_true_eq]; exact w)]
theorem frS_cnt {b : Nat → Int32} {n : Nat} (hn : n ≤ 6) : F_Int_bitCount (frS M lv b n) = some (bcS (frS M lv b n)) ∧ F_Mod_bits (frS M lv b n) = some (bcS (frS M lv b n)) ∧ 0 ≤ bcS (frS M lv b n) := by
  refine ⟨?_, bits_e _, ?_⟩
  · rw [frS_P, frP_c (p' := q6 _ _ _ _ _ _) n (fun i hi => q6_e _ (by omega))]
    exact (cnt_all _ _ _ _ _ _ n (by omega)).1
  · rw [frS_P, frP_c (p' := q6 _ _ _ _ _ _) n (fun i hi => q6_e _ (by omega))]
    exact (cnt_all _ _ _ _ _ _ n (by omega)).2
theorem bowS_sh {r r' : Nat → Int32} {a : Int32} {g j : Nat} (hg : g < 4) (hj : j < 3) (e : ∀ k, k < 35 → r' k = r k) (e35 : r' 35 = r 35 + a) : bowS M lv r' g j 0 = bowS M lv r g j a := by
  unfold bowS
  rw [e (15 + g) (by omega), e (19 + 3 * g + j) (by omega), e35, Int32.add_zero, Int32.add_zero, show r 35 + a - r (15 + g) = r 35 - r (15 + g) + a by rw [Int32.sub_eq_add_neg, Int32.sub_eq_add_neg, i_ac]]
/-- both loops over the guests -/
theorem deed_loop (hL : Lnd ld lv nf nd ng ne M) (hS : St D Q nf 64 r M) (hD : D < 2 ^ 31) (hQ : Q < 2 ^ 31) (hLc : Lnd ld lv nf nd ng ne Mc) (mc : ∀ c j, 411 ≤ c → c ≤ 432 → Mc c j = M c j) (rc : ∀ k, k < 38 → Mc 437 k = r k) {e : Nat} (he : e < ne) :
    ∀ (s k f f' : Nat) (N N' : gM) (acc : Int32), k + s = ng → Kl C0 M zL N zL → Eo mV Mc N' → ∃ v X Y, H_Main_guestsFreeTo_4 ld (nI e) (f + 1 + s) acc (nI k) N = some (v, X) ∧ H_Mod_deed_75 (nI e) (f' + 1 + s) acc (nI k) N' = some (v, Y) := by
  have h4 := hL.ng4
  have h6 := hL.ne6
  have h1 := hL.l1
  obtain ⟨x, hx, ex0, ex⟩ := hL.df he
  intro s
  induction s with
  | zero =>
    intro k f f' N N' acc hk kN kN'
    obtain rfl : k = ng := by omega
    have hN := hL.k0 kN
    have hN' := hLc.kV kN'
    refine ⟨acc, N, N', ?_, ?_⟩
    · show B_Main_guestsFreeTo_4 ld (nI e) (H_Main_guestsFreeTo_4 ld (nI e) f) acc (nI k) N = _
      unfold B_Main_guestsFreeTo_4
      rw [hN.cg, if_pos (by rw [nI_leI (by omega) (by omega)]; omega)]
    · show B_Mod_deed_75 (nI e) (H_Mod_deed_75 (nI e) f') acc (nI k) N' = _
      unfold B_Mod_deed_75
      rw [hN'.l18, if_neg (nI_in (by omega) (by omega)), nI_clamp (by omega), hN'.mg, if_pos (by rw [nI_leI (by omega) (by omega)]; omega)]
  | succ s ih =>
    intro k f f' N N' acc hk kN kN'
    have hN := hL.k0 kN
    have hN' := hLc.kV kN'
    have mN := k0_M kN
    have mN' : ∀ c j, 411 ≤ c → c ≤ 432 → N' c j = M c j := fun c j a b => (mV_M kN' c j a b).trans (mc c j a b)
    have e437 : ∀ i, i < 38 → N' 437 i = r i := fun i hi => (kN' 437 i (by unfold mV; omega)).trans (rc i hi)
    obtain ⟨X, y1, y2⟩ := c_freeOf hN (hS.k0 st64 kN) st64 hD hQ (g := k) (ahead := 0) (by omega)
    obtain ⟨Y, z1, z2⟩ := m_isFree hN' (g := k) (e := e) (by omega) he
    have hb : (fun j => bowS N lv r k j 0) = fun j => bowS M lv r k j 0 := funext fun j => bowS_k mN
    rw [hb, frS_k mN] at y1
    rw [mN' 422 _ (by decide) (by decide), mN' 421 _ (by decide) (by decide), bowS_k mN', ex, nI_tn (by omega), bowS_r (by omega) (by omega) e437] at z1
    have hbit : F_Main_hasBit (frS M lv (fun j => bowS M lv r k j 0) ne) (nI e) = some (if M 422 (6 * lv + e) ≤ bowS M lv r k x 0 then 0 else 1) := by
      rw [frS_bit h6 he, ex, nI_tn (by omega)]
    have c1 : ∀ K, B_Main_guestsFreeTo_4 ld (nI e) K acc (nI k) N = K (if M 422 (6 * lv + e) ≤ bowS M lv r k x 0 then acc else acc ||| (1 <<< (nI k &&& 31))) (nI (k + 1)) X := fun K => by
      unfold B_Main_guestsFreeTo_4 J_Main_guestsFreeTo_41
      rw [hN.cg, if_neg (by rw [nI_leI (by omega) (by omega)]; omega), y1, bI2_s, hbit, bI_s, nmI_e, nmI_e, nmI_e, nI_1]
      by_cases w : M 422 (6 * lv + e) ≤ bowS M lv r k x 0
      · rw [if_pos w, if_pos w, if_pos rfl]
      · rw [if_neg w, if_neg w, if_neg (by decide)]
    have c2 : ∀ K, B_Mod_deed_75 (nI e) K acc (nI k) N' = K (if M 422 (6 * lv + e) ≤ bowS M lv r k x 0 then acc else acc ||| (1 <<< (nI k &&& 31))) (nI (k + 1)) Y := fun K => by
      unfold B_Mod_deed_75 J_Mod_deed_106
      rw [hN'.l18, if_neg (nI_in (by omega) (by omega)), nI_clamp (by omega), hN'.mg, if_neg (by rw [nI_leI (by omega) (by omega)]; omega), z1, bI2_s, nmI_e, nmI_e, nmI_e, nI_1]
      by_cases w : M 422 (6 * lv + e) ≤ bowS M lv r k x 0
      · rw [if_pos w, if_pos w, if_pos rfl]
      · rw [if_neg w, if_neg w, if_neg (by decide)]
    obtain ⟨v, X', Y', u1, u2⟩ := ih (k + 1) f f' X Y (if M 422 (6 * lv + e) ≤ bowS M lv r k x 0 then acc else acc ||| (1 <<< (nI k &&& 31))) (by omega) (kN.trans y2) (kN'.tr z2)
    exact ⟨v, X', Y', (c1 _).trans u1, (c2 _).trans u2⟩
theorem v_deed (h : G1 q ld M L) (hq : q < 512) (a b : Int32) : ∃ r M1 r' M2, F_Main_deed ld a b M = some (r, M1) ∧ F_Mod_deed a b M1 = some (r', M2) ∧ G1 (q + 1) ld M2 L ∧ r = r' := by
  obtain ⟨r, M1, e1, -, k1⟩ := tf_Main_deed (p1 := a) (p2 := b) (M := M) h.1.la
  have g1 := h.1.kC0 k1
  obtain ⟨r', M2, e2, -, k2⟩ := tf_Mod_deed (p0 := a) (p1 := b) g1.inv
  refine ⟨r, M1, r', M2, e1, e2, h.q2 (g1.kM1 k2) (k1.mono C0_C1) k2, ?_⟩
  obtain ⟨lv, nf, nd, ng, ne, hL, hS⟩ := h.get
  obtain ⟨hL1, m1, Mc, x1, x2, x3, hLc, mc⟩ := cop hL (k1.mono C0_C1)
  have h4 := hL.ng4
  have h6 := hL.ne6
  have h1 := hL.l1
  unfold F_Main_deed at e1
  unfold F_Mod_deed at e2
  rw [hL.ce] at e1
  rcases m_isDeed hL1 a with ⟨d1, d2⟩ | ⟨e, he, rfl, d1, d2⟩
  · rw [d1, bI_s, if_pos rfl] at e1
    rw [d2, bI_s, if_pos rfl] at e2
    exact pair_fin e1 e2 rfl
  rw [d1, bI_s, if_neg (by decide)] at e1
  rw [d2, bI_s, if_neg (by decide), x1, bI_s, hLc.l18] at e2
  obtain ⟨x, hx, ex0, ex⟩ := hL.df he
  have gd : ¬ ((6 : Int32) * nI lv + nI e < 0 ∨ 12 ≤ ((6 : Int32) * nI lv + nI e).toNatClampNeg) := by rw [show (6 : Int32) = nI 6 from rfl, nI_mul, nI_add]; exact nI_in (by omega) (by omega)
  have gc : ((6 : Int32) * nI lv + nI e).toNatClampNeg = 6 * lv + e := by rw [show (6 : Int32) = nI 6 from rfl, nI_mul, nI_add, nI_clamp (by omega)]
  by_cases b0 : b = 0
  · rw [if_pos b0, s_at (by omega) (by decide), bI_s, ex0] at e1
    rw [if_pos b0, if_neg gd, gc, mc 421 _ (by decide) (by decide), ex] at e2
    exact pair_fin e1 e2 rfl
  rw [if_neg b0] at e1 e2
  by_cases b1 : b = 1
  · rw [if_pos b1, s_at (by omega) (by decide), bI_s, hL.dl he] at e1
    rw [if_pos b1, if_neg gd, gc, mc 422 _ (by decide) (by decide)] at e2
    exact pair_fin e1 e2 rfl
  rw [if_neg b1] at e1 e2
  by_cases b2 : b = 2
  · obtain ⟨g, hg⟩ := FU_k (1 + ng) (by omega)
    obtain ⟨v, X, Y, u1, u2⟩ := deed_loop hL hS.1 (by omega) (by omega) hLc mc x2 he ng 0 g g M Mc 0 (Nat.zero_add _) Kl.rf Eo.rf
    have c1 : F_Main_guestsFreeTo ld (nI e) M = some (v, X) := by unfold F_Main_guestsFreeTo; rw [hg, ← Nat.add_assoc]; exact u1
    have c2 : H_Mod_deed_75 (nI e) FU 0 0 Mc = some (v, Y) := by rw [hg, ← Nat.add_assoc]; exact u2
    rw [if_pos b2, c1, bI2_s] at e1
    rw [if_pos b2, c2] at e2
    exact pair_fin e1 e2 rfl
  rw [if_neg b2] at e1 e2
  exact pair_fin e1 e2 rfl
/-- both loops over the days to come -/
theorem hun_loop (hL : Lnd ld lv nf nd ng ne M) (hS : St D Q nf 64 r M) (hD : D < 2 ^ 31) (hQ : Q < 2 ^ 31) (hLc : Lnd ld lv nf nd ng ne Mc) (mc : ∀ c j, 411 ≤ c → c ≤ 432 → Mc c j = M c j) {g e x : Nat} (hg : g < ng) (he : e < ne) (hx : x ≤ 2) (ex : M 421 (6 * lv + e) = nI x) :
    ∀ (s n f f' : Nat) (N N' : gM), n + s = 100 → Kl C0 M zL N zL → Eo mQ Mc N' → (∀ k, k < 35 → N' 437 k = r k) → N' 437 35 = r 35 + nI n → ∃ v X Y, H_Main_hunger_45 ld (nI g) (nI e) (nI x) (f + 1 + s) (nI n) N = some (v, X) ∧ H_Mod_hunger_24 (nI g) (nI e) (f' + 1 + s) (nI n) N' = some (v, Y) := by
  have h4 := hL.ng4
  have h6 := hL.ne6
  have h1 := hL.l1
  intro s
  induction s with
  | zero =>
    intro n f f' N N' hn kN kN' q1 q2
    obtain rfl : n = 100 := by omega
    refine ⟨-2, N, N', ?_, ?_⟩
    · show B_Main_hunger_45 ld (nI g) (nI e) (nI x) (H_Main_hunger_45 ld (nI g) (nI e) (nI x) f) (nI 100) N = _
      unfold B_Main_hunger_45
      rw [if_pos (by decide)]
    · show B_Mod_hunger_24 (nI g) (nI e) (H_Mod_hunger_24 (nI g) (nI e) f') (nI 100) N' = _
      unfold B_Mod_hunger_24
      rw [if_pos (by decide)]
  | succ s ih =>
    intro n f f' N N' hn kN kN' q1 q2
    have hN := hL.k0 kN
    have hN' := hLc.kQ kN'
    have mN := k0_M kN
    have mN' : ∀ c j, 411 ≤ c → c ≤ 432 → N' c j = M c j := fun c j a b => (mQ_M kN' c j a b).trans (mc c j a b)
    obtain ⟨X, y1, y2⟩ := c_boundOf hN (hS.k0 st64 kN) hD hQ (g := g) (j := x) (ahead := nI n) hg (by omega)
    obtain ⟨Y, z1, z2⟩ := m_isFree hN' (g := g) (e := e) (by omega) he
    rw [bowS_k mN] at y1
    rw [mN' 422 _ (by decide) (by decide), mN' 421 _ (by decide) (by decide), bowS_k mN', ex, nI_tn (by omega), bowS_sh (by omega) (by omega) q1 q2] at z1
    have d1 : F_Main_at (ld + 8) 6 (nI e) X = some (M 422 (6 * lv + e)) := by
      rw [s_at (by omega) (by decide), (hN.k0 y2).dl he, k0_M y2 422 _ (by decide) (by decide), mN 422 _ (by decide) (by decide)]
    have n99 : ¬ (99 : Int32) < nI n := by rw [show (99 : Int32) = nI 99 from rfl, gt_I (by omega) (by omega)]; omega
    by_cases w : M 422 (6 * lv + e) ≤ bowS M lv r g x (nI n)
    · have e35 : Y 437 35 = r 35 + nI n := (z2 437 35 (by unfold mV; omega)).trans q2
      obtain ⟨v, X', Y', u1, u2⟩ := ih (n + 1) f f' X (uM Y 437 35 (r 35 + nI n + 1)) (by omega) (kN.trans y2) ((kN'.tr (z2.mono mV_mQ)).u (by unfold mQ; omega)) (fun k hk => by rw [uM_diff (by omega), z2 437 k (by unfold mV; omega)]; exact q1 k hk) (by rw [uM_same, Int32.add_assoc, nI_1])
      refine ⟨v, X', Y', ?_, ?_⟩
      · rw [← u1]
        show B_Main_hunger_45 ld (nI g) (nI e) (nI x) (H_Main_hunger_45 ld (nI g) (nI e) (nI x) (f + 1 + s)) (nI n) N = _
        unfold B_Main_hunger_45
        rw [if_neg n99, y1, bI2_s, d1, bI_s, if_pos w, nmI_e, nI_1]
      · rw [← u2]
        show B_Mod_hunger_24 (nI g) (nI e) (H_Mod_hunger_24 (nI g) (nI e) (f' + 1 + s)) (nI n) N' = _
        unfold B_Mod_hunger_24
        rw [if_neg n99, z1, bI2_s, if_pos w, if_pos rfl, nmM_e, nmI_e, nI_1, e35]
    · refine ⟨nI n, X, Y, ?_, ?_⟩
      · show B_Main_hunger_45 ld (nI g) (nI e) (nI x) (H_Main_hunger_45 ld (nI g) (nI e) (nI x) (f + 1 + s)) (nI n) N = _
        unfold B_Main_hunger_45
        rw [if_neg n99, y1, bI2_s, d1, bI_s, if_neg w]
      · show B_Mod_hunger_24 (nI g) (nI e) (H_Mod_hunger_24 (nI g) (nI e) (f' + 1 + s)) (nI n) N' = _
        unfold B_Mod_hunger_24
        rw [if_neg n99, z1, bI2_s, if_neg w, if_neg (by decide)]
theorem v_hunger (h : G1 q ld M L) (hq : q < 512) (a b : Int32) : ∃ r M1 r' M2, F_Main_hunger ld a b M = some (r, M1) ∧ F_Mod_hunger a b M1 = some (r', M2) ∧ G1 (q + 1) ld M2 L ∧ r = r' := by
  obtain ⟨r, M1, e1, -, k1⟩ := tf_Main_hunger (p1 := a) (p2 := b) (M := M) h.1.la
  have g1 := h.1.kC0 k1
  obtain ⟨r', M2, e2, -, k2⟩ := tf_Mod_hunger (p0 := a) (p1 := b) g1.inv
  refine ⟨r, M1, r', M2, e1, e2, h.q2 (g1.kM1 k2) (k1.mono C0_C1) k2, ?_⟩
  obtain ⟨lv, nf, nd, ng, ne, hL, hS⟩ := h.get
  obtain ⟨hL1, m1, Mc, x1, x2, x3, hLc, mc⟩ := cop hL (k1.mono C0_C1)
  have h4 := hL.ng4
  have h6 := hL.ne6
  have h1 := hL.l1
  unfold F_Main_hunger at e1
  unfold F_Mod_hunger at e2
  rw [hL.cg] at e1
  rcases m_isGuest hL1 a with ⟨d1, d2⟩ | ⟨g, hg, rfl, d1, d2⟩
  · rw [d1, bI_s, if_pos rfl] at e1
    rw [d2, bI_s, if_pos rfl] at e2
    exact pair_fin e1 e2 rfl
  rw [d1, bI_s, if_neg (by decide), hL.ce] at e1
  rw [d2, bI_s, if_neg (by decide)] at e2
  rcases m_isDeed hL1 b with ⟨d1, d2⟩ | ⟨e, he, rfl, d1, d2⟩
  · rw [d1, bI_s, if_pos rfl] at e1
    rw [d2, bI_s, if_pos rfl] at e2
    exact pair_fin e1 e2 rfl
  obtain ⟨x, hx, ex0, ex⟩ := hL.df he
  rw [d1, bI_s, if_neg (by decide), s_at (by omega) (by decide), bI_s, ex0] at e1
  rw [d2, bI_s, if_neg (by decide), x1, bI_s] at e2
  obtain ⟨f, hf⟩ := FU_k (1 + 100) (by omega)
  obtain ⟨v, X, Y, u1, u2⟩ := hun_loop hL hS.1 (by omega) (by omega) hLc mc hg he hx ex 100 0 f f M Mc (Nat.zero_add _) Kl.rf Eo.rf (fun k hk => x2 k (by omega)) (by rw [x2 35 (by omega)]; exact (Int32.add_zero _).symm)
  have c1 : H_Main_hunger_45 ld (nI g) (nI e) (nI x) FU 0 M = some (v, X) := by rw [hf, ← Nat.add_assoc]; exact u1
  have c2 : H_Mod_hunger_24 (nI g) (nI e) FU 0 Mc = some (v, Y) := by rw [hf, ← Nat.add_assoc]; exact u2
  rw [c1] at e1
  rw [c2] at e2
  exact pair_fin e1 e2 rfl
theorem long_c (c : Int32) : (F_Mod_isLong c = some 0 ∧ (c < 0 ∨ (¬ c < 0 ∧ ¬ c ≤ 60))) ∨ ∃ n, n ≤ 60 ∧ c = nI n ∧ ¬ c < 0 ∧ c ≤ 60 ∧ F_Mod_isLong c = some 1 := by
  unfold F_Mod_isLong
  rcases in_cases c (a := 0) (b := 60) (by decide) (by decide) with ⟨w1, w2⟩ | ⟨n, _, hn, rfl, w1⟩
  · left
    refine ⟨by rw [show F_Mod_in c 0 60 = some 0 from w1, bI_s, if_pos (Or.inl rfl)], ?_⟩
    by_cases h0 : c < 0
    · exact Or.inl h0
    · refine Or.inr ⟨h0, fun h1 => ?_⟩
      obtain ⟨k, hk, rfl⟩ := nI_of h0
      rw [show (60 : Int32) = nI 60 from rfl, nI_leI (by omega) (by omega)] at h1
      exact w2 ⟨k, by omega, h1, rfl⟩
  · exact Or.inr ⟨n, hn, rfl, nI_pos (by omega), by rw [show (60 : Int32) = nI 60 from rfl, nI_leI (by omega) (by omega)]; exact hn, by rw [show F_Mod_in (nI n) 0 60 = some 1 from w1, bI_s, if_pos (Or.inr rfl)]⟩
theorem v_boundIn (h : G1 q ld M L) (hq : q < 512) (a b c : Int32) : ∃ r M1 r' M2, F_Main_boundIn ld a b c M = some (r, M1) ∧ F_Mod_boundIn a b c M1 = some (r', M2) ∧ G1 (q + 1) ld M2 L ∧ r = r' := by
  obtain ⟨r, M1, e1, -, k1⟩ := tf_Main_boundIn (p1 := a) (p2 := b) (p3 := c) (M := M) h.1.la
  have g1 := h.1.kC0 k1
  obtain ⟨r', M2, e2, -, k2⟩ := tf_Mod_boundIn (p0 := a) (p1 := b) (p2 := c) g1.inv
  refine ⟨r, M1, r', M2, e1, e2, h.q2 (g1.kM1 k2) (k1.mono C0_C1) k2, ?_⟩
  obtain ⟨lv, nf, nd, ng, ne, hL, hS⟩ := h.get
  obtain ⟨hL1, m1, Mc, x1, x2, x3, hLc, mc⟩ := cop hL (k1.mono C0_C1)
  have h4 := hL.ng4
  unfold F_Main_boundIn at e1
  unfold F_Mod_boundIn at e2
  rw [hL.cg] at e1
  rcases m_isGuest hL1 a with ⟨d1, d2⟩ | ⟨g, hg, rfl, d1, d2⟩
  · rw [d1, bI_s, if_pos rfl] at e1
    rw [d2, bI_s, if_pos rfl] at e2
    exact pair_fin e1 e2 rfl
  rw [d1, bI_s, if_neg (by decide)] at e1
  rw [d2, bI_s, if_neg (by decide)] at e2
  rcases one_in0 b (n := 2) (by decide) with ⟨d1, d2⟩ | ⟨j, hj, rfl, d1, d2⟩
  · rw [show F_Main_isOne b 3 = some 0 from d1, bI_s, if_pos rfl] at e1
    rw [show F_Mod_in b 0 2 = some 0 from d2, bI_s, if_pos rfl] at e2
    exact pair_fin e1 e2 rfl
  rw [show F_Main_isOne (nI j) 3 = some 1 from d1, bI_s, if_neg (by decide)] at e1
  rw [show F_Mod_in (nI j) 0 2 = some 1 from d2, bI_s, if_neg (by decide)] at e2
  rcases long_c c with ⟨d2, w⟩ | ⟨n, hn, rfl, w1, w2, d2⟩
  · rw [d2, bI_s, if_pos rfl] at e2
    rcases w with w | ⟨w, w'⟩
    · rw [if_pos w] at e1
      exact pair_fin e1 e2 rfl
    · rw [if_neg w, if_neg w'] at e1
      exact pair_fin e1 e2 rfl
  obtain ⟨X, y1, _⟩ := c_boundOf hL hS.1 (by omega) (by omega) (g := g) (j := j) (ahead := nI n) hg (by omega)
  rw [if_neg w1, if_pos w2, y1, bI2_s] at e1
  rw [d2, bI_s, if_neg (by decide), x1, bI_s, nmM_e] at e2
  have kN : Eo mQ Mc (uM Mc 437 35 (Mc 437 35 + nI n)) := Eo.rf.u (by unfold mQ; omega)
  have n1 : ∀ k, k < 35 → uM Mc 437 35 (Mc 437 35 + nI n) 437 k = M 436 k := fun k hk => by rw [uM_diff (by omega)]; exact x2 k (by omega)
  have n2 : uM Mc 437 35 (Mc 437 35 + nI n) 437 35 = M 436 35 + nI n := by rw [uM_same, x2 35 (by omega)]
  generalize uM Mc 437 35 (Mc 437 35 + nI n) = N at kN n1 n2 e2
  obtain ⟨Y, z1, _⟩ := m_boundNow (hLc.kQ kN) (g := g) (j := j) (by omega) (by omega)
  rw [z1, bI2_s] at e2
  exact pair_fin e1 e2 (by rw [bowS_k (fun c j a b => (mQ_M kN c j a b).trans (mc c j a b)), bowS_sh (by omega) (by omega) n1 n2])
theorem v_stockIn (h : G1 q ld M L) (hq : q < 512) (a b : Int32) : ∃ r M1 r' M2, F_Main_stockIn ld a b M = some (r, M1) ∧ F_Mod_stockIn a b M1 = some (r', M2) ∧ G1 (q + 1) ld M2 L ∧ r = r' := by
  obtain ⟨r, M1, e1, -, k1⟩ := tf_Main_stockIn (p1 := a) (p2 := b) (M := M) h.1.la
  have g1 := h.1.kC1 k1
  obtain ⟨r', M2, e2, -, k2⟩ := tf_Mod_stockIn (p0 := a) (p1 := b) g1.inv
  refine ⟨r, M1, r', M2, e1, e2, h.q2 (g1.kM1 k2) k1 k2, ?_⟩
  obtain ⟨lv, nf, nd, ng, ne, hL, hS⟩ := h.get
  obtain ⟨hL1, m1, Mc, x1, x2, x3, hLc, mc⟩ := cop hL k1
  have h6 := hL.nf6
  unfold F_Main_stockIn at e1
  unfold F_Mod_stockIn at e2
  rw [hL.cf] at e1
  rcases m_isFood hL1 a with ⟨d1, d2⟩ | ⟨f, hf, rfl, d1, d2⟩
  · rw [d1, bI_s, if_pos rfl] at e1
    rw [d2, bI_s, if_pos rfl] at e2
    exact pair_fin e1 e2 rfl
  rw [d1, bI_s, if_neg (by decide)] at e1
  rw [d2, bI_s, if_neg (by decide)] at e2
  rcases long_c b with ⟨d2, w⟩ | ⟨n, hn, rfl, w1, w2, d2⟩
  · rw [d2, bI_s, if_pos rfl] at e2
    rcases w with w | ⟨w, w'⟩
    · rw [if_pos w] at e1
      exact pair_fin e1 e2 rfl
    · rw [if_neg w, if_neg w'] at e1
      exact pair_fin e1 e2 rfl
  obtain ⟨Ma, y1, a0, a1, a2, a3, a4, a5, a6, a7⟩ := s_copyFrom (X0 := 71) (X1 := 64) (M := M) (by omega)
  obtain ⟨Ma', t1, t2⟩ := tf_State_copyFrom (X0 := 71) (X1 := 64) (M := M) st71 st64
  obtain rfl := Option.some.inj (t1.symm.trans y1)
  have hLa : Lnd ld lv nf nd ng ne Ma' := hL.kCX st71 t2
  have ma := kCX_M st71 t2
  have hSa : St (60 * q) q nf 71 (M 436) Ma' := hS.1.cp (Nat.le_refl _) (Nat.le_refl _) a0 a1 a2 a3 a4 a5 a6 (fun _ _ => rfl)
  obtain ⟨Mb, z1, z2, _⟩ := c_passDays hLa st71 hSa (n := n) (by omega)
  obtain ⟨x, _, s2, s3, _⟩ := z2.2.2.2.2.2.1 f (by omega)
  rw [if_neg w1, if_pos w2, y1, bI_s, z1, bI_s, s_at (by omega) (by decide), bI_s, s2] at e1
  obtain ⟨N, v1, v2, _⟩ := m_goes hLc (n := n) (by omega)
  rw [d2, bI_s, if_neg (by decide), x1, bI_s, v1, bI_s, if_neg (nI_in (by omega) (by omega)), nI_clamp (by omega), v2 f (by omega)] at e2
  have hdk : ∀ (Mx : gM), (∀ c j, 411 ≤ c → c ≤ 432 → Mx c j = M c j) → ∀ n r, dyI Mx lv nf n r = dyI M lv nf n r := fun Mx mx n => by
    induction n with
    | zero => intro r; rfl
    | succ n ih => intro r; show dyI Mx lv nf n (dyR Mx lv nf r) = dyI M lv nf n (dyR M lv nf r); rw [dyR_k mx, ih]
  refine pair_fin e1 e2 ?_
  rw [← s3, hdk _ ma, hdk _ mc]
  exact (dyI_r h6 n _ _ x2 f (by omega)).symm
end QV
end PAR42
end MG15x3
