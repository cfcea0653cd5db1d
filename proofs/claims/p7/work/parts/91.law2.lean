/-! a whole law in both parsers -/
section PAR7
variable {b : Nat → Nat} {n m : Nat}
def LawR (W sd w c' i' : Nat) (M N : gM) : Prop := ∃ fi k len, ∃ Q : Nat → Nat, N 424 (4 * sd + w) = nI fi ∧ N 425 (4 * sd + w) = nI (fi + k + 1) ∧ k ≤ 4 ∧ fi + k + 1 ≤ i' ∧ 130 * sd ≤ fi ∧ Q 0 = 0 ∧ (∀ j, j < k → Br (420 * sd) W (fi + j) (Q j) (Q (j + 1)) c' M N ∧ Q (j + 1) ≤ len) ∧ Ls (420 * sd) W (fi + k) (Q k) len c' M N ∧ M W 1 = nI len ∧ len ≤ 400
theorem LawR.keep {W sd w c' c'' i' i'' : Nat} {M N M' N' : gM} (h : LawR W sd w c' i' M N) (hc : c' ≤ c'') (hi : i' ≤ i'') (e1 : M' W 1 = M W 1) (h1 : ∀ j, M' (W + 1) j = M (W + 1) j) (h2 : ∀ j, 420 * sd ≤ j → j < c' → N' 431 j = N 431 j ∧ N' 432 j = N 432 j) (h3 : ∀ c j, 426 ≤ c → c ≤ 430 → 130 * sd ≤ j → j < i' → N' c j = N c j) (h4 : N' 424 (4 * sd + w) = N 424 (4 * sd + w)) (h5 : N' 425 (4 * sd + w) = N 425 (4 * sd + w)) : LawR W sd w c'' i'' M' N' := by
  obtain ⟨fi, k, len, Q, a1, a2, a3, a4, b4, a5, a6, a7, a8, a9⟩ := h
  exact ⟨fi, k, len, Q, by rw [h4]; exact a1, by rw [h5]; exact a2, a3, by omega, b4, a5, fun j hj => ⟨(a6 j hj).1.keep hc (fun j _ => h1 j) h2 (fun c x y => h3 c _ x y (by omega) (by omega)), (a6 j hj).2⟩, a7.keep hc (fun j _ => h1 j) h2 (fun c x y => h3 c _ x y (by omega) (by omega)), by rw [e1]; exact a8, a9⟩
/-- what a law may change of the model -/
def mW2 (sd w i c : Nat) (cc j : Nat) : Prop := mE c (420 * sd + 420) cc j ∨ ((426 ≤ cc ∧ cc ≤ 430) ∧ i ≤ j ∧ j < 130 * sd + 130) ∨ (cc = 401 ∧ j = 38) ∨ ((cc = 424 ∨ cc = 425) ∧ j = 4 * sd + w)
theorem mF_mW2 {sd w i i2 c c2 : Nat} (h1 : i ≤ i2) (h2 : c ≤ c2) (h3 : i2 < 130 * sd + 130) : ∀ cc j, mF i2 c2 (420 * sd + 420) cc j → mW2 sd w i c cc j := fun cc j q => by
  rcases q with q | q | q
  · exact Or.inl (mE_mono h2 cc j q)
  · exact Or.inr (Or.inl (by omega))
  · exact Or.inr (Or.inr (Or.inl q))
theorem mW2_mono {sd w i i2 c c2 : Nat} (h1 : i ≤ i2) (h2 : c ≤ c2) : ∀ cc j, mW2 sd w i2 c2 cc j → mW2 sd w i c cc j := fun cc j q => by
  rcases q with q | q | q | q
  · exact Or.inl (mE_mono h2 cc j q)
  · exact Or.inr (Or.inl (by omega))
  · exact Or.inr (Or.inr (Or.inl q))
  · exact Or.inr (Or.inr (Or.inr q))
theorem c_106D {W : Nat} {M N : gM} {L : gL} (hW : isLw W) (hd : Dd b n m M N) : ∃ M', J_Reader_takeLaw_106 W M L = some M' ∧ Dd b n m M' N := by
  unfold J_Reader_takeLaw_106
  obtain ⟨M1, e1, h1⟩ := tq_Reader_takeSum (Wl1 := W) (M := M) (L := L) hW
  obtain ⟨M2, e2, h2⟩ := tq_Reader_need (p1 := 59) (M := M1) (L := L)
  rw [e1, bI_s, e2, bI_s]
  exact ⟨M2, rfl, (hd.cl h1).cl h2⟩
theorem c_lawD {W : Nat} {M N : gM} {L : gL} (hW : isLw W) (hd : Dd b n m M N) (f : Nat) (v2 : Int32) : ∃ M', H_Reader_takeLaw_16 W L (f + 1) v2 M = some M' ∧ Dd b n m M' N := by
  obtain ⟨M', e1, e2⟩ := c_106D (L := L) hW hd
  refine ⟨M', ?_, e2⟩
  show B_Reader_takeLaw_16 W L (H_Reader_takeLaw_16 W L f) v2 M = _
  unfold B_Reader_takeLaw_16
  by_cases h : 4 < v2
  · rw [if_pos h, e1]
  · rw [if_neg h, if_neg hd.nf.2, e1]
theorem m_129D {sd w i c : Nat} {M N : gM} {v1 v2 : Int32} (hd : Dd b n m M N) (h38 : N 401 38 = nI i) (hi : i < 130 * sd + 130) (hsd : sd ≤ 1) : ∃ N', J_Mod_tellLaw_129 v1 v2 N = some N' ∧ Dd b n m M N' ∧ Eo (mW2 sd w i c) N N' := by
  have hgi : ¬ (nI i < 0 ∨ 260 ≤ i) := nI_inc (by omega) (by omega)
  unfold J_Mod_tellLaw_129 F_Mod_term J_Mod_term_24
  rw [h38, nI_clamp (by omega), if_neg hgi, nmM_e, uM_diff (by omega), h38, nI_clamp (by omega), if_neg hgi, nmM_e, if_neg (by rw [uM_diff (by omega), uM_diff (by omega)]; exact hd.nf.1), uM_diff (by omega), uM_diff (by omega), h38, nI_clamp (by omega), if_neg hgi, nmM_e, nmM_e, bI_s]
  have fin : ∀ N1, Eo (fun cc j => ((426 ≤ cc ∧ cc ≤ 430) ∧ j = i) ∨ (cc = 401 ∧ j = 38)) N N1 → ∀ F : gM → Option gM, ∃ N', bI (F_Mod_must 4 N1) (fun M10 => if M10 401 13 ≤ 0 then F M10 else some M10) = some N' ∧ Dd b n m M N' ∧ Eo (mW2 sd w i c) N N' := by
    intro N1 f1 F
    have hd1 : Dd b n m M N1 := hd.mo2 (f1.mono (fun cc j q => by omega))
    obtain ⟨k2, ft, u, a1, a2, a3, a4, a5, a6, a7, a8⟩ := id hd1
    rw [q_mustD a5 a1, bI_s, if_neg (by rw [a5]; exact nI_nle (by omega) (by omega))]
    exact ⟨N1, rfl, hd1, f1.mono (fun cc j q => by rcases q with q | q; exact Or.inr (Or.inl (by omega)); exact Or.inr (Or.inr (Or.inl q)))⟩
  refine fin _ ?_ _
  refine (((Eo.rf.u ?_).u ?_).u ?_).u ?_ <;> omega
theorem m_lawD {sd w i c : Nat} {M N : gM} {v1 v2 v3 : Int32} (hd : Dd b n m M N) (h38 : N 401 38 = nI i) (hi : i < 130 * sd + 130) (hsd : sd ≤ 1) (g : Nat) : ∃ N', H_Mod_tellLaw_12 v1 v2 (g + 1) v3 N = some N' ∧ Dd b n m M N' ∧ Eo (mW2 sd w i c) N N' := by
  obtain ⟨N', e1, e2, e3⟩ := m_129D (w := w) (c := c) (v1 := v1) (v2 := v2) hd h38 hi hsd
  refine ⟨N', ?_, e2, e3⟩
  show B_Mod_tellLaw_12 v1 v2 (H_Mod_tellLaw_12 v1 v2 g) v3 N = _
  unfold B_Mod_tellLaw_12
  rw [if_neg hd.nf.1, e1]
/-- what a law comes to -/
def LawO (b : Nat → Nat) (n m W sd w c i t : Nat) (M : gM) (L : gL) (N : gM) (K : gL) (M' N' : gM) : Prop := ((∃ t' c' i', t ≤ t' ∧ Tk b n m M' L N' K ∧ Lv m t' M' N' ∧ N' 401 44 = nI c' ∧ N' 401 12 = 0 ∧ N' 401 38 = nI i' ∧ c ≤ c' ∧ i ≤ i' ∧ c' ≤ t' + 420 * sd ∧ 4 * i' ≤ t' + 520 * sd ∧ LawR W sd w c' i' M' N' ∧ Eo (cE W 0) M M') ∨ Dd b n m M' N') ∧ Eo (mW2 sd w i c) N N'
theorem h_end {W sd w fi k t q c : Nat} {L K : gL} {Q : Nat → Nat} {M N : gM} (hW : isLw W) (hsd : sd ≤ 1) (hw : w < 4) (hk4 : k ≤ 4) (hC : CH b n m W t q c M L N K) (s1 : q + 2 ≤ t) (s2 : c + 2 ≤ t + 420 * sd) (s3 : 420 * sd ≤ c) (s4 : 130 * sd ≤ fi) (h38 : N 401 38 = nI (fi + k)) (hi : 4 * (fi + k) + 2 ≤ t + 520 * sd) (h19 : N 401 19 = nI sd) (hQ0 : Q 0 = 0) (hQk : Q k = q) (hQ : ∀ j, j < k → Br (420 * sd) W (fi + j) (Q j) (Q (j + 1)) c M N ∧ Q (j + 1) ≤ q) :
    ∃ M' N', J_Reader_takeLaw_106 W M L = some M' ∧ J_Mod_tellLaw_129 (nI w) (nI fi) N = some N' ∧ LawO b n m W sd w c (fi + k) t M L N K M' N' := by
  have h12 := Lw_12 hW
  obtain ⟨hT, hl, x1, x2, x3⟩ := id hC
  have hm := hT.m400
  have htm := hl.2.2.2.2
  generalize hgi0 : fi + k = i at h38 hi ⊢
  have hgi : ¬ (nI i < 0 ∨ 260 ≤ i) := nI_inc (by omega) (by omega)
  have hvp : vp_nar .boolean 0 = 0 := by decide
  unfold J_Reader_takeLaw_106 J_Mod_tellLaw_129 F_Mod_term J_Mod_term_24
  rw [h38, nI_clamp (by omega), if_neg hgi, nmM_e, uM_diff (by omega), h38, nI_clamp (by omega), if_neg hgi, nmM_e, hvp, bI_ite2]
  generalize hN1 : uM (uM N 426 i 0) 429 i (N 401 44) = N1
  rw [show uM (uM N 426 i 0) 429 i (uM N 426 i 0 401 44) = N1 by rw [uM_diff (by omega)]; exact hN1]
  have f1 : Eo (fun cc j => (cc = 426 ∨ cc = 429) ∧ j = i) N N1 := by
    rw [← hN1]; exact (Eo.rf.u ⟨Or.inl rfl, rfl⟩).u ⟨Or.inr rfl, rfl⟩
  have hC1 := hC.mo (f1.mono (fun cc j q => by omega))
  obtain ⟨M2, N2, g1, g2, g3, g4⟩ := h_sum2 (z := 2) (by decide) hW (B0 := 420 * sd) (by omega) (Or.inl ⟨hC1, s1, s2⟩)
  have n38 : N2 401 38 = nI i := by rw [g4 401 38 (by unfold mE; omega), f1 401 38 (by omega)]; exact h38
  rw [g1, bI_s, g2, bI_s, n38, nI_clamp (by omega), if_neg hgi, nmM_e, nmM_e, uM_diff (by omega), n38, nI_1, bI_s]
  generalize hN2 : uM (uM N2 430 i (N2 401 44)) 401 38 (nI (i + 1)) = N2'
  have f2 : Eo (fun cc j => (cc = 430 ∧ j = i) ∨ (cc = 401 ∧ j = 38)) N2 N2' := by rw [← hN2]; exact (Eo.rf.u (Or.inl ⟨rfl, rfl⟩)).u (Or.inr ⟨rfl, rfl⟩)
  have f2' := f2.mono (S' := fun cc j => (426 ≤ cc ∧ cc ≤ 430) ∨ (cc = 401 ∧ j = 38)) (fun cc j q => by omega)
  have hO : ∃ t2 q2 c2, (CH b n m W t2 q2 c2 M2 L N2' K ∨ Dd b n m M2 N2') ∧ ((∃ l, t + 1 ≤ t2 ∧ q2 = q + l ∧ c2 = c + l ∧ q2 + 2 ≤ t2 ∧ c2 + 2 ≤ t2 + 420 * sd ∧ Sg W q c l M2 N2' ∧ Eo (cE W q) M M2 ∧ N2' 426 i = 0 ∧ N2' 429 i = nI c ∧ N2' 430 i = nI c2) ∨ Dd b n m M2 N2') := by
    rcases g3 with ⟨t', l, a1, a2, a3, a4, a5, a6, a7⟩ | g3
    · refine ⟨t', q + l, c + l, Or.inl (a2.mo f2'), Or.inl ⟨l, a1, rfl, rfl, a3, a4, a5.keep (fun _ _ _ => rfl) (fun j _ _ => f2 431 j (by omega)) (fun j _ _ => f2 432 j (by omega)), a6, ?_, ?_, ?_⟩⟩
      · rw [f2 426 i (by omega), g4 426 i (by unfold mE; omega), ← hN1, uM_diff (by omega), uM_same]
      · rw [f2 429 i (by omega), g4 429 i (by unfold mE; omega), ← hN1, uM_same]; exact x2
      · rw [← hN2, uM_diff (by omega), uM_same]; exact a2.2.2.2.1
    · exact ⟨t, q, c, Or.inr (g3.mo2 f2'), Or.inr (g3.mo2 f2')⟩
  obtain ⟨t2, q2, c2, P2, Q2⟩ := hO
  obtain ⟨M3, N3, g9, g10, g11, g12⟩ := h_need (k := 59) (kk := 59) (kq := 4) h12 rfl rfl (Or.inr (Or.inl rfl)) (by decide) P2
  rw [g9, bI_s, g10, bI_s]
  have hEo : Eo (mW2 sd w i c) N N3 := by
    have e1 : Eo (mW2 sd w i c) N N1 := f1.mono (fun cc j q => Or.inr (Or.inl (by omega)))
    have e2 : Eo (mW2 sd w i c) N1 N2 := g4.mono (fun cc j q => Or.inl q)
    have e3 : Eo (mW2 sd w i c) N2 N2' := f2.mono (fun cc j q => by rcases q with q | q; exact Or.inr (Or.inl (by omega)); exact Or.inr (Or.inr (Or.inl q)))
    have e4 : Eo (mW2 sd w i c) N2' N3 := g12.mono (fun cc j q => Or.inl (mS_mE _ _ q))
    exact ((e1.tr e2).tr e3).tr e4
  rcases g11 with ⟨a1, a2, a3⟩ | g11
  · rcases Q2 with ⟨l, b1, b2, b3, b4, b5, b6, b7, b8, b9, b10⟩ | Q2
    · have hd := a1.2.1.2.2.2.2
      subst b2 b3
      have n19 : N3 401 19 = nI sd := by rw [g12 401 19 (by unfold mS; omega), f2 401 19 (by omega), g4 401 19 (by unfold mE; omega), f1 401 19 (by omega)]; exact h19
      have n38b : N3 401 38 = nI (i + 1) := by rw [g12 401 38 (by unfold mS; omega), ← hN2, uM_same]
      have ew : (4 : Int32) * nI sd + nI w = nI (4 * sd + w) := by rw [show (4 : Int32) = nI 4 from rfl, nI_mul, nI_add]
      have hgw : ¬ (nI (4 * sd + w) < 0 ∨ 8 ≤ 4 * sd + w) := nI_inc (by omega) (by omega)
      rw [if_pos (by rw [a1.2.1.2.2.2.1]; decide), n19, ew, nI_clamp (by omega), if_neg hgw, nmM_e, uM_diff (by omega), n19, ew, nI_clamp (by omega), if_neg hgw, nmM_e, uM_diff (by omega), n38b]
      have f3 : Eo (fun cc j => (cc = 424 ∨ cc = 425) ∧ j = 4 * sd + w) N3 (uM (uM N3 424 (4 * sd + w) (nI fi)) 425 (4 * sd + w) (nI (i + 1))) := (Eo.rf.u ⟨Or.inl rfl, rfl⟩).u ⟨Or.inr rfl, rfl⟩
      refine ⟨M3, _, rfl, rfl, Or.inl ⟨t2 + 1, c + l, i + 1, by omega, ?_, ?_, ?_, ?_, ?_, by omega, by omega, by omega, by omega, ?_, (b7.tr (a2.mono cS_cE)).mono (cE_mono (Nat.zero_le _))⟩, hEo.tr (f3.mono (fun cc j q => Or.inr (Or.inr (Or.inr q))))⟩
      · exact a1.1.keep (fun _ => rfl) (fun _ => rfl) (fun _ => rfl) (fun j => f3 404 j (by omega)) (fun j => f3 405 j (by omega)) (fun j => f3 406 j (by omega)) (fun _ => rfl)
      · exact a1.2.1.at rfl rfl (f3 401 11 (by omega)) (f3 401 13 (by omega))
      · rw [f3 401 44 (by omega)]; exact a1.2.2.2.1
      · rw [f3 401 12 (by omega)]; exact a1.2.2.2.2
      · rw [f3 401 38 (by omega)]; exact n38b
      · refine ⟨fi, k, q + l, Q, by rw [uM_diff (by omega), uM_same], by rw [uM_same, hgi0], hk4, by omega, s4, hQ0, fun j hj => ⟨(hQ j hj).1.keep (by omega) (fun x hx => ?_) (fun x _ hx => ?_) (fun cc y1 y2 => ?_), by have := (hQ j hj).2; omega⟩, ?_, a1.2.2.1, by omega⟩
        · have := (hQ j hj).2
          rw [a2 (W + 1) x (by unfold cS; omega), b7 (W + 1) x (by unfold cE; omega)]
        · constructor
          · rw [f3 431 x (by omega), g12 431 x (by unfold mS; omega), f2 431 x (by omega), g4 431 x (by unfold mE; omega), f1 431 x (by omega)]
          · rw [f3 432 x (by omega), g12 432 x (by unfold mS; omega), f2 432 x (by omega), g4 432 x (by unfold mE; omega), f1 432 x (by omega)]
        · rw [f3 cc _ (by omega), g12 cc _ (by unfold mS; omega), f2 cc _ (by omega), g4 cc _ (by unfold mE; omega), f1 cc _ (by omega)]
        · rw [hgi0, hQk]
          refine ⟨c, l, ?_, ?_, ?_, b6.keep (fun j _ _ => a2 (W + 1) j (by unfold cS; omega)) (fun j _ _ => ?_) (fun j _ _ => ?_), rfl, Nat.le_refl _, s3⟩
          · rw [f3 426 i (by omega), g12 426 i (by unfold mS; omega)]; exact b8
          · rw [f3 429 i (by omega), g12 429 i (by unfold mS; omega)]; exact b9
          · rw [f3 430 i (by omega), g12 430 i (by unfold mS; omega)]; exact b10
          · rw [f3 431 j (by omega), g12 431 j (by unfold mS; omega)]
          · rw [f3 432 j (by omega), g12 432 j (by unfold mS; omega)]
    · exact absurd Q2 a3.2.1.nd
  · rw [if_neg (by obtain ⟨k2, ft, u, a1, a2, a3, a4, a5, a6, a7, a8⟩ := id g11; rw [a5]; exact nI_nle (by omega) (by omega))]
    exact ⟨M3, N3, rfl, rfl, Or.inr g11, hEo⟩
theorem h_loop {W sd w fi : Nat} {L K : gL} (hW : isLw W) (hsd : sd ≤ 1) (hw : w < 4) (s4 : 130 * sd ≤ fi) : ∀ (d k f g t q c : Nat) (Q : Nat → Nat) (M N : gM), k + d = 4 → d < f → d < g → CH b n m W t q c M L N K → q + 2 ≤ t → c + 2 ≤ t + 420 * sd → 420 * sd ≤ c → N 401 38 = nI (fi + k) → 4 * (fi + k) + 2 ≤ t + 520 * sd → N 401 19 = nI sd → Q 0 = 0 → Q k = q → (∀ j, j < k → Br (420 * sd) W (fi + j) (Q j) (Q (j + 1)) c M N ∧ Q (j + 1) ≤ q) →
    ∃ M' N', H_Reader_takeLaw_16 W L f (nI k) M = some M' ∧ H_Mod_tellLaw_12 (nI w) (nI fi) g (nI k) N = some N' ∧ LawO b n m W sd w c (fi + k) t M L N K M' N' := by
  have h12 := Lw_12 hW
  intro d
  induction d with
  | zero =>
    intro k f g t q c Q M N hkd hf hg hC s1 s2 s3 h38 hi h19 hQ0 hQk hQ
    obtain ⟨f, rfl⟩ : ∃ x, f = x + 1 := ⟨f - 1, by omega⟩
    obtain ⟨g, rfl⟩ : ∃ x, g = x + 1 := ⟨g - 1, by omega⟩
    obtain ⟨M', N', e1, e2, e3⟩ := h_end hW hsd hw (by omega) hC s1 s2 s3 s4 h38 hi h19 hQ0 hQk hQ
    obtain ⟨hT, hl, x1, x2, x3⟩ := id hC
    obtain rfl : k = 4 := by omega
    have hm := hT.m400
    have htm := hl.2.2.2.2
    have c1 : H_Reader_takeLaw_16 W L (f + 1) (nI 4) M = if tkK b n t = 137 then J_Reader_takeLaw_43 W M L else J_Reader_takeLaw_106 W M L := by
      show B_Reader_takeLaw_16 W L (H_Reader_takeLaw_16 W L f) (nI 4) M = _
      unfold B_Reader_takeLaw_16
      rw [if_neg (by decide), hl.2.1, if_pos rfl, r_is hT (k := 137) (kk := 137) rfl hl.1 htm (by decide), bI_s]
      by_cases e : tkK b n t = 137
      · rw [if_pos e, if_neg (show ¬ (1 : Int32) = 0 by decide), if_pos (show nI 4 = 4 from rfl), if_pos e]
      · rw [if_neg e, if_pos (show (0 : Int32) = 0 from rfl), if_neg e]
    have c2 : H_Mod_tellLaw_12 (nI w) (nI fi) (g + 1) (nI 4) N = if tkK b n t = 137 then bI (F_Mod_fail 2 N) (fun M44 => J_Mod_tellLaw_38 (H_Mod_tellLaw_12 (nI w) (nI fi) g) (nI w) (nI fi) (nI 4) M44) else J_Mod_tellLaw_129 (nI w) (nI fi) N := by
      show B_Mod_tellLaw_12 (nI w) (nI fi) (H_Mod_tellLaw_12 (nI w) (nI fi) g) (nI 4) N = _
      unfold B_Mod_tellLaw_12
      rw [hl.2.2.2.1, if_pos rfl, q_is hT (k := 137) (kk := 29) rfl (Or.inr (Or.inr ⟨by decide, by decide⟩)) hl.2.2.1 hl.2.2.2.1 htm, bI_s]
      by_cases e : tkK b n t = 137
      · rw [if_pos e, if_neg (show ¬ (1 : Int32) = 0 by decide), if_pos (show nI 4 = 4 from rfl), if_pos e]
      · rw [if_neg e, if_pos (show (0 : Int32) = 0 from rfl), if_neg e]
    rw [c1, c2]
    by_cases e : tkK b n t = 137
    · rw [if_pos e, if_pos e]
      unfold J_Reader_takeLaw_43 J_Mod_tellLaw_38
      obtain ⟨M1, N1, q1, q2, q3, q4⟩ := p_fail (k := 2) (kk := 2) rfl (Or.inr rfl) (Or.inl ⟨hT, hl⟩)
      obtain ⟨M2, y1, y2⟩ := c_106D (L := L) hW q3
      obtain ⟨k2, ft, u, a1, a2, a3, a4, a5, a6, a7, a8⟩ := id q3
      rw [q1, bI_s, q2, bI_s, if_neg (by rw [a5]; exact nI_nle (by omega) (by omega)), y1]
      exact ⟨M2, N1, rfl, rfl, Or.inr y2, q4.mono (fun cc j q => Or.inl (mS_mE _ _ q))⟩
    · rw [if_neg e, if_neg e]
      exact ⟨M', N', e1, e2, e3⟩
  | succ d ih =>
    intro k f g t q c Q M N hkd hf hg hC s1 s2 s3 h38 hi h19 hQ0 hQk hQ
    obtain ⟨f, rfl⟩ : ∃ x, f = x + 1 := ⟨f - 1, by omega⟩
    obtain ⟨g, rfl⟩ : ∃ x, g = x + 1 := ⟨g - 1, by omega⟩
    obtain ⟨hT, hl, x1, x2, x3⟩ := id hC
    have hm := hT.m400
    have htm := hl.2.2.2.2
    show ∃ M' N', B_Reader_takeLaw_16 W L (H_Reader_takeLaw_16 W L f) (nI k) M = some M' ∧ B_Mod_tellLaw_12 (nI w) (nI fi) (H_Mod_tellLaw_12 (nI w) (nI fi) g) (nI k) N = some N' ∧ _
    unfold B_Reader_takeLaw_16 B_Mod_tellLaw_12
    have hk4 : ¬ nI k = 4 := fun (q : nI k = (4 : Int32)) => by have := (nI_eq (a := k) (b := 4) (by omega) (by omega)).mp q; omega
    rw [if_neg (by rw [show (4 : Int32) = nI 4 from rfl, nI_ltI (by omega) (by omega)]; omega), hl.2.1, if_pos rfl, r_is hT (k := 137) (kk := 137) rfl hl.1 htm (by decide), bI_s, hl.2.2.2.1, if_pos rfl, q_is hT (k := 137) (kk := 29) rfl (Or.inr (Or.inr ⟨by decide, by decide⟩)) hl.2.2.1 hl.2.2.2.1 htm, bI_s]
    by_cases e : tkK b n t = 137
    · rw [if_pos e, if_neg (show ¬ (1 : Int32) = 0 by decide), if_neg (show ¬ (1 : Int32) = 0 by decide), if_neg hk4, if_neg hk4]
      obtain ⟨M1, N1, g1, g2, g3, g4, g5⟩ := h_if (B0 := 420 * sd) hW (by omega) hC s1 s2 s3 h38 (by omega) e (nI w) (nI fi) (nI k) (H_Mod_tellLaw_12 (nI w) (nI fi) g) (fun M35 => nmI (nI k + 1) (fun x36 => H_Reader_takeLaw_16 W L f x36 M35))
      rw [g1, g2, nmI_e, nI_1]
      have hfr : Eo (mW2 sd w (fi + k) c) N N1 := g5.mono (mF_mW2 (Nat.le_refl _) (Nat.le_refl _) (by omega))
      rcases g3 with ⟨t', q', c', a1, a2, a3, a4, a5, a6, a7, a8⟩ | g3
      · obtain ⟨M', N', y1, y2, y3, y4⟩ := ih (k + 1) f g t' q' c' (fun j => if j ≤ k then Q j else q') M1 N1 (by omega) (by omega) (by omega) a2 a3 a6 (by omega) g4 (by omega) (by rw [g5 401 19 (by unfold mF mE; omega)]; exact h19) (by rw [if_pos (Nat.zero_le _)]; exact hQ0) (by rw [if_neg (by omega)]) (fun j hj => by
          by_cases hjk : j = k
          · subst hjk
            rw [if_pos (Nat.le_refl _), if_neg (by omega), hQk]
            exact ⟨a7, Nat.le_refl _⟩
          · rw [if_pos (by omega), if_pos (by omega)]
            have h2 := (hQ j (by omega)).2
            refine ⟨(hQ j (by omega)).1.keep a4 (fun x hx => a8 (W + 1) x (by unfold cE; omega)) (fun x _ hx => ⟨g5 431 x (by unfold mF mE; omega), g5 432 x (by unfold mF mE; omega)⟩) (fun cc z1 z2 => g5 cc _ (by unfold mF mE; omega)), by omega⟩)
        refine ⟨M', N', y1, y2, ?_, hfr.tr (y4.mono (mW2_mono (by omega) a4))⟩
        rcases y3 with ⟨t2, c2, i2, z1, z2, z3, z4, z5, z6, z7, z8, z9, z10, z11, z12⟩ | y3
        · exact Or.inl ⟨t2, c2, i2, by omega, z2, z3, z4, z5, z6, by omega, by omega, z9, z10, z11, (a8.mono (cE_mono (Nat.zero_le _))).tr z12⟩
        · exact Or.inr y3
      · obtain ⟨f, rfl⟩ : ∃ x, f = x + 1 := ⟨f - 1, by omega⟩
        obtain ⟨g, rfl⟩ : ∃ x, g = x + 1 := ⟨g - 1, by omega⟩
        obtain ⟨N2, y1, y2, y3⟩ := m_lawD (w := w) (c := c) (v1 := nI w) (v2 := nI fi) (v3 := nI (k + 1)) g3 g4 (by omega) hsd g
        obtain ⟨M2, y4, y5⟩ := c_lawD (L := L) hW y2 f (nI (k + 1))
        exact ⟨M2, N2, y4, y1, Or.inr y5, hfr.tr (y3.mono (mW2_mono (by omega) (Nat.le_refl _)))⟩
    · rw [if_neg e, if_pos (show (0 : Int32) = 0 from rfl), if_pos (show (0 : Int32) = 0 from rfl)]
      exact h_end hW hsd hw (by omega) hC s1 s2 s3 s4 h38 hi h19 hQ0 hQk hQ
/-- a law, from its first token on -/
theorem p_law {W sd w i t c : Nat} {M N : gM} {L K : gL} (hW : isLw W) (hsd : sd ≤ 1) (hw : w < 4) (hT : Tk b n m M L N K) (hl : Lv m t M N) (h44 : N 401 44 = nI c) (h12' : N 401 12 = 0) (h38 : N 401 38 = nI i) (h19 : N 401 19 = nI sd) (hc : c ≤ t + 420 * sd) (hi : 4 * i ≤ t + 520 * sd) (hc0 : 420 * sd ≤ c) (hi0 : 130 * sd ≤ i) (h0 : tkK b n t ≠ 0) (h1 : tkK b n t ≠ 1) :
    ∃ M' N', F_Reader_takeLaw W M L = some M' ∧ bI (F_Mod_goesOn N) (fun M74 => F_Mod_tellLaw (nI w) M74) = some N' ∧ LawO b n m W sd w c i (t + 1) M L N K M' N' := by
  have h12 := Lw_12 hW
  have hm := hT.m400
  have htm := hl.2.2.2.2
  unfold F_Reader_takeLaw F_Mod_tellLaw F_Law_clear
  rw [nmM_e, bI_s]
  have hT0 : Tk b n m (uM M W 1 0) L N K := hT.keep (fun j => uM_diff (by omega)) (fun j => uM_diff (by omega)) (fun _ => rfl) (fun _ => rfl) (fun _ => rfl) (fun _ => rfl) (fun _ => rfl)
  have hl0 : Lv m t (uM M W 1 0) N := hl.at (uM_diff (by omega)) (uM_diff (by omega)) rfl rfl
  obtain ⟨M1, N1, g1, g2, g3, g4⟩ := p_take hT0 hl0 h0 h1
  rw [g1, bI_s, g2, bI_s]
  have hC0 : CH b n m W t 0 c (uM M W 1 0) L N K := ⟨hT0, hl0, uM_same, h44, h12'⟩
  have P1 : CH b n m W (t + 1) 0 c M1 L N1 K ∨ Dd b n m M1 N1 := by
    rcases g3 with ⟨a1, a2⟩ | g3
    · exact Or.inl (hC0.need h12 a1 a2 g4)
    · exact Or.inr g3
  have z1 : CH b n m W (t + 1) 0 c M1 L N1 K → Eo (cE W 0) M M1 := by
    intro hc
    rcases g3 with ⟨a1, a2⟩ | g3
    · exact Eo.tr (Eo.rf.u (by unfold cE; omega)) (a2.mono cS_cE)
    · exact absurd g3 hc.2.1.nd
  obtain ⟨M3, N3, g9, g10, g11, g12⟩ := h_need (k := 61) (kk := 61) (kq := 5) h12 rfl rfl (Or.inr (Or.inl rfl)) (by decide) P1
  have n38 : N3 401 38 = nI i := by rw [g12 401 38 (by unfold mS; omega), g4 401 38 (by unfold mS; omega)]; exact h38
  have n19 : N3 401 19 = nI sd := by rw [g12 401 19 (by unfold mS; omega), g4 401 19 (by unfold mS; omega)]; exact h19
  rw [g9, bI_s, g10, bI_s, nmI_e, n38]
  have hEo : Eo (mW2 sd w i c) N N3 := Eo.tr (g4.mono (fun cc j q => Or.inl (mS_mE _ _ q))) (g12.mono (fun cc j q => Or.inl (mS_mE _ _ q)))
  rcases g11 with ⟨a1, a2, a3⟩ | g11
  · obtain ⟨M', N', y1, y2, y3, y4⟩ := h_loop (fi := i) hW hsd hw hi0 4 0 FU FU (t + 1 + 1) 0 c (fun _ => 0) M3 N3 rfl (by unfold FU; omega) (by unfold FU; omega) a1 (by omega) (by omega) hc0 n38 (by omega) n19 rfl rfl (fun j hj => absurd hj (Nat.not_lt_zero _))
    refine ⟨M', N', y1, y2, ?_, hEo.tr y4⟩
    rcases y3 with ⟨t2, c2, i2, q1, q2, q3, q4, q5, q6, q7, q8, q9, q10, q11, q12⟩ | y3
    · exact Or.inl ⟨t2, c2, i2, by omega, q2, q3, q4, q5, q6, q7, q8, q9, q10, q11, ((z1 a3).tr (a2.mono cS_cE)).tr q12⟩
    · exact Or.inr y3
  · obtain ⟨g, hg⟩ := FU_k 1 (by decide)
    rw [hg]
    obtain ⟨N2, y1, y2, y3⟩ := m_lawD (w := w) (c := c) (v1 := nI w) (v2 := nI i) (v3 := 0) g11 n38 (by omega) hsd g
    obtain ⟨M2, y4, y5⟩ := c_lawD (L := L) hW y2 g 0
    exact ⟨M2, N2, y4, y1, Or.inr y5, hEo.tr y3⟩
end PAR7
