/-! a whole law in both parsers -/
section PAR7
variable {b : Nat → Nat} {n m : Nat}
def LawR (W sd w c' i' : Nat) (M N : gM) : Prop := ∃ fi k len, ∃ Q : Nat → Nat, N 424 (4 * sd + w) = nI fi ∧ N 425 (4 * sd + w) = nI (fi + k + 1) ∧ k ≤ 4 ∧ fi + k + 1 ≤ i' ∧ Q 0 = 0 ∧ (∀ j, j < k → Br W (fi + j) (Q j) (Q (j + 1)) c' M N ∧ Q (j + 1) ≤ len) ∧ Ls W (fi + k) (Q k) len c' M N ∧ M W 1 = nI len ∧ len ≤ 400
theorem LawR.keep {W sd w c' c'' i' i'' : Nat} {M N M' N' : gM} (h : LawR W sd w c' i' M N) (hc : c' ≤ c'') (hi : i' ≤ i'') (e1 : M' W 1 = M W 1) (h1 : ∀ j, M' (W + 1) j = M (W + 1) j) (h2 : ∀ j, j < c' → N' 431 j = N 431 j ∧ N' 432 j = N 432 j) (h3 : ∀ c j, 426 ≤ c → c ≤ 430 → j < i' → N' c j = N c j) (h4 : N' 424 (4 * sd + w) = N 424 (4 * sd + w)) (h5 : N' 425 (4 * sd + w) = N 425 (4 * sd + w)) : LawR W sd w c'' i'' M' N' := by
  obtain ⟨fi, k, len, Q, a1, a2, a3, a4, a5, a6, a7, a8, a9⟩ := h
  exact ⟨fi, k, len, Q, by rw [h4]; exact a1, by rw [h5]; exact a2, a3, by omega, a5, fun j hj => ⟨(a6 j hj).1.keep hc (fun j _ => h1 j) h2 (fun c x y => h3 c _ x y (by omega)), (a6 j hj).2⟩, a7.keep hc (fun j _ => h1 j) h2 (fun c x y => h3 c _ x y (by omega)), by rw [e1]; exact a8, a9⟩
/-- what a law may change of the model -/
def mW2 (sd w i c : Nat) (cc j : Nat) : Prop := mE c (420 * sd + 420) cc j ∨ ((426 ≤ cc ∧ cc ≤ 430) ∧ i ≤ j ∧ j < 130 * sd + 130) ∨ (cc = 401 ∧ j = 38) ∨ ((cc = 424 ∨ cc = 425) ∧ j = 4 * sd + w)
theorem mF_mW2 {sd w i i2 c c2 : Nat} (h1 : i ≤ i2) (h2 : c ≤ c2) (h3 : i2 < 130 * sd + 130) : ∀ cc j, mF i2 c2 (420 * sd + 420) cc j → mW2 sd w i c cc j := fun cc j q => by
  rcases q with q | q | q
  · exact Or.inl (mE_mono h2 cc j q)
  · exact Or.inr (Or.inl (by omega))
  · exact Or.inr (Or.inr (Or.inl q))
theorem mW2_mono {sd w i i2 c c2 : Nat} (h1 : i ≤ i2) (h2 : c ≤ c2) : ∀ cc j, mW2 sd w i2 c2 cc j → mW2 sd w i c cc j := fun cc j q => by
  rcases q with q | q | q | q
  · exact Or.inl (mE_mono h2 cc j q)
  · exact Or.inr (Or.inl (by omega))
  · exact Or.inr (Or.inr (Or.inl q))
  · exact Or.inr (Or.inr (Or.inr q))
theorem c_106D {W : Nat} {M N : gM} {L : gL} (hW : isLw W) (hd : Dd b n m M N) : ∃ M', J_Reader_takeLaw_106 W M L = some M' ∧ Dd b n m M' N := by
  unfold J_Reader_takeLaw_106
  obtain ⟨M1, e1, h1⟩ := tq_Reader_takeSum (Wl1 := W) (M := M) (L := L) hW
  obtain ⟨M2, e2, h2⟩ := tq_Reader_need (p1 := 59) (M := M1) (L := L)
  rw [e1, bI_s, e2, bI_s]
  exact ⟨M2, rfl, (hd.cl h1).cl h2⟩
theorem c_lawD {W : Nat} {M N : gM} {L : gL} (hW : isLw W) (hd : Dd b n m M N) (f : Nat) (v2 : Int32) : ∃ M', H_Reader_takeLaw_16 W L (f + 1) v2 M = some M' ∧ Dd b n m M' N := by
  obtain ⟨M', e1, e2⟩ := c_106D (L := L) hW hd
  refine ⟨M', ?_, e2⟩
  show B_Reader_takeLaw_16 W L (H_Reader_takeLaw_16 W L f) v2 M = _
  unfold B_Reader_takeLaw_16
  by_cases h : 4 < v2
  · rw [if_pos h, e1]
  · rw [if_neg h, if_neg hd.nf.2, e1]
theorem m_129D {sd w i c : Nat} {M N : gM} {v1 v2 : Int32} (hd : Dd b n m M N) (h38 : N 401 38 = nI i) (hi : i < 130 * sd + 130) (hsd : sd ≤ 1) : ∃ N', J_Mod_tellLaw_129 v1 v2 N = some N' ∧ Dd b n m M N' ∧ Eo (mW2 sd w i c) N N' := by
  have hgi : ¬ (nI i < 0 ∨ 260 ≤ i) := nI_inc (by omega) (by omega)
  unfold J_Mod_tellLaw_129 F_Mod_term J_Mod_term_24
  rw [h38, nI_clamp (by omega), if_neg hgi, nmM_e, uM_diff (by omega), h38, nI_clamp (by omega), if_neg hgi, nmM_e, if_neg (by rw [uM_diff (by omega), uM_diff (by omega)]; exact hd.nf.1), uM_diff (by omega), uM_diff (by omega), h38, nI_clamp (by omega), if_neg hgi, nmM_e, uM_diff (by omega), uM_diff (by omega), uM_diff (by omega), h38, nmM_e, bI_s]
  generalize hN : uM (uM (uM (uM N 426 i (vp_nar .boolean 0)) 429 i (uM N 426 i (vp_nar .boolean 0) 401 44)) 430 i (uM (uM N 426 i (vp_nar .boolean 0)) 429 i (uM N 426 i (vp_nar .boolean 0) 401 44) 401 44)) 401 38 (nI i + 1) = N1
  have f1 : Eo (fun cc j => ((426 ≤ cc ∧ cc ≤ 430) ∧ j = i) ∨ (cc = 401 ∧ j = 38)) N N1 := by
    rw [← hN]
    refine (((Eo.rf.u ?_).u ?_).u ?_).u ?_ <;> omega
  have hd1 : Dd b n m M N1 := hd.mo2 (f1.mono (fun cc j q => by omega))
  obtain ⟨k2, ft, u, a1, a2, a3, a4, a5, a6, a7, a8⟩ := id hd1
  rw [q_mustD a5 a1, bI_s, if_neg (by rw [a5]; exact nI_nle (by omega) (by omega))]
  exact ⟨N1, rfl, hd1, f1.mono (fun cc j q => by rcases q with q | q; exact Or.inr (Or.inl (by omega)); exact Or.inr (Or.inr (Or.inl q)))⟩
theorem m_lawD {sd w i c : Nat} {M N : gM} {v1 v2 v3 : Int32} (hd : Dd b n m M N) (h38 : N 401 38 = nI i) (hi : i < 130 * sd + 130) (hsd : sd ≤ 1) (g : Nat) : ∃ N', H_Mod_tellLaw_12 v1 v2 (g + 1) v3 N = some N' ∧ Dd b n m M N' ∧ Eo (mW2 sd w i c) N N' := by
  obtain ⟨N', e1, e2, e3⟩ := m_129D (w := w) (c := c) (v1 := v1) (v2 := v2) hd h38 hi hsd
  refine ⟨N', ?_, e2, e3⟩
  show B_Mod_tellLaw_12 v1 v2 (H_Mod_tellLaw_12 v1 v2 g) v3 N = _
  unfold B_Mod_tellLaw_12
  rw [if_neg hd.nf.1, e1]
/-- what a law comes to -/
def LawO (b : Nat → Nat) (n m W sd w c i t : Nat) (M : gM) (L : gL) (N : gM) (K : gL) (M' N' : gM) : Prop := ((∃ t' c' i', t ≤ t' ∧ Tk b n m M' L N' K ∧ Lv m t' M' N' ∧ N' 401 44 = nI c' ∧ N' 401 12 = 0 ∧ N' 401 38 = nI i' ∧ c ≤ c' ∧ i ≤ i' ∧ c' ≤ t' + 420 * sd ∧ 4 * i' ≤ t' + 520 * sd ∧ LawR W sd w c' i' M' N' ∧ Eo (cE W 0) M M') ∨ Dd b n m M' N') ∧ Eo (mW2 sd w i c) N N'
theorem h_loop {W sd w fi : Nat} {L K : gL} (hW : isLw W) (hsd : sd ≤ 1) (hw : w < 4) : ∀ (d k f g t q c : Nat) (Q : Nat → Nat) (M N : gM), k + d = 4 → d < f → d < g → CH b n m W t q c M L N K → q + 2 ≤ t → c + 2 ≤ t + 420 * sd → N 401 38 = nI (fi + k) → 4 * (fi + k) + 2 ≤ t + 520 * sd → N 401 19 = nI sd → Q 0 = 0 → Q k = q → (∀ j, j < k → Br W (fi + j) (Q j) (Q (j + 1)) c M N ∧ Q (j + 1) ≤ q) →
    ∃ M' N', H_Reader_takeLaw_16 W L f (nI k) M = some M' ∧ H_Mod_tellLaw_12 (nI w) (nI fi) g (nI k) N = some N' ∧ LawO b n m W sd w c (fi + k) t M L N K M' N' := by
  have h12 := Lw_12 hW
  intro d
  induction d with
  | zero => sorry
  | succ d ih => sorry
end PAR7
