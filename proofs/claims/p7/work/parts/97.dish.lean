/-! dishes -/
section PAR13
variable {b : Nat → Nat} {n m : Nat}
/-- the row of the dish that is being told -/
def Row (ld sd nd nf k : Nat) (A : Nat → Nat) (M N : gM) : Prop := (∀ f, f < 6 → M (ld + 5) (6 * nd + f) = nI (A f) ∧ N 417 (6 * (5 * sd + nd) + f) = nI (A f) ∧ (0 < A f → f < nf)) ∧ A 0 + A 1 + A 2 + A 3 + A 4 + A 5 = k
/-- the model behind an ingredient -/
def mDi (x1 x2 : Int32) (K : gL) (g k : Nat) (N : gM) : Option (gM × gL) := if N 401 13 = 0 then bI (F_Mod_is 1 N) (fun r28 => if r28 = 0 then J_Mod_tellDish_127 x2 N K else H_Mod_tellDish_63 x1 x2 K g (nI k) N) else J_Mod_tellDish_127 x2 N K
theorem mDi_109 {x1 x2 : Int32} {K : gL} {g k : Nat} {N : gM} : J_Mod_tellDish_109 (H_Mod_tellDish_63 x1 x2 K g) x1 x2 (nI k) N K = mDi x1 x2 K g (k + 1) N := by
  unfold J_Mod_tellDish_109 mDi
  rw [nmI_e, nI_1]
theorem m_127D {M N : gM} {K : gL} {x : Int32} (hd : Dd b n m M N) : J_Mod_tellDish_127 x N K = some (N, K) := by
  obtain ⟨k2, ft, u, a1, a2, a3, a4, a5, a6, a7, a8⟩ := id hd
  unfold J_Mod_tellDish_127 F_Mod_ends
  rw [q_mustD a5 a1, bI_s, if_neg (by rw [a5]; exact nI_nle (by omega) (by omega)), bI2_s, if_neg hd.nf.1]
theorem c_dishLD {ld : Nat} {x : Int32} {M N : gM} {L : gL} (hd : Dd b n m M N) (f : Nat) (v : Int32) : H_Reader_takeDish_47 ld x L (f + 1) v M = J_Reader_takeDish_94 ld x M L := by
  show B_Reader_takeDish_47 ld x L (H_Reader_takeDish_47 ld x L f) v M = _
  unfold B_Reader_takeDish_47
  by_cases h : 6 < v
  · rw [if_pos h]
  · rw [if_neg h, if_neg hd.nf.2]
theorem i_ingr {ld sd t nc nf nd k g : Nat} {l l' : Nat → List Nat} {a a' : Nat → Int32} {x2 : Int32} {M N : gM} {L K : gL} (hld : isLa ld) (hsd : sd ≤ 1) (hnf : nf ≤ 6) (hdd : nd < 5) (hn : nc ≤ 20) (hI : IS b n m t M L N K) (hM : Mn nc l a N K) (hA : Av nf nc a)
    (hC : M 3 4 = 0 → Cn (nc + 1) l' a' M L ∧ Un (nc + 1) l' ∧ (∀ k, k < nc → l' k = l k ∧ a' k = a k) ∧ a' nc = -1) (hRow : M 3 4 = 0 → ∃ A, Row ld sd nd nf k A M N) :
    ∃ M' N', F_Reader_takeIngredient ld (nI nd) M L = some M' ∧ J_Mod_tellDish_74 (H_Mod_tellDish_63 (nI (5 * sd + nd)) x2 K g) (nI (5 * sd + nd)) x2 (nI k) N K = mDi (nI (5 * sd + nd)) x2 K g (k + 1) N' ∧
      ((IS b n m (t + 1) M' L N' K ∧ Eo (cG ld) M M' ∧ (M' 3 4 = 0 → M 3 4 = 0 ∧ (∃ A, Row ld sd nd nf (k + 1) A M' N') ∧ ∀ j, (j < 6 * nd ∨ 6 * nd + 6 ≤ j) → M' (ld + 5) j = M (ld + 5) j)) ∨ Dd b n m M' N') ∧ Eo (fun c j => mI c j ∨ (c = 417 ∧ 6 * (5 * sd + nd) ≤ j ∧ j < 6 * (5 * sd + nd) + 6)) N N' := by
  obtain ⟨hT, hl, lf, hL⟩ := id hI
  have hlf := IS.lf0 hL
  obtain ⟨M', r, N1, g1, g2, g3, g4, g5⟩ := p_ingr (lf := lf) hld hnf hdd hn hT hl hL hM hA (fun q => hC (hlf.mpr q))
  unfold J_Mod_tellDish_74
  rw [hl.2.2.2.1, if_pos (by decide), g2, bI2_s]
  have live : ∀ N2 : gM, (∀ f, f < nf → r = nI f → N2 = uM N1 417 (6 * (5 * sd + nd) + f) (N1 417 (6 * (5 * sd + nd) + f) + 1)) → (r = -1 → N2 = N1) → Eo (fun c j => c = 417 ∧ 6 * (5 * sd + nd) ≤ j ∧ j < 6 * (5 * sd + nd) + 6) N1 N2 →
      ((IS b n m (t + 1) M' L N2 K ∧ Eo (cG ld) M M' ∧ (M' 3 4 = 0 → M 3 4 = 0 ∧ (∃ A, Row ld sd nd nf (k + 1) A M' N2) ∧ ∀ j, (j < 6 * nd ∨ 6 * nd + 6 ≤ j) → M' (ld + 5) j = M (ld + 5) j)) ∨ Dd b n m M' N2) := by
    intro N2 h1 h2 hE
    have h12 := La_12 hld
    rcases g4 with ⟨y1, y2, lf', y3, y4⟩ | g4
    · have hT1 : Tk b n m M' L N1 K := hT.keep (fun j => y2 6 j (by unfold cG; omega)) (fun j => y2 7 j (by unfold cG; omega)) (fun _ => rfl) (fun j => g5 404 j (by unfold mI; omega)) (fun j => g5 405 j (by unfold mI; omega)) (fun j => g5 406 j (by unfold mI; omega)) (fun _ => rfl)
      refine Or.inl ⟨⟨hT1.keep (fun _ => rfl) (fun _ => rfl) (fun _ => rfl) (fun j => hE 404 j (by omega)) (fun j => hE 405 j (by omega)) (fun j => hE 406 j (by omega)) (fun _ => rfl), y1.at rfl rfl (hE 401 11 (by omega)) (hE 401 13 (by omega)), lf', y3.up (Nat.le_refl _) rfl rfl (hE 401 15 (by omega)) (hE 401 16 (by omega))⟩, y2, fun q => ?_⟩
      obtain ⟨z1, f, z2, z3, z4⟩ := y4 ((IS.lf0 y3).mp q)
      obtain ⟨A, hA1, hA2⟩ := hRow (hlf.mpr z1)
      refine ⟨hlf.mpr z1, ⟨fun j => if j = f then A j + 1 else A j, fun j hj => ?_, ?_⟩, fun j hj => ?_⟩
      · rw [h1 f z2 z3, z4, uM_at]
        dsimp only
        obtain ⟨w1, w2, w3⟩ := hA1 j hj
        by_cases e : j = f
        · subst e
          rw [if_pos (rfl : 6 * nd + j = 6 * nd + j), if_pos (⟨rfl, rfl⟩ : (417 : Nat) = 417 ∧ 6 * (5 * sd + nd) + j = 6 * (5 * sd + nd) + j), if_pos (rfl : j = j), w1, g5 417 _ (by unfold mI; omega), w2, nI_1]
          exact ⟨rfl, rfl, fun _ => z2⟩
        · rw [if_neg (show ¬ (6 * nd + j = 6 * nd + f) by omega), if_neg (show ¬ ((417 : Nat) = 417 ∧ 6 * (5 * sd + nd) + j = 6 * (5 * sd + nd) + f) by omega), if_neg e, w1, g5 417 _ (by unfold mI; omega), w2]
          exact ⟨rfl, rfl, w3⟩
      · have hf6 : f < 6 := by omega
        dsimp only
        rcases (show f = 0 ∨ f = 1 ∨ f = 2 ∨ f = 3 ∨ f = 4 ∨ f = 5 by omega) with e | e | e | e | e | e <;> subst e <;> simp <;> omega
      · rw [z4, if_neg (by omega)]
    · exact Or.inr (g4.mo (hE 401 13 (by omega)) (hE 401 14 (by omega)) (hE 401 11 (by omega)))
  rcases g3 with e | ⟨f, hf, e⟩
  · rw [e, if_pos (by decide), mDi_109]
    exact ⟨M', N1, g1, rfl, live N1 (fun f _ h => absurd (e.symm.trans h) (fun (q : (-1 : Int32) = nI f) => by have h3 := nI_pos (n := f) (by omega); rw [← q] at h3; exact h3 nI_neg1)) (fun _ => rfl) Eo.rf, g5.mono (fun c j q => Or.inl q)⟩
  · have ew : (6 : Int32) * nI (5 * sd + nd) + nI f = nI (6 * (5 * sd + nd) + f) := by rw [show (6 : Int32) = nI 6 from rfl, nI_mul, nI_add]
    have hgi : ¬ (nI (6 * (5 * sd + nd) + f) < 0 ∨ 60 ≤ 6 * (5 * sd + nd) + f) := nI_inc (by omega) (by omega)
    rw [e, if_neg (nI_pos (by omega)), ew, nI_clamp (by omega), if_neg hgi, if_neg hgi, nmM_e, mDi_109]
    refine ⟨M', _, g1, rfl, live _ (fun f' _ h => ?_) (fun h => ?_) (Eo.rf.u (by omega)), (g5.mono (fun c j q => Or.inl q)).tr (Eo.rf.u (Or.inr (by omega)))⟩
    · have : f = f' := (nI_eq (by omega) (by omega)).mp (e.symm.trans h)
      subst this
      rfl
    · exact absurd (e.symm.trans h) (fun (q : nI f = (-1 : Int32)) => by have h3 := nI_pos (n := f) (by omega); rw [q] at h3; exact h3 nI_neg1)
/-- the further ingredients: k of them are told -/
theorem i_more {ld sd nc nf nd : Nat} {l l' : Nat → List Nat} {a a' : Nat → Int32} {x2 : Int32} {L K : gL} (hld : isLa ld) (hsd : sd ≤ 1) (hnf : nf ≤ 6) (hdd : nd < 5) (hn : nc ≤ 20) (hA : Av nf nc a) (hll : ∀ k, k < nc → l' k = l k ∧ a' k = a k) (hln : a' nc = -1) :
    ∀ (d k f g t : Nat) (M N : gM), k + d = 6 → d + 1 < f → d + 1 < g → IS b n m t M L N K → Mn nc l a N K → (M 3 4 = 0 → Cn (nc + 1) l' a' M L ∧ Un (nc + 1) l') → (M 3 4 = 0 → ∃ A, Row ld sd nd nf k A M N) →
    ∃ M' N' t', H_Reader_takeDish_47 ld (nI nd) L f (nI k) M = J_Reader_takeDish_94 ld (nI nd) M' L ∧ mDi (nI (5 * sd + nd)) x2 K g k N = J_Mod_tellDish_127 x2 N' K ∧ t ≤ t' ∧
      ((IS b n m t' M' L N' K ∧ Eo (cG ld) M M' ∧ (M' 3 4 = 0 → M 3 4 = 0 ∧ (∃ A k', k ≤ k' ∧ k' ≤ 6 ∧ Row ld sd nd nf k' A M' N') ∧ ∀ j, (j < 6 * nd ∨ 6 * nd + 6 ≤ j) → M' (ld + 5) j = M (ld + 5) j)) ∨ Dd b n m M' N') ∧ Eo (fun c j => mI c j ∨ (c = 417 ∧ 6 * (5 * sd + nd) ≤ j ∧ j < 6 * (5 * sd + nd) + 6)) N N' := by
  intro d
  induction d with
  | zero =>
    intro k f g t M N hk hf hg hI hM hC hRow
    obtain ⟨f, rfl⟩ : ∃ x, f = x + 2 := ⟨f - 2, by omega⟩
    obtain ⟨g, rfl⟩ : ∃ x, g = x + 1 := ⟨g - 1, by omega⟩
    obtain rfl : k = 6 := by omega
    obtain ⟨hT, hl, lf, hL⟩ := id hI
    have htm := hl.2.2.2.2
    have eM : H_Reader_takeDish_47 ld (nI nd) L (f + 2) (nI 6) M = if tkK b n t = 2 then bI (F_Reader_stop 2 M) (fun M28 => H_Reader_takeDish_47 ld (nI nd) L (f + 1) (nI 7) M28) else J_Reader_takeDish_94 ld (nI nd) M L := by
      show B_Reader_takeDish_47 ld (nI nd) L (H_Reader_takeDish_47 ld (nI nd) L (f + 1)) (nI 6) M = _
      unfold B_Reader_takeDish_47 J_Reader_takeDish_88
      rw [if_neg (by decide), hl.2.1, if_pos rfl, r_is hT (k := 2) (kk := 2) rfl hl.1 htm (by decide), bI_s]
      by_cases e : tkK b n t = 2
      · rw [if_pos e, if_neg (show ¬ (1 : Int32) = 0 by decide), if_pos (show nI 6 = 6 from rfl), if_pos e]
        simp only [nmI_e, nI_1]
      · rw [if_neg e, if_pos (show (0 : Int32) = 0 from rfl), if_neg e]
    have eN : mDi (nI (5 * sd + nd)) x2 K (g + 1) 6 N = if tkK b n t = 2 then bI (F_Mod_fail 2 N) (fun M34 => J_Mod_tellDish_74 (H_Mod_tellDish_63 (nI (5 * sd + nd)) x2 K g) (nI (5 * sd + nd)) x2 (nI 6) M34 K) else J_Mod_tellDish_127 x2 N K := by
      unfold mDi
      rw [hl.2.2.2.1, if_pos rfl, q_is hT (k := 2) (kk := 1) rfl (Or.inl (by decide)) hl.2.2.1 hl.2.2.2.1 htm, bI_s]
      by_cases e : tkK b n t = 2
      · rw [if_pos e, if_neg (show ¬ (1 : Int32) = 0 by decide), if_pos e]
        show B_Mod_tellDish_63 (nI (5 * sd + nd)) x2 K (H_Mod_tellDish_63 (nI (5 * sd + nd)) x2 K g) (nI 6) N = _
        unfold B_Mod_tellDish_63
        rw [if_pos (show nI 6 = 6 from rfl)]
      · rw [if_neg e, if_pos (show (0 : Int32) = 0 from rfl), if_neg e]
    rw [eM, eN]
    by_cases e : tkK b n t = 2
    · rw [if_pos e, if_pos e]
      obtain ⟨M1, N1, q1, q2, q3, q4⟩ := p_fail (k := 2) (kk := 2) rfl (Or.inr rfl) (Or.inl ⟨hT, hl⟩)
      obtain ⟨k2, ft, u, a1, a2, a3, a4, a5, a6, a7, a8⟩ := id q3
      rw [q1, bI_s, q2, bI_s, c_dishLD q3]
      unfold J_Mod_tellDish_74
      rw [if_neg (by rw [a5]; exact nI_nle (by omega) (by omega))]
      exact ⟨M1, N1, t, rfl, (m_127D q3).symm, Nat.le_refl _, Or.inr q3, q4.mono (fun c j q => Or.inl (mS_mI _ _ q))⟩
    · rw [if_neg e, if_neg e]
      exact ⟨M, N, t, rfl, rfl, Nat.le_refl _, Or.inl ⟨hI, Eo.rf, fun q => ⟨q, by obtain ⟨A, hA⟩ := hRow q; exact ⟨A, 6, Nat.le_refl _, Nat.le_refl _, hA⟩, fun _ _ => rfl⟩⟩, Eo.rf⟩
  | succ d ih =>
    intro k f g t M N hk hf hg hI hM hC hRow
    obtain ⟨f, rfl⟩ : ∃ x, f = x + 1 := ⟨f - 1, by omega⟩
    obtain ⟨g, rfl⟩ : ∃ x, g = x + 1 := ⟨g - 1, by omega⟩
    obtain ⟨hT, hl, lf, hL⟩ := id hI
    have htm := hl.2.2.2.2
    have hk6 : ¬ nI k = 6 := fun (q : nI k = (6 : Int32)) => by have := (nI_eq (a := k) (b := 6) (by omega) (by omega)).mp q; omega
    have eM : H_Reader_takeDish_47 ld (nI nd) L (f + 1) (nI k) M = if tkK b n t = 2 then bI (F_Reader_takeIngredient ld (nI nd) M L) (fun M25 => H_Reader_takeDish_47 ld (nI nd) L f (nI (k + 1)) M25) else J_Reader_takeDish_94 ld (nI nd) M L := by
      show B_Reader_takeDish_47 ld (nI nd) L (H_Reader_takeDish_47 ld (nI nd) L f) (nI k) M = _
      unfold B_Reader_takeDish_47 J_Reader_takeDish_88
      rw [if_neg (by rw [show (6 : Int32) = nI 6 from rfl, nI_ltI (by omega) (by omega)]; omega), hl.2.1, if_pos rfl, r_is hT (k := 2) (kk := 2) rfl hl.1 htm (by decide), bI_s]
      by_cases e : tkK b n t = 2
      · rw [if_pos e, if_neg (show ¬ (1 : Int32) = 0 by decide), if_neg hk6, if_pos e]
        simp only [nmI_e, nI_1]
      · rw [if_neg e, if_pos (show (0 : Int32) = 0 from rfl), if_neg e]
    have eN : mDi (nI (5 * sd + nd)) x2 K (g + 1) k N = if tkK b n t = 2 then J_Mod_tellDish_74 (H_Mod_tellDish_63 (nI (5 * sd + nd)) x2 K g) (nI (5 * sd + nd)) x2 (nI k) N K else J_Mod_tellDish_127 x2 N K := by
      unfold mDi
      rw [hl.2.2.2.1, if_pos rfl, q_is hT (k := 2) (kk := 1) rfl (Or.inl (by decide)) hl.2.2.1 hl.2.2.2.1 htm, bI_s]
      by_cases e : tkK b n t = 2
      · rw [if_pos e, if_neg (show ¬ (1 : Int32) = 0 by decide), if_pos e]
        show B_Mod_tellDish_63 (nI (5 * sd + nd)) x2 K (H_Mod_tellDish_63 (nI (5 * sd + nd)) x2 K g) (nI k) N = _
        unfold B_Mod_tellDish_63
        rw [if_neg hk6]
      · rw [if_neg e, if_pos (show (0 : Int32) = 0 from rfl), if_neg e]
    rw [eM, eN]
    by_cases e : tkK b n t = 2
    · rw [if_pos e, if_pos e]
      obtain ⟨M1, N1, q1, q2, q3, q4⟩ := i_ingr (g := g) (x2 := x2) hld hsd hnf hdd hn hI hM hA (fun q => ⟨(hC q).1, (hC q).2, hll, hln⟩) hRow
      rw [q1, bI_s, q2]
      rcases q3 with ⟨y1, y2, y3⟩ | q3
      · have h12 := La_12 hld
        obtain ⟨M', N', t', z1, z2, z3, z4, z5⟩ := ih (k + 1) f g (t + 1) M1 N1 (by omega) (by omega) (by omega) y1 (hM.keep (q4 401 20 (by unfold mI; omega)) (fun j => q4 410 j (by unfold mI; omega))) (fun q => ⟨(hC (y3 q).1).1.keep (y2 3 8 (by unfold cG; omega)) (fun j => y2 10 j (by unfold cG; omega)) (fun _ => rfl), (hC (y3 q).1).2⟩) (fun q => (y3 q).2.1)
        refine ⟨M', N', t', z1, z2, by omega, ?_, q4.tr z5⟩
        rcases z4 with ⟨w1, w2, w3⟩ | z4
        · refine Or.inl ⟨w1, y2.tr w2, fun q => ?_⟩
          obtain ⟨u1, ⟨A, k', u2, u3, u4⟩, u5⟩ := w3 q
          obtain ⟨v1, v2, v3⟩ := y3 u1
          exact ⟨v1, ⟨A, k', by omega, u3, u4⟩, fun j hj => (u5 j hj).trans (v3 j hj)⟩
        · exact Or.inr z4
      · obtain ⟨f, rfl⟩ : ∃ x, f = x + 1 := ⟨f - 1, by omega⟩
        rw [c_dishLD q3]
        refine ⟨M1, N1, t, rfl, ?_, Nat.le_refl _, Or.inr q3, q4⟩
        unfold mDi
        rw [if_neg q3.nf.1]
    · rw [if_neg e, if_neg e]
      exact ⟨M, N, t, rfl, rfl, Nat.le_refl _, Or.inl ⟨hI, Eo.rf, fun q => ⟨q, by obtain ⟨A, hA⟩ := hRow q; exact ⟨A, k, Nat.le_refl _, by omega, hA⟩, fun _ _ => rfl⟩⟩, Eo.rf⟩
end PAR13
