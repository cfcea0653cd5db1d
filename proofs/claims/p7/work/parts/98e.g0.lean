/-! what holds between calls, first half: all but the values of the state -/
section PAR20
theorem bv_nI (y : Int32) : y = nI y.toBitVec.toNat := by
  apply Int32.toBitVec_inj.mp
  apply BitVec.eq_of_toNat_eq
  show y.toBitVec.toNat = y.toBitVec.toNat % 2 ^ 32
  have := y.toBitVec.isLt
  omega
theorem and255 (x : Int32) : (x &&& 255).toBitVec.toNat ≤ 255 := by
  show (x.toBitVec &&& (255 : Int32).toBitVec).toNat ≤ 255
  rw [BitVec.toNat_and]
  exact Nat.le_trans Nat.and_le_right (by decide)
theorem b255 {i : Nat} (hi : i < 32) (h : ¬ i < 8) : (255#32).getLsbD i = false := (by decide : ∀ i, i < 32 → ¬ i < 8 → (255#32).getLsbD i = false) i hi h
theorem t8 (y : Int32) : y.toInt8.toInt32 &&& 255 = y &&& 255 := by
  apply Int32.toBitVec_inj.mp
  show (y.toBitVec.signExtend 8).signExtend 32 &&& 255#32 = y.toBitVec &&& 255#32
  apply BitVec.eq_of_getLsbD_eq
  intro i hi
  rw [BitVec.getLsbD_and, BitVec.getLsbD_and]
  by_cases h : i < 8
  · rw [BitVec.getLsbD_signExtend, if_pos h, BitVec.getLsbD_signExtend, if_pos hi]
    simp [h, hi]
  · rw [b255 hi h, Bool.and_false, Bool.and_false]
theorem shr_bits (v : BitVec 32) (s : Nat) (hs : s ≤ 24) : v.sshiftRight s &&& 255#32 = v >>> s &&& 255#32 := by
  apply BitVec.eq_of_getLsbD_eq
  intro i hi
  rw [BitVec.getLsbD_and, BitVec.getLsbD_and]
  by_cases h : i < 8
  · rw [BitVec.getLsbD_sshiftRight, BitVec.getLsbD_ushiftRight, if_pos (by omega)]
    have : decide (32 ≤ i) = false := decide_eq_false (by omega)
    rw [this]
    rfl
  · rw [b255 hi h, Bool.and_false, Bool.and_false]
theorem nar_b (x : Int32) : vp_nar .byte x = x.toInt8.toInt32 := rfl
theorem bM_n (w sh : Int32) : vp_nar .byte (bM w sh) &&& 255 = (w >>> (sh &&& 31)) &&& 255 := by
  unfold bM
  rw [nar_b, nar_b, t8, t8, t8]
theorem bM_24 (w : Int32) : vp_nar .byte (bM w 24) &&& 255 = bC w 24 := by
  rw [bM_n]
  exact Int32.toBitVec_inj.mp (shr_bits w.toBitVec 24 (by decide))
theorem bM_16 (w : Int32) : vp_nar .byte (bM w 16) &&& 255 = bC w 16 := by
  rw [bM_n]
  exact Int32.toBitVec_inj.mp (shr_bits w.toBitVec 16 (by decide))
theorem bM_8 (w : Int32) : vp_nar .byte (bM w 8) &&& 255 = bC w 8 := by
  rw [bM_n]
  exact Int32.toBitVec_inj.mp (shr_bits w.toBitVec 8 (by decide))
theorem bM_0 (w : Int32) : vp_nar .byte (bM w 0) &&& 255 = bC w 0 := by
  rw [bM_n]
  exact Int32.toBitVec_inj.mp (shr_bits w.toBitVec 0 (by decide))
def by4 (w : Int32) (k : Nat) : Nat := (bC w (nI (24 - 8 * k))).toBitVec.toNat
theorem by4_le {w : Int32} {k : Nat} : by4 w k ≤ 255 := and255 _
theorem by4_e {w : Int32} {k : Nat} : bC w (nI (24 - 8 * k)) = nI (by4 w k) := bv_nI _
def b4 (w : Int32) (t : Nat) (b : Nat → Nat) (j : Nat) : Nat := if j < t then b j else by4 w (j - t)
/-- the model's tape -/
def Tq (b : Nat → Nat) (n : Nat) (M : gM) : Prop := M 401 2 = nI n ∧ ∀ j, j < n → (vp_nar .byte (M 402 j)) &&& 255 = nI (b j)
theorem Tp.w {b : Nat → Nat} {t : Nat} {M : gM} (w : Int32) (h : Tp b t M) (ht : t + 4 ≤ 2000) : Tp (b4 w t b) (t + 4) (tw4 w t M) := by
  refine ⟨tw4_1, ht, fun j hj => ?_⟩
  unfold b4
  by_cases h1 : j < t
  · rw [if_pos h1, tw4_o (by omega) (by omega)]
    exact h.2.2 j h1
  · rw [if_neg h1]
    obtain ⟨e0, e1, e2, e3⟩ := tw4_b (w := w) (t := t) (M := M)
    refine ⟨?_, by4_le⟩
    rcases (show j = t ∨ j = t + 1 ∨ j = t + 2 ∨ j = t + 3 by omega) with q | q | q | q
    · rw [q, e0, Nat.sub_self]; exact by4_e (k := 0)
    · rw [q, e1, show t + 1 - t = 1 by omega]; exact by4_e (k := 1)
    · rw [q, e2, show t + 2 - t = 2 by omega]; exact by4_e (k := 2)
    · rw [q, e3, show t + 3 - t = 3 by omega]; exact by4_e (k := 3)
theorem Tq.w {b : Nat → Nat} {t : Nat} {M : gM} (w : Int32) (h : Tq b t M) : Tq (b4 w t b) (t + 4) (mp4 w t M) := by
  refine ⟨mp4_1, fun j hj => ?_⟩
  unfold b4
  by_cases h1 : j < t
  · rw [if_pos h1, mp4_o (by omega) (by omega)]
    exact h.2 j h1
  · rw [if_neg h1]
    obtain ⟨e0, e1, e2, e3⟩ := mp4_b (w := w) (t := t) (M := M)
    rcases (show j = t ∨ j = t + 1 ∨ j = t + 2 ∨ j = t + 3 by omega) with q | q | q | q
    · rw [q, e0, Nat.sub_self, bM_24]; exact by4_e (k := 0)
    · rw [q, e1, show t + 1 - t = 1 by omega, bM_16]; exact by4_e (k := 1)
    · rw [q, e2, show t + 2 - t = 2 by omega, bM_8]; exact by4_e (k := 2)
    · rw [q, e3, show t + 3 - t = 3 by omega, bM_0]; exact by4_e (k := 3)
theorem Tp.keep {b : Nat → Nat} {n : Nat} {M M' : gM} (h : Tp b n M) (h1 : M' 1 1 = M 1 1) (h2 : ∀ j, M' 2 j = M 2 j) : Tp b n M' := ⟨h1.trans h.1, h.2.1, fun j hj => by rw [h2]; exact h.2.2 j hj⟩
theorem Tq.keep {b : Nat → Nat} {n : Nat} {M M' : gM} (h : Tq b n M) (h1 : M' 401 2 = M 401 2) (h2 : ∀ j, M' 402 j = M 402 j) : Tq b n M' := ⟨h1.trans h.1, fun j hj => by rw [h2]; exact h.2 j hj⟩
/-- the data of the land that is told -/
def Dl (ld lv : Nat) (M : gM) : Prop := ∃ nf nd ng ne c i, Cnts ld lv nf nd ng ne M M ∧ Dat ld lv nf nd ng ne M M ∧ Lws ld lv c i M M ∧ c ≤ 420 * lv + 400 ∧ i ≤ 130 * lv + 100
/-- what is told -/
def Td (M : gM) : Prop := ∃ k, k ≤ 20 ∧ M 383 3 = nI k ∧ M 401 64 = nI k ∧ ∀ i, i < k → ∃ f h w, f ≤ 2 ∧ h ≤ 9 ∧ w ≤ 99 ∧ M 384 i = nI f ∧ M 441 i = nI f ∧ M 385 i = nI h ∧ M 442 i = nI h ∧ M 386 i = nI w ∧ M 443 i = nI w
/-- which slots hold something -/
def Sl (M : gM) : Prop := ∃ q : Nat, q < 8 ∧ M 360 1 = nI q ∧ ∀ s, s < 3 → M 445 s = if q.testBit s then 1 else 0
def Gr (ld : Nat) (M : gM) (L : gL) : Prop := isLa ld ∧ Wdc L ∧ Wdm L ∧ Inv M ∧ (∃ lv, lv ≤ 1 ∧ M 401 18 = nI lv ∧ Dl ld lv M) ∧ M 0 11 = M 401 17 ∧ Td M ∧ Sl M
def G0 (ld : Nat) (M : gM) (L : gL) : Prop := (∃ b n, Tp b n M ∧ Tq b n M) ∧ Gr ld M L
def gl (c j : Nat) : Bool := (c == 0 && j == 11) || (decide (12 ≤ c) && decide (c < 64) && !scrL.contains c) || c == 360 || (c == 383 && j == 3) || (decide (384 ≤ c) && decide (c ≤ 386)) || (c == 401 && (j == 17 || j == 18 || j == 64)) || (decide (411 ≤ c) && decide (c ≤ 432)) || (decide (441 ≤ c) && decide (c ≤ 443)) || c == 445
def gt (c j : Nat) : Bool := (c == 1 && j == 1) || c == 2 || (c == 401 && j == 2) || c == 402
theorem segOk.keep2 {M M' : gM} {a b : Nat} (e1 : ∀ j, M' 431 j = M 431 j) (e2 : ∀ j, M' 432 j = M 432 j) (g : segOk M a b) : segOk M' a b := by
  unfold segOk at g ⊢
  rw [vdp_keep e1]
  simp only [e1, e2]
  exact g
theorem lawOk.keep2 {M M' : gM} {k : Nat} (e : ∀ c j, 424 ≤ c → c ≤ 432 → M' c j = M c j) (g : lawOk M k) : lawOk M' k := by
  unfold lawOk at g ⊢
  have e1 : ∀ j, M' 431 j = M 431 j := fun j => e 431 j (by decide) (by decide)
  have e2 : ∀ j, M' 432 j = M 432 j := fun j => e 432 j (by decide) (by decide)
  rw [e 424 _ (by decide) (by decide), e 425 _ (by decide) (by decide)]
  refine ⟨g.1, g.2.1, fun b h1 h2 => ?_⟩
  have g3 := g.2.2 b h1 h2
  rw [e 427 _ (by decide) (by decide), e 429 _ (by decide) (by decide), e 426 _ (by decide) (by decide), e 428 _ (by decide) (by decide), e 430 _ (by decide) (by decide)]
  exact ⟨g3.1, g3.2.1, fun hb => ⟨(g3.2.2.1 hb).1, (g3.2.2.1 hb).2.1.keep2 e1 e2, (g3.2.2.1 hb).2.2.keep2 e1 e2⟩, g3.2.2.2.1, g3.2.2.2.2.keep2 e1 e2⟩
theorem Inv.keep2 {M M' : gM} (e18 : M' 401 18 = M 401 18) (e64 : M' 401 64 = M 401 64) (e : ∀ c j, 411 ≤ c → c ≤ 432 → M' c j = M c j) (e441 : ∀ i, M' 441 i = M 441 i) (h57 : 0 ≤ (M' 401 57).toInt ∧ (M' 401 57).toInt ≤ 40) (g : Inv M) : Inv M' := by
  unfold Inv at g ⊢
  have e411 : ∀ i, M' 411 i = M 411 i := fun i => e 411 i (by decide) (by decide)
  have e415 : ∀ i, M' 415 i = M 415 i := fun i => e 415 i (by decide) (by decide)
  have e418 : ∀ i, M' 418 i = M 418 i := fun i => e 418 i (by decide) (by decide)
  have e420 : ∀ i, M' 420 i = M 420 i := fun i => e 420 i (by decide) (by decide)
  have e421 : ∀ i, M' 421 i = M 421 i := fun i => e 421 i (by decide) (by decide)
  simp only [e18, e411, e415, e418, e420, e421, e441, e64]
  obtain ⟨g1, g2, g3, g4, g5, g6, g7, g8, g9, g10, g11⟩ := g
  exact ⟨g1, g2, g3, g4, g5, h57, g7, g8, g9, g10, fun k hk => (g11 k hk).keep2 (fun c j a b => e c j (by omega) b)⟩
theorem La_cases {ld : Nat} (h : isLa ld) : ld = 12 ∨ ld = 38 := (by decide +kernel : ∀ x ∈ lLa, x = 12 ∨ x = 38) ld h
theorem gl_La {ld x j : Nat} (h : isLa ld) (hx : x < 23) (hx2 : x ≤ 10 ∨ x = 13 ∨ x = 14 ∨ x = 17 ∨ x = 18 ∨ x = 21 ∨ x = 22) : gl (ld + x) j = true := by
  have := (by decide +kernel : ∀ ld ∈ lLa, ∀ x, x < 23 → (x ≤ 10 ∨ x = 13 ∨ x = 14 ∨ x = 17 ∨ x = 18 ∨ x = 21 ∨ x = 22) → (decide (12 ≤ ld + x) && decide (ld + x < 64) && !scrL.contains (ld + x)) = true) ld h x hx hx2
  unfold gl
  rw [this]
  simp
theorem gl_Lc {ld c j : Nat} (h : isLa ld) (h1 : ld ≤ c) (h2 : c ≤ ld + 10) : gl c j = true := by
  rw [show c = ld + (c - ld) by omega]
  exact gl_La h (by omega) (Or.inl (by omega))
theorem gl_Lw {ld w j : Nat} (h : isLa ld) (hw : w < 4) : gl (ld + 9 + 4 * w) j = true ∧ gl (ld + 9 + 4 * w + 1) j = true := by
  rw [show ld + 9 + 4 * w = ld + (9 + 4 * w) by omega, show ld + (9 + 4 * w) + 1 = ld + (10 + 4 * w) by omega]
  exact ⟨gl_La h (by omega) (by omega), gl_La h (by omega) (by omega)⟩
theorem gl_M {c j : Nat} (h : 411 ≤ c) (h2 : c ≤ 432) : gl c j = true := by simp [gl, h, h2]
/-- the model's cells of a side -/
def sideC (lv c j : Nat) : Prop := ((c = 411 ∨ c = 415 ∨ c = 418 ∨ c = 420 ∨ c = 423) ∧ j = lv) ∨ ((c = 412 ∨ c = 413 ∨ c = 421 ∨ c = 422) ∧ 6 * lv ≤ j ∧ j < 6 * lv + 6) ∨ (c = 414 ∧ 18 * lv ≤ j ∧ j < 18 * lv + 18) ∨ (c = 416 ∧ 5 * lv ≤ j ∧ j < 5 * lv + 5) ∨ (c = 417 ∧ 30 * lv ≤ j ∧ j < 30 * lv + 30) ∨ ((c = 419 ∨ c = 424 ∨ c = 425) ∧ 4 * lv ≤ j ∧ j < 4 * lv + 4) ∨ ((426 ≤ c ∧ c ≤ 430) ∧ 130 * lv ≤ j ∧ j < 130 * lv + 130) ∨ ((c = 431 ∨ c = 432) ∧ 420 * lv ≤ j ∧ j < 420 * lv + 420)
theorem Dl.keepR {ld lv : Nat} {M M' : gM} (h : Dl ld lv M) (eL : ∀ c j, ld ≤ c → c ≤ ld + 10 → M' c j = M c j) (eW : ∀ w, w < 4 → ∀ j, M' (ld + 9 + 4 * w) j = M (ld + 9 + 4 * w) j ∧ M' (ld + 9 + 4 * w + 1) j = M (ld + 9 + 4 * w + 1) j) (eM : ∀ c j, sideC lv c j → M' c j = M c j) : Dl ld lv M' := by
  obtain ⟨nf, nd, ng, ne, c, i, h1, ⟨d1, d2, d3, d4, d5⟩, h3, h4, h5⟩ := h
  obtain ⟨⟨f1, f2, f3⟩, ⟨s1, s2, s3⟩, ⟨g1, g2, g3⟩, ⟨e1, e2, e3⟩⟩ := id h1
  refine ⟨nf, nd, ng, ne, c, i, ?_, ⟨fun k hk => ?_, ⟨fun k hk => ?_, fun j hj hj2 => ?_⟩, fun k hk => ?_, fun k hk => ?_, ?_⟩, fun w hw => ?_, h4, h5⟩
  · unfold Cnts at h1 ⊢
    rw [eL ld 0 (by omega) (by omega), eL ld 1 (by omega) (by omega), eL ld 2 (by omega) (by omega), eL ld 3 (by omega) (by omega), eM 411 _ (by unfold sideC; omega), eM 415 _ (by unfold sideC; omega), eM 418 _ (by unfold sideC; omega), eM 420 _ (by unfold sideC; omega)]
    exact h1
  · rw [eL (ld + 1) k (by omega) (by omega), eL (ld + 2) k (by omega) (by omega), eM 412 _ (by unfold sideC; omega), eM 413 _ (by unfold sideC; omega)]
    refine ⟨(d1 k hk).1, (d1 k hk).2.1, fun j hj => ?_⟩
    rw [eL _ _ (by omega) (by omega), eM 414 _ (by unfold sideC; omega)]
    exact (d1 k hk).2.2 j hj
  · obtain ⟨a1, A, a2, a3, a4⟩ := d2.1 k hk
    rw [eL _ _ (by omega) (by omega), eM 416 _ (by unfold sideC; omega)]
    refine ⟨a1, A, fun f hf => ?_, a3, a4⟩
    rw [eL _ _ (by omega) (by omega), eM 417 _ (by unfold sideC; omega)]
    exact a2 f hf
  · rw [eL _ _ (by omega) (by omega)]
    exact d2.2 j hj hj2
  · rw [eL _ _ (by omega) (by omega), eM 419 _ (by unfold sideC; omega)]
    exact d3 k hk
  · rw [eL (ld + 7) k (by omega) (by omega), eL (ld + 8) k (by omega) (by omega), eM 421 _ (by unfold sideC; omega), eM 422 _ (by unfold sideC; omega)]
    exact d4 k hk
  · exact d5.keep (eL _ _ (by omega) (by omega)) (eM _ _ (by unfold sideC; omega))
  · rcases h3 w hw with ⟨a1, a2, a3⟩ | h
    · exact Or.inl ⟨by rw [(eW w hw 1).1]; exact a1, by rw [eM 424 _ (by unfold sideC; omega)]; exact a2, by rw [eM 425 _ (by unfold sideC; omega)]; exact a3⟩
    · exact Or.inr (h.keep (Nat.le_refl _) (Nat.le_refl _) (eW w hw 1).1 (fun j => (eW w hw j).2) (fun j x y => ⟨eM 431 _ (by unfold sideC; omega), eM 432 _ (by unfold sideC; omega)⟩) (fun cc j x y z1 z2 => eM _ _ (by unfold sideC; omega)) (eM 424 _ (by unfold sideC; omega)) (eM 425 _ (by unfold sideC; omega)))
theorem sideC_r {lv c j : Nat} (h : sideC lv c j) : 411 ≤ c ∧ c ≤ 432 := by unfold sideC at h; omega
theorem Dl.keep {ld lv : Nat} {M M' : gM} (hld : isLa ld) (h : Dl ld lv M) (e : ∀ c j, gl c j = true → M' c j = M c j) : Dl ld lv M' :=
  h.keepR (fun c j a b => e c j (gl_Lc hld a b)) (fun w hw j => ⟨e _ _ (gl_Lw hld hw).1, e _ _ (gl_Lw hld hw).2⟩) (fun c j q => e c j (gl_M (sideC_r q).1 (sideC_r q).2))
theorem nI_tn {c : Nat} (h : c < 2 ^ 31) : (nI c).toInt.toNat = c := by rw [nI_toInt h]; rfl
theorem Cd.ok {c k v : Int32} (h : Cd c k v) : (0 ≤ k.toInt ∧ k.toInt ≤ 5) ∧ (k.toInt = 1 → 0 ≤ v.toInt ∧ v.toInt < 9) := by
  rcases h with ⟨x, hx, rfl, rfl, _⟩ | ⟨x, hx, rfl, rfl, _⟩ | ⟨rfl, _⟩ | ⟨rfl, _⟩ | ⟨rfl, _⟩ | ⟨rfl, _⟩
  · exact ⟨by decide, fun q => absurd q (by decide)⟩
  · have e : (nI x).toInt = (x : Int) := nI_toInt (by omega)
    exact ⟨by decide, fun _ => by omega⟩
  all_goals exact ⟨by decide, fun q => absurd q (by decide)⟩
theorem Sg.ok {W q c l : Nat} {M N : gM} (h : Sg W q c l M N) (h1 : l ≤ 400) (h2 : c + l ≤ 840) : segOk N (nI c).toInt.toNat (nI (c + l)).toInt.toNat := by
  rw [nI_tn (by omega), nI_tn (by omega)]
  obtain ⟨a1, a2, a3, a4⟩ := h
  refine ⟨by omega, h2, by omega, by rw [show c + l - c = l by omega]; exact a3, fun j hj hj2 => ?_⟩
  have := (a2 (j - c) (by omega)).ok
  rw [show c + (j - c) = j by omega] at this
  exact this
theorem LawR.ok {W sd w c i : Nat} {M N : gM} (h : LawR W sd w c i M N) (hc : c ≤ 840) (hi : i ≤ 260) : lawOk N (4 * sd + w) := by
  obtain ⟨fi, k, len, Q, a1, a2, a3, a4, b4, a5, a6, a7, a8, a9⟩ := h
  unfold lawOk
  rw [a1, a2, nI_toInt (by omega), nI_toInt (by omega)]
  refine ⟨by omega, by omega, fun b h1 h2 => ?_⟩
  by_cases hb : b = fi + k
  · obtain ⟨c1, l, x1, x2, x3, x4, x5, x6, x7⟩ := a7
    rw [hb, x1, x2, x3]
    have y := x4.ok (by omega) (by omega)
    exact ⟨fun q => absurd rfl q, by rw [nI_toInt (by omega)]; omega, fun q => absurd rfl q, by rw [nI_toInt (by omega)]; omega, y⟩
  · obtain ⟨j, rfl⟩ : ∃ j, b = fi + j := ⟨b - fi, by omega⟩
    obtain ⟨⟨c1, l1, l2, l3, x1, x2, x3, x4, x5, x6, x7, x8, x9, x10, x11, x12, x13, x14⟩, y1⟩ := a6 j (by omega)
    rw [x2, x3, x4, x5]
    have z1 := x6.ok (by omega) (by omega)
    have z2 := x7.ok (by omega) (by omega)
    have z3 := x10.ok (by omega) (by omega)
    exact ⟨fun _ => by rw [nI_toInt (by omega)]; omega, by rw [nI_toInt (by omega)]; omega, fun _ => ⟨by rw [nI_toInt (by omega)]; omega, z1, z2⟩, by rw [nI_toInt (by omega)]; omega, z3⟩
theorem Td.keep2 {M M' : gM} (h : Td M) (e1 : M' 383 3 = M 383 3) (e2 : M' 401 64 = M 401 64) (e : ∀ c j, (384 ≤ c ∧ c ≤ 386) ∨ (441 ≤ c ∧ c ≤ 443) → M' c j = M c j) : Td M' := by
  obtain ⟨k, h1, h2, h3, h4⟩ := h
  refine ⟨k, h1, e1.trans h2, e2.trans h3, fun i hi => ?_⟩
  rw [e 384 i (by omega), e 385 i (by omega), e 386 i (by omega), e 441 i (by omega), e 442 i (by omega), e 443 i (by omega)]
  exact h4 i hi
theorem Td.keep {M M' : gM} (h : Td M) (e : ∀ c j, gl c j = true → M' c j = M c j) : Td M' := h.keep2 (e 383 3 rfl) (e 401 64 rfl) (fun c j q => e c j (by
  rcases q with q | q
  · simp [gl, q.1, q.2]
  · simp [gl, q.1, q.2]))
theorem Sl.keep2 {M M' : gM} (h : Sl M) (e1 : M' 360 1 = M 360 1) (e : ∀ j, M' 445 j = M 445 j) : Sl M' := by
  obtain ⟨q, h1, h2, h3⟩ := h
  exact ⟨q, h1, e1.trans h2, fun s hs => (e s).trans (h3 s hs)⟩
theorem Sl.keep {M M' : gM} (h : Sl M) (e : ∀ c j, gl c j = true → M' c j = M c j) : Sl M' := h.keep2 (e 360 1 rfl) (fun j => e 445 j rfl)
/-- the bounds of all counts -/
def Cb (M : gM) : Prop := (∀ i, 0 ≤ (M 411 i).toInt ∧ (M 411 i).toInt ≤ 6) ∧ (∀ i, 0 ≤ (M 415 i).toInt ∧ (M 415 i).toInt ≤ 5) ∧ (∀ i, 0 ≤ (M 418 i).toInt ∧ (M 418 i).toInt ≤ 4) ∧ (∀ i, 0 ≤ (M 420 i).toInt ∧ (M 420 i).toInt ≤ 6)
theorem Inv.cb {M : gM} (h : Inv M) : Cb M := ⟨h.foods, h.dishes, h.guests, h.deeds⟩
theorem Cb.upd {M M' : gM} {sd : Nat} (h : Cb M) (e : ∀ c j, (c = 411 ∨ c = 415 ∨ c = 418 ∨ c = 420) → j ≠ sd → M' c j = M c j) (hm : Mcnt sd M') : Cb M' := by
  obtain ⟨⟨k1, a1, a2⟩, ⟨k2, a3, a4⟩, ⟨k3, a5, a6⟩, ⟨k4, a7, a8⟩⟩ := hm
  refine ⟨fun i => ?_, fun i => ?_, fun i => ?_, fun i => ?_⟩ <;> by_cases q : i = sd
  · rw [q, a1, nI_toInt (by omega)]; omega
  · rw [e _ i (by omega) q]; exact h.1 i
  · rw [q, a3, nI_toInt (by omega)]; omega
  · rw [e _ i (by omega) q]; exact h.2.1 i
  · rw [q, a5, nI_toInt (by omega)]; omega
  · rw [e _ i (by omega) q]; exact h.2.2.1 i
  · rw [q, a7, nI_toInt (by omega)]; omega
  · rw [e _ i (by omega) q]; exact h.2.2.2 i
theorem Inv_of {ld lv : Nat} {M : gM} (hlv : lv ≤ 1) (h18 : M 401 18 = nI lv) (hD : Dl ld lv M) (hC : Cb M) (h57 : 0 ≤ (M 401 57).toInt ∧ (M 401 57).toInt ≤ 40) (hT : Td M) : Inv M := by
  obtain ⟨nf, nd, ng, ne, c, i, ⟨⟨f1, f2, f3⟩, ⟨s1, s2, s3⟩, ⟨g1, g2, g3⟩, ⟨e1, e2, e3⟩⟩, ⟨d1, d2, d3, d4, d5⟩, h3, h4, h5⟩ := hD
  obtain ⟨k, t1, t2, t3, t4⟩ := hT
  have hl : (M 401 18).toInt = (lv : Int) := by rw [h18]; exact nI_toInt (by omega)
  have hln : (M 401 18).toInt.toNat = lv := by rw [hl]; rfl
  have hk : (M 401 64).toInt = (k : Int) := by rw [t3]; exact nI_toInt (by omega)
  unfold Inv
  rw [hln, hl, hk, e2, s2, f2, nI_toInt (by omega), nI_toInt (by omega), nI_toInt (by omega)]
  refine ⟨by omega, hC.1, hC.2.1, hC.2.2.1, hC.2.2.2, h57, by omega, fun j hj => ?_, fun j x1 x2 => ?_, fun q => ?_, fun w hw => ?_⟩
  · obtain ⟨f, h, v, y1, y2, y3, y4, y5, _⟩ := t4 j (by omega)
    rw [y5, nI_toInt (by omega)]
    omega
  · obtain ⟨⟨x, y1, y2, y3⟩, _⟩ := d4 (j - 6 * lv) (by omega)
    rw [show 6 * lv + (j - 6 * lv) = j by omega] at y3
    rw [y3, nI_toInt (by omega)]
    omega
  · obtain ⟨a1, A, a2, a3, a4⟩ := d2.1 0 (by omega)
    have w0 := (a2 0 (by decide)).2.2
    have w1 := (a2 1 (by decide)).2.2
    have w2 := (a2 2 (by decide)).2.2
    have w3 := (a2 3 (by decide)).2.2
    have w4 := (a2 4 (by decide)).2.2
    have w5 := (a2 5 (by decide)).2.2
    omega
  · rw [show (4 * (lv : Int)).toNat + w = 4 * lv + w by omega]
    rcases h3 w hw with ⟨x1, x2, x3⟩ | h
    · unfold lawOk
      rw [x2, x3]
      exact ⟨by decide, by decide, fun b y1 y2 => absurd (Int.lt_of_le_of_lt y1 y2) (Int.lt_irrefl _)⟩
    · exact h.ok (by omega) (by omega)
theorem Gr.keep {ld : Nat} {M M' : gM} {L : gL} (h : Gr ld M L) (e : ∀ c j, gl c j = true → M' c j = M c j) (h57 : 0 ≤ (M' 401 57).toInt ∧ (M' 401 57).toInt ≤ 40) : Gr ld M' L := by
  obtain ⟨h1, h2, h3, h4, ⟨lv, h5, h6, h7⟩, h8, h9, h10⟩ := h
  exact ⟨h1, h2, h3, h4.keep2 (e 401 18 rfl) (e 401 64 rfl) (fun c j a b => e c j (gl_M a b)) (fun i => e 441 i rfl) h57, ⟨lv, h5, (e 401 18 rfl).trans h6, h7.keep h1 e⟩, by rw [e 0 11 rfl, e 401 17 rfl]; exact h8, h9.keep e, h10.keep e⟩
theorem G0.keep {ld : Nat} {M M' : gM} {L : gL} (h : G0 ld M L) (e : ∀ c j, (gl c j || gt c j) = true → M' c j = M c j) (h57 : 0 ≤ (M' 401 57).toInt ∧ (M' 401 57).toInt ≤ 40) : G0 ld M' L := by
  obtain ⟨⟨b, n, h1, h2⟩, h3⟩ := h
  exact ⟨⟨b, n, h1.keep (e 1 1 rfl) (fun j => e 2 j rfl), h2.keep (e 401 2 rfl) (fun j => e 402 j rfl)⟩, h3.keep (fun c j q => e c j (by rw [q]; rfl)) h57⟩
theorem gl_num {c j : Nat} (h : (gl c j || gt c j) = true) : scrL.contains c = false ∧ ((c ≤ 2) ∨ (12 ≤ c ∧ c < 64) ∨ c = 360 ∨ (c = 383 ∧ j = 3) ∨ (384 ≤ c ∧ c ≤ 386) ∨ (c = 401 ∧ (j = 2 ∨ j = 17 ∨ j = 18 ∨ j = 64)) ∨ c = 402 ∨ (411 ≤ c ∧ c ≤ 432) ∨ (441 ≤ c ∧ c ≤ 443) ∨ c = 445) := by
  simp only [gl, gt, Bool.or_eq_true, Bool.and_eq_true, beq_iff_eq, decide_eq_true_eq, Bool.not_eq_true'] at h
  by_cases q : 12 ≤ c ∧ c < 64 ∧ scrL.contains c = false
  · exact ⟨q.2.2, by omega⟩
  · have h3 : (c ≤ 2) ∨ c = 360 ∨ (c = 383 ∧ j = 3) ∨ (384 ≤ c ∧ c ≤ 386) ∨ (c = 401 ∧ (j = 2 ∨ j = 17 ∨ j = 18 ∨ j = 64)) ∨ c = 402 ∨ (411 ≤ c ∧ c ≤ 432) ∨ (441 ≤ c ∧ c ≤ 443) ∨ c = 445 := by
      rcases h with (((((((((h | h) | h) | h) | h) | h) | h) | h) | h)) | h
      · omega
      · exact absurd ⟨h.1.1, h.1.2, h.2⟩ q
      all_goals omega
    refine ⟨?_, by omega⟩
    have := (by decide +kernel : ∀ x ∈ scrL, ¬ ((x ≤ 2) ∨ x = 360 ∨ x = 383 ∨ (384 ≤ x ∧ x ≤ 386) ∨ x = 401 ∨ x = 402 ∨ (411 ≤ x ∧ x ≤ 432) ∨ (441 ≤ x ∧ x ≤ 443) ∨ x = 445)) c
    cases e : scrL.contains c with
    | false => rfl
    | true => exact absurd (by omega) (this (by simpa using e))
theorem gl_C1 {c j : Nat} (h : (gl c j || gt c j) = true) : C1 c j = false := by
  obtain ⟨h1, h2⟩ := gl_num h
  unfold C1 C0
  rw [h1]
  simp only [Bool.false_and, Bool.false_or, Bool.or_eq_false_iff, Bool.and_eq_false_iff, beq_eq_false_iff_ne, decide_eq_false_iff_not, Bool.not_eq_false', beq_iff_eq]
  omega
theorem gl_C0 {c j : Nat} (h : (gl c j || gt c j) = true) : C0 c j = false := C0_f (gl_num h).1
theorem gl_MS1 {c j : Nat} (h : (gl c j || gt c j) = true) : MS1 c j = false := by
  obtain ⟨h1, h2⟩ := gl_num h
  simp only [MS1, MS0, Bool.or_eq_false_iff, Bool.and_eq_false_iff, beq_eq_false_iff_ne]
  omega
theorem gl_MS0 {c j : Nat} (h : (gl c j || gt c j) = true) : MS0 c j = false := by
  cases e : MS0 c j with
  | false => rfl
  | true => have := gl_MS1 h; rw [MS0_MS1 c j e] at this; cases this
theorem G0.inv {ld : Nat} {M : gM} {L : gL} (h : G0 ld M L) : Inv M := h.2.2.2.2.1
theorem G0.la {ld : Nat} {M : gM} {L : gL} (h : G0 ld M L) : isLa ld := h.2.1
theorem G0.kC1 {ld : Nat} {M M' : gM} {L : gL} (h : G0 ld M L) (k : Kl C1 M zL M' zL) : G0 ld M' L := h.keep (fun c j q => k.m (gl_C1 q)) (by rw [k.m (show C1 401 57 = false from rfl)]; exact h.inv.undos)
theorem G0.kC0 {ld : Nat} {M M' : gM} {L : gL} (h : G0 ld M L) (k : Kl C0 M zL M' zL) : G0 ld M' L := h.kC1 (k.mono C0_C1)
theorem G0.kM1 {ld : Nat} {M M' : gM} {L : gL} (h : G0 ld M L) (k : Kl MS1 M zL M' zL) : G0 ld M' L := h.keep (fun c j q => k.m (gl_MS1 q)) (by rw [k.m (show MS1 401 57 = false from rfl)]; exact h.inv.undos)
theorem G0.kM0 {ld : Nat} {M M' : gM} {L : gL} (h : G0 ld M L) (k : Kl MS0 M zL M' zL) : G0 ld M' L := h.kM1 (k.mono MS0_MS1)
theorem one_in_eq (p : Int32) {n : Nat} (hn : n < 2 ^ 30) : F_Mod_in p 0 (nI n - 1) = F_Main_isOne p (nI n) := by
  unfold F_Mod_in F_Main_isOne
  have e : (nI n - 1).toInt = (n : Int) - 1 := i_subE (nI_toInt (by omega)) (by decide) (by omega)
  have e2 : (nI n).toInt = (n : Int) := nI_toInt (by omega)
  by_cases h0 : p < 0
  · rw [if_pos h0, if_pos h0]
  · rw [if_neg h0, if_neg h0]
    by_cases h1 : nI n ≤ p
    · rw [if_pos h1, if_pos]
      rw [i_le] at h1; rw [i_lt]; omega
    · rw [if_neg h1, if_neg]
      rw [i_le] at h1; rw [i_lt]; omega
/-- of a number p: not one of n, or the k-th -/
theorem one_c2 (p : Int32) {n : Nat} (hn : n < 2 ^ 30) : (F_Main_isOne p (nI n) = some 0 ∧ F_Mod_in p 0 (nI n - 1) = some 0) ∨ ∃ k, k < n ∧ p = nI k ∧ F_Main_isOne p (nI n) = some 1 ∧ F_Mod_in p 0 (nI n - 1) = some 1 := by
  rw [one_in_eq p hn]
  rcases one_cases p (n := n) (by omega) with h | ⟨k, h1, h2, h3⟩
  · exact Or.inl ⟨h.1, h.1⟩
  · exact Or.inr ⟨k, h1, h2, h3, h3⟩
end PAR20
