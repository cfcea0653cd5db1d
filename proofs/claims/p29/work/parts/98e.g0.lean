section MG13x0
/-! what holds between calls, first half: all but the values of the state -/
section PAR20
theorem bv_nI (y : Int32) : y = nI y.toBitVec.toNat := by
  apply Int32.toBitVec_inj.mp
  apply BitVec.eq_of_toNat_eq
  show y.toBitVec.toNat = y.toBitVec.toNat % 2 ^ 32
  have := y.toBitVec.isLt
  omega
theorem and255 (x : Int32) : (x &&& 255).toBitVec.toNat ≤ 255 := by
  show (x.toBitVec &&& (255 : Int32).toBitVec).toNat ≤ 255
  rw [BitVec.toNat_and]
  exact Nat.le_trans Nat.and_le_right (by decide)
theorem b255 {i : Nat} (hi : i < 32) (h : ¬ i < 8) : (255#32).getLsbD i = false := (by decide : ∀ i, i < 32 → ¬ i < 8 → (255#32).getLsbD i = false) i hi h
theorem t8 (y : Int32) : y.toInt8.toInt32 &&& 255 = y &&& 255 := by
  apply Int32.toBitVec_inj.mp
  show (y.toBitVec.signExtend 8).signExtend 32 &&& 255#32 = y.toBitVec &&& 255#32
  apply BitVec.eq_of_getLsbD_eq
  intro i hi
  rw [BitVec.getLsbD_and, BitVec.getLsbD_and]
  by_cases h : i < 8
  · rw [BitVec.getLsbD_signExtend, if_pos h, BitVec.getLsbD_signExtend, if_pos hi]
    simp [h, hi]
  · rw [b255 hi h, Bool.and_false, Bool.and_false]
theorem shr_bits (v : BitVec 32) (s : Nat) (hs : s ≤ 24) : v.sshiftRight s &&& 255#32 = v >>> s &&& 255#32 := by
  apply BitVec.eq_of_getLsbD_eq
  intro i hi
  rw [BitVec.getLsbD_and, BitVec.getLsbD_and]
  by_cases h : i < 8
  · rw [BitVec.getLsbD_sshiftRight, BitVec.getLsbD_ushiftRight, if_pos (by omega)]
    have : decide (32 ≤ i) = false := decide_eq_false (by omega)
    rw [this]
    rfl
  · rw [b255 hi h, Bool.and_false, Bool.and_false]
theorem nar_b (x : Int32) : vp_nar .byte x = x.toInt8.toInt32 := rfl
theorem bM_n (w sh : Int32) : vp_nar .byte (bM w sh) &&& 255 = (w >>> (sh &&& 31)) &&& 255 := by
  unfold bM
  rw [nar_b, nar_b, t8, t8, t8]
theorem bM_24 (w : Int32) : vp_nar .byte (bM w 24) &&& 255 = bC w 24 := by
  rw [bM_n]
  exact Int32.toBitVec_inj.mp (shr_bits w.toBitVec 24 (by decide))
theorem bM_16 (w : Int32) : vp_nar .byte (bM w 16) &&& 255 = bC w 16 := by
  rw [bM_n]
  exact Int32.toBitVec_inj.mp (shr_bits w.toBitVec 16 (by decide))
theorem bM_8 (w : Int32) : vp_nar .byte (bM w 8) &&& 255 = bC w 8 := by
  rw [bM_n]
  exact Int32.toBitVec_inj.mp (shr_bits w.toBitVec 8 (by decide))
theorem bM_0 (w : Int32) : vp_nar .byte (bM w 0) &&& 255 = bC w 0 := by
  rw [bM_n]
  exact Int32.toBitVec_inj.mp (shr_bits w.toBitVec 0 (by decide))
def by4 (w : Int32) (k : Nat) : Nat := (bC w (nI (24 - 8 * k))).toBitVec.toNat
theorem by4_le {w : Int32} {k : Nat} : by4 w k ≤ 255 := and255 _
theorem by4_e {w : Int32} {k : Nat} : bC w (nI (24 - 8 * k)) = nI (by4 w k) := bv_nI _
def b4 (w : Int32) (t : Nat) (b : Nat → Nat) (j : Nat) : Nat := if j < t then b j else by4 w (j - t)
/-- the model's tape -/
def Tq (b : Nat → Nat) (n : Nat) (M : gM) : Prop := M 401 2 = nI n ∧ ∀ j, j < n → (vp_nar .byte (M 402 j)) &&& 255 = nI (b j)
theorem Tp.w {b : Nat → Nat} {t : Nat} {M : gM} (w : Int32) (h : Tp b t M) (ht : t + 4 ≤ 2000) : Tp (b4 w t b) (t + 4) (tw4 w t M) := by
  refine ⟨tw4_1, ht, fun j hj => ?_⟩
  unfold b4
  by_cases h1 : j < t
  · rw [if_pos h1, tw4_o (by omega) (by omega)]
    exact h.2.2 j h1
  · rw [if_neg h1]
    obtain ⟨e0, e1, e2, e3⟩ := tw4_b (w := w) (t := t) (M := M)
    refine ⟨?_, by4_le⟩
    rcases (show j = t ∨ j = t + 1 ∨ j = t + 2 ∨ j = t + 3 by omega) with q | q | q | q
    · rw [q, e0, Nat.sub_self]; exact by4_e (k := 0)
    · rw [q, e1, show t + 1 - t = 1 by omega]; exact by4_e (k := 1)
    · rw [q, e2, show t + 2 - t = 2 by omega]; exact by4_e (k := 2)
    · rw [q, e3, show t + 3 - t = 3 by omega]; exact by4_e (k := 3)
theorem Tq.w {b : Nat → Nat} {t : Nat} {M : gM} (w : Int32) (h : Tq b t M) : Tq (b4 w t b) (t + 4) (mp4 w t M) := by
  refine ⟨mp4_1, fun j hj => ?_⟩
  unfold b4
  by_cases h1 : j < t
  · rw [if_pos h1, mp4_o (by omega) (by omega)]
    exact h.2 j h1
  · rw [if_neg h1]
    obtain ⟨e0, e1, e2, e3⟩ := mp4_b (w := w) (t := t) (M := M)
    rcases (show j = t ∨ j = t + 1 ∨ j = t + 2 ∨ j = t + 3 by omega) with q | q | q | q
    · rw [q, e0, Nat.sub_self, bM_24]; exact by4_e (k := 0)
    · rw [q, e1, show t + 1 - t = 1 by omega, bM_16]; exact by4_e (k := 1)
    · rw [q, e2, show t + 2 - t = 2 by omega, bM_8]; exact by4_e (k := 2)
    · rw [q, e3, show t + 3 - t = 3 by omega, bM_0]; exact by4_e (k := 3)
theorem Tp.keep {b : Nat → Nat} {n : Nat} {M M' : gM} (h : Tp b n M) (h1 : M' 1 1 = M 1 1) (h2 : ∀ j, M' 2 j = M 2 j) : Tp b n M' := ⟨h1.trans h.1, h.2.1, fun j hj => by rw [h2]; exact h.2.2 j hj⟩
theorem Tq.keep {b : Nat → Nat} {n : Nat} {M M' : gM} (h : Tq b n M) (h1 : M' 401 2 = M 401 2) (h2 : ∀ j, M' 402 j = M 402 j) : Tq b n M' := ⟨h1.trans h.1, fun j hj => by rw [h2]; exact h.2 j hj⟩
/-- the data of the land that is told -/
def Dl (ld lv : Nat) (M : gM) : Prop := ∃ nf nd ng ne c i, Cnts ld lv nf nd ng ne M M ∧ Dat ld lv nf nd ng ne M M ∧ Lws ld lv c i M M ∧ c ≤ 420 * lv + 400 ∧ i ≤ 130 * lv + 100
/-- what is told -/
def Td (M : gM) : Prop := ∃ k, k ≤ 20 ∧ M 383 3 = nI k ∧ M 401 64 = nI k ∧ ∀ i, i < k → ∃ f h w, f ≤ 2 ∧ h ≤ 9 ∧ w ≤ 99 ∧ M 384 i = nI f ∧ M 441 i = nI f ∧ M 385 i = nI h ∧ M 442 i = nI h ∧ M 386 i = nI w ∧ M 443 i = nI w
/-- which slots hold something -/
def Sl (M : gM) : Prop := ∃ q : Nat, q < 8 ∧ M 360 1 = nI q ∧ ∀ s, s < 3 → M 445 s = if q.testBit s then 1 else 0
def Gr (ld : Nat) (M : gM) (L : gL) : Prop := isLa ld ∧ Wdc L ∧ Wdm L ∧ Inv M ∧ (∃ lv, lv ≤ 1 ∧ M 401 18 = nI lv ∧ Dl ld lv M) ∧ M 0 11 = M 401 17 ∧ Td M ∧ Sl M
def G0 (ld : Nat) (M : gM) (L : gL) : Prop := (∃ b n, Tp b n M ∧ Tq b n M) ∧ Gr ld M L
def gl (c j : Nat) : Bool := (c == 0 && j == 11) || (decide (12 ≤ c) && decide (c < 64) && !scrL.contains c) || c == 360 || (c == 383 && j == 3) || (decide (384 ≤ c) && decide (c ≤ 386)) || (c == 401 && (j == 17 || j == 18 || j == 64)) || (decide (411 ≤ c) && decide (c ≤ 432)) || (decide (441 ≤ c) && decide (c ≤ 443)) || c == 445
def gt (c j : Nat) : Bool := (c == 1 && j == 1) || c == 2 || (c == 401 && j == 2) || c == 402
theorem segOk.keep2 {M M' : gM} {a b : Nat} (e1 : ∀ j, M' 431 j = M 431 j) (e2 : ∀ j, M' 432 j = M 432 j) (g : segOk M a b) : segOk M' a b := by
  unfold segOk at g ⊢
  rw [vdp_keep e1]
  simp only [e1, e2]
  exact g
theorem lawOk.keep2 {M M' : gM} {k : Nat} (e : ∀ c j, 424 ≤ c → c ≤ 432 → M' c j = M c j) (g : lawOk M k) : lawOk M' k := by
  unfold lawOk at g ⊢
  have e1 : ∀ j, M' 431 j = M 431 j := fun j => e 431 j (by decide) (by decide)
  have e2 : ∀ j, M' 432 j = M 432 j := fun j => e 432 j (by decide) (by decide)
  rw [e 424 _ (by decide) (by decide), e 425 _ (by decide) (by decide)]
  refine ⟨g.1, g.2.1, fun b h1 h2 => ?_⟩
  have g3 := g.2.2 b h1 h2
  rw [e 427 _ (by decide) (by decide), e 429 _ (by decide) (by decide), e 426 _ (by decide) (by decide), e 428 _ (by decide) (by decide), e 430 _ (by decide) (by decide)]
  exact ⟨g3.1, g3.2.1, fun hb => ⟨(g3.2.2.1 hb).1, (g3.2.2.1 hb).2.1.keep2 e1 e2, (g3.2.2.1 hb).2.2.keep2 e1 e2⟩, g3.2.2.2.1, g3.2.2.2.2.keep2 e1 e2⟩
theorem Inv.keep2 {M M' : gM} (e18 : M' 401 18 = M 401 18) (e64 : M' 401 64 = M 401 64) (e : ∀ c j, 411 ≤ c → c ≤ 432 → M' c j = M c j) (e441 : ∀ i, M' 441 i = M 441 i) (h57 : 0 ≤ (M' 401 57).toInt ∧ (M' 401 57).toInt ≤ 40) (g : Inv M) : Inv M' := by
  unfold Inv at g ⊢
  have e411 : ∀ i, M' 411 i = M 411 i := fun i => e 411 i (by decide) (by decide)
  have e415 : ∀ i, M' 415 i = M 415 i := fun i => e 415 i (by decide) (by decide)
  have e418 : ∀ i, M' 418 i = M 418 i := fun i => e 418 i (by decide) (by decide)
  have e420 : ∀ i, M' 420 i = M 420 i := fun i => e 420 i (by decide) (by decide)
  have e421 : ∀ i, M' 421 i = M 421 i := fun i => e 421 i (by decide) (by decide)
  simp only [e18, e411, e415, e418, e420, e421, e441, e64]
  obtain ⟨g1, g2, g3, g4, g5, g6, g7, g8, g9, g10, g11⟩ := g
  exact ⟨g1, g2, g3, g4, g5, h57, g7, g8, g9, g10, fun k hk => (g11 k hk).keep2 (fun c j a b => e c j (by omega) b)⟩
theorem La_cases {ld : Nat} (h : isLa ld) : ld = 12 ∨ ld = 38 := (by decide +kernel : ∀ x ∈ lLa, x = 12 ∨ x = 38) ld h
theorem gl_La {ld x j : Nat} (h : isLa ld) (hx : x < 23) (hx2 : x ≤ 10 ∨ x = 13 ∨ x = 14 ∨ x = 17 ∨ x = 18 ∨ x = 21 ∨ x = 22) : gl (ld + x) j = true := by
  have := (by decide +kernel : ∀ ld ∈ lLa, ∀ x, x < 23 → (x ≤ 10 ∨ x = 13 ∨ x = 14 ∨ x = 17 ∨ x = 18 ∨ x = 21 ∨ x = 22) → (decide (12 ≤ ld + x) && decide (ld + x < 64) && !scrL.contains (ld + x)) = true) ld h x hx hx2
  unfold gl
  rw [this]
  simp
theorem gl_Lc {ld c j : Nat} (h : isLa ld) (h1 : ld ≤ c) (h2 : c ≤ ld + 10) : gl c j = true := by
  rw [show c = ld + (c - ld) by omega]
  exact gl_La h (by omega) (Or.inl (by omega))
theorem gl_Lw {ld w j : Nat} (h : isLa ld) (hw : w < 4) : gl (ld + 9 + 4 * w) j = true ∧ gl (ld + 9 + 4 * w + 1) j = true := by
  rw [show ld + 9 + 4 * w = ld + (9 + 4 * w) by omega, show ld + (9 + 4 * w) + 1 = ld + (10 + 4 * w) by omega]
  exact ⟨gl_La h (by omega) (by omega), gl_La h (by omega) (by omega)⟩
theorem gl_M {c j : Nat} (h : 411 ≤ c) (h2 : c ≤ 432) : gl c j = true := by simp [gl, h, h2]
/-- the model's cells of a side -/
def sideC (lv c j : Nat) : Prop := ((c = 411 ∨ c = 415 ∨ c = 418 ∨ c = 420 ∨ c = 423) ∧ j = lv) ∨ ((c = 412 ∨ c = 413 ∨ c = 421 ∨ c = 422) ∧ 6 * lv ≤ j ∧ j < 6 * lv + 6) ∨ (c = 414 ∧ 18 * lv ≤ j ∧ j < 18 * lv + 18) ∨ (c = 416 ∧ 5 * lv ≤ j ∧ j < 5 * lv + 5) ∨ (c = 417 ∧ 30 * lv ≤ j ∧ j < 30 * lv + 30) ∨ ((c = 419 ∨ c = 424 ∨ c = 425) ∧ 4 * lv ≤ j ∧ j < 4 * lv + 4) ∨ ((426 ≤ c ∧ c ≤ 430) ∧ 130 * lv ≤ j ∧ j < 130 * lv + 130) ∨ ((c = 431 ∨ c = 432) ∧ 420 * lv ≤ j ∧ j < 420 * lv + 420)
theorem Dl.keepR {ld lv : Nat} {M M' : gM} (h : Dl ld lv M) (eL : ∀ c j, ld ≤ c → c ≤ ld + 10 → M' c j = M c j) (eW : ∀ w, w < 4 → ∀ j, M' (ld + 9 + 4 * w) j = M (ld + 9 + 4 * w) j ∧ M' (ld + 9 + 4 * w + 1) j = M (ld + 9 + 4 * w + 1) j) (eM : ∀ c j, sideC lv c j → M' c j = M c j) : Dl ld lv M' := by
  obtain ⟨nf, nd, ng, ne, c, i, h1, ⟨d1, d2, d3, d4, d5⟩, h3, h4, h5⟩ := h
  obtain ⟨⟨f1, f2, f3⟩, ⟨s1, s2, s3⟩, ⟨g1, g2, g3⟩, ⟨e1, e2, e3⟩⟩ := id h1
  refine ⟨nf, nd, ng, ne, c, i, ?_, ⟨fun k hk => ?_, ⟨fun k hk => ?_, fun j hj hj2 => ?_⟩, fun k hk => ?_, fun k hk => ?_, ?_⟩, fun w hw => ?_, h4, h5⟩
  · unfold Cnts at h1 ⊢
    rw [eL ld 0 (by omega) (by omega), eL ld 1 (by omega) (by omega), eL ld 2 (by omega) (by omega), eL ld 3 (by omega) (by omega), eM 411 _ (by unfold sideC; omega), eM 415 _ (by unfold sideC; omega), eM 418 _ (by unfold sideC; omega), eM 420 _ (by unfold sideC; omega)]
    exact h1
  · rw [eL (ld + 1) k (by omega) (by omega), eL (ld + 2) k (by omega) (by omega), eM 412 _ (by unfold sideC; omega), eM 413 _ (by unfold sideC; omega)]
    refine ⟨(d1 k hk).1, (d1 k hk).2.1, fun j hj => ?_⟩
    rw [eL _ _ (by omega) (by omega), eM 414 _ (by unfold sideC; omega)]
    exact (d1 k hk).2.2 j hj
  · obtain ⟨a1, A, a2, a3, a4⟩ := d2.1 k hk
    rw [eL _ _ (by omega) (by omega), eM 416 _ (by unfold sideC; omega)]
    refine ⟨a1, A, fun f hf => ?_, a3, a4⟩
    rw [eL _ _ (by omega) (by omega), eM 417 _ (by unfold sideC; omega)]
    exact a2 f hf
  · rw [eL _ _ (by omega) (by omega)]
    exact d2.2 j hj hj2
  · rw [eL _ _ (by omega) (by omega), eM 419 _ (by unfold sideC; omega)]
    exact d3 k hk
  · rw [eL (ld + 7) k (by omega) (by omega), eL (ld + 8) k (by omega) (by omega), eM 421 _ (by unfold sideC; omega), eM 422 _ (by unfold sideC; omega)]
    exact d4 k hk
  · exact d5.keep (eL _ _ (by omega) (by omega)) (eM _ _ (by unfold sideC; omega))
  · rcases h3 w hw with ⟨a1, a2, a3⟩ | h
    · exact Or.inl ⟨by rw [(eW w hw 1).1]; exact a1, by rw [eM 424 _ (by unfold sideC; omega)]; exact a2, by rw [eM 425 _ (by unfold sideC; omega)]; exact a3⟩
    · exact Or.inr (h.keep (Nat.le_refl _) (Nat.le_refl _) (eW w hw 1).1 (fun j => (eW w hw j).2) (fun j x y => ⟨eM 431 _ (by unfold sideC; omega), eM 432 _ (by unfold sideC; omega)⟩) (fun cc j x y z1 z2 => eM _ _ (by unfold sideC; omega)) (eM 424 _ (by unfold sideC; omega)) (eM 425 _ (by unfold sideC; omega)))
theorem sideC_r {lv c j : Nat} (h : sideC lv c j) : 411 ≤ c ∧ c ≤ 432 := by unfold sideC at h; omega
theorem Dl.keep {ld lv : Nat} {M M' : gM} (hld : isLa ld) (h : Dl ld lv M) (e : ∀ c j, gl c j = true → M' c j = M c j) : Dl ld lv M' :=
  h.keepR (fun c j a b => e c j (gl_Lc hld a b)) (fun w hw j => ⟨e _ _ (gl_Lw hld hw).1, e _ _ (gl_Lw hld hw).2⟩) (fun c j q => e c j (gl_M (sideC_r q).1 (sideC_r q).2))
theorem nI_tn {c : Nat} (h : c < 2 ^ 31) : (nI c).toInt.toNat = c := by rw [nI_toInt h]; rfl
theorem Cd.ok {c k v : Int32} (h : Cd c k v) : (0 ≤ k.toInt ∧ k.toInt ≤ 5) ∧ (k.toInt = 1 → 0 ≤ v.toInt ∧ v.toInt < 9) := by
  rcases h with ⟨x, hx, rfl, rfl, _⟩ | ⟨x, hx, rfl, rfl, _⟩ | ⟨rfl, _⟩ | ⟨rfl, _⟩ | ⟨rfl, _⟩ | ⟨rfl, _⟩
  · exact ⟨by decide, fun q => absurd q (by decide)⟩
  · have e : (nI x).toInt = (x : Int) := nI_toInt (by omega)
    exact ⟨by decide, fun _ => by omega⟩
  all_goals exact ⟨by decide, fun q => absurd q (by decide)⟩
theorem Sg.ok {W q c l : Nat} {M N : gM} (h : Sg W q c l M N) (h1 : l ≤ 400) (h2 : c + l ≤ 840) : segOk N (nI c).toInt.toNat (nI (c + l)).toInt.toNat := by
  rw [nI_tn (by omega), nI_tn (by omega)]
  obtain ⟨a1, a2, a3, a4⟩ := h
  refine ⟨by omega, h2, by omega, by rw [show c + l - c = l by omega]; exact a3, fun j hj hj2 => ?_⟩
  have := (a2 (j - c) (by omega)).ok
  rw [show c + (j - c) = j by omega] at this
  exact this
theorem LawR.ok {W sd w c i : Nat} {M N : gM} (h : LawR W sd w c i M N) (hc : c ≤ 840) (hi : i ≤ 260) : lawOk N (4 * sd + w) := by
  obtain ⟨fi, k, len, Q, a1, a2, a3, a4, b4, a5, a6, a7, a8, a9⟩ := h
  unfold lawOk
  rw [a1, a2, nI_toInt (by omega), nI_toInt (by omega)]
  refine ⟨by omega, by omega, fun b h1 h2 => ?_⟩
  by_cases hb : b = fi + k
  · obtain ⟨c1, l, x1, x2, x3, x4, x5, x6, x7⟩ := a7
    rw [hb, x1, x2, x3]
    have y := x4.ok (by omega) (by omega)
    exact ⟨fun q => absurd rfl q, by rw [nI_toInt (by omega)]; omega, fun q => absurd rfl q, by rw [nI_toInt (by omega)]; omega, y⟩
  · obtain ⟨j, rfl⟩ : ∃ j, b = fi + j := ⟨b - fi, by omega⟩
    obtain ⟨⟨c1, l1, l2, l3, x1, x2, x3, x4, x5, x6, x7, x8, x9, x10, x11, x12, x13, x14⟩, y1⟩ := a6 j (by omega)
    rw [x2, x3, x4, x5]
    have z1 := x6.ok (by omega) (by omega)
    have z2 := x7.ok (by omega) (by omega)
    have z3 := x10.ok (by omega) (by omega)
    exact ⟨fun _ => by rw [nI_toInt (by omega)]; omega, by rw [nI_toInt (by omega)]; omega, fun _ => ⟨by rw [nI_toInt (by omega)]; omega, z1, z2⟩, by rw [nI_toInt (by omega)]; omega, z3⟩
theorem Td.keep2 {M M' : gM} (h : Td M) (e1 : M' 383 3 = M 383 3) (e2 : M' 401 64 = M 401 64) (e : ∀ c j, (384 ≤ c ∧ c ≤ 386) ∨ (441 ≤ c ∧ c ≤ 443) → M' c j = M c j) : Td M' := by
  obtain ⟨k, h1, h2, h3, h4⟩ := h
  refine ⟨k, h1, e1.trans h2, e2.trans h3, fun i hi => ?_⟩
  rw [e 384 i (by omega), e 385 i (by omega), e 386 i (by omega), e 441 i (by omega), e 442 i (by omega), e 443 i (by omega)]
  exact h4 i hi
theorem Td.keep {M M' : gM} (h : Td M) (e : ∀ c j, gl c j = true → M' c j = M c j) : Td M' := h.keep2 (e 383 3 rfl) (e 401 64 rfl) (fun c j q => e c j (by
  rcases q with q | q
  · simp [gl, q.1, q.2]
  · simp [gl, q.1, q.2]))
theorem Sl.keep2 {M M' : gM} (h : Sl M) (e1 : M' 360 1 = M 360 1) (e : ∀ j, M' 445 j = M 445 j) : Sl M' := by
  obtain ⟨q, h1, h2, h3⟩ := h
  exact ⟨q, h1, e1.trans h2, fun s hs => (e s).trans (h3 s hs)⟩
theorem Sl.keep {M M' : gM} (h : Sl M) (e : ∀ c j, gl c j = true → M' c j = M c j) : Sl M' := h.keep2 (e 360 1 rfl) (fun j => e 445 j rfl)
/-- the bounds of all counts -/
def Cb (M : gM) : Prop := (∀ i, 0 ≤ (M 411 i).toInt ∧ (M 411 i).toInt ≤ 6) ∧ (∀ i, 0 ≤ (M 415 i).toInt ∧ (M 415 i).toInt ≤ 5) ∧ (∀ i, 0 ≤ (M 418 i).toInt ∧ (M 418 i).toInt ≤ 4) ∧ (∀ i, 0 ≤ (M 420 i).toInt ∧ (M 420 i).toInt ≤ 6)
theorem Inv.cb {M : gM} (h : Inv M) : Cb M := ⟨h.foods, h.dishes, h.guests, h.deeds⟩
theorem Cb.upd {M M' : gM} {sd : Nat} (h : Cb M) (e : ∀ c j, (c = 411 ∨ c = 415 ∨ c = 418 ∨ c = 420) → j ≠ sd → M' c j = M c j) (hm : Mcnt sd M') : Cb M' := by
  obtain ⟨⟨k1, a1, a2⟩, ⟨k2, a3, a4⟩, ⟨k3, a5, a6⟩, ⟨k4, a7, a8⟩⟩ := hm
  refine ⟨fun i => ?_, fun i => ?_, fun i => ?_, fun i => ?_⟩ <;> by_cases q : i = sd
  · rw [q, a1, nI_toInt (by omega)]; omega
  · rw [e _ i (by omega) q]; exact h.1 i
  · rw [q, a3, nI_toInt (by omega)]; omega
  · rw [e _ i (by omega) q]; exact h.2.1 i
  · rw [q, a5, nI_toInt (by omega)]; omega
  · rw [e _ i (by omega) q]; exact h.2.2.1 i
  · rw [q, a7, nI_toInt (by omega)]; omega
  · rw [e _ i (by omega) q]; exact h.2.2.2 i
theorem Inv_of {ld lv : Nat} {M : gM} (hlv : lv ≤ 1) (h18 : M 401 18 = nI lv) (hD : Dl ld lv M) (hC : Cb M) (h57 : 0 ≤ (M 401 57).toInt ∧ (M 401 57).toInt ≤ 40) (hT : Td M) : Inv M := by
  obtain ⟨nf, nd, ng, ne, c, i, ⟨⟨f1, f2, f3⟩, ⟨s1, s2, s3⟩, ⟨g1, g2, g3⟩, ⟨e1, e2, e3⟩⟩, ⟨d1, d2, d3, d4, d5⟩, h3, h4, h5⟩ := hD
  obtain ⟨k, t1, t2, t3, t4⟩ := hT
  have hl : (M 401 18).toInt = (lv : Int) := by rw [h18]; exact nI_toInt (by omega)
  have hln : (M 401 18).toInt.toNat = lv := by rw [hl]; rfl
  have hk : (M 401 64).toInt = (k : Int) := by rw [t3]; exact nI_toInt (by omega)
  unfold Inv
  rw [hln, hl, hk, e2, s2, f2, nI_toInt (by omega), nI_toInt (by omega), nI_toInt (by omega)]
  refine ⟨by omega, hC.1, hC.2.1, hC.2.2.1, hC.2.2.2, h57, by omega, fun j hj => ?_, fun j x1 x2 => ?_, fun q => ?_, fun w hw => ?_⟩
  · obtain ⟨f, h, v, y1, y2, y3, y4, y5, _⟩ := t4 j (by omega)
    rw [y5, nI_toInt (by omega)]
    omega
  · obtain ⟨⟨x, y1, y2, y3⟩, _⟩ := d4 (j - 6 * lv) (by omega)
    rw [show 6 * lv + (j - 6 * lv) = j by omega] at y3
    rw [y3, nI_toInt (by omega)]
    omega
  · obtain ⟨a1, A, a2, a3, a4⟩ := d2.1 0 (by omega)
    have w0 := (a2 0 (by decide)).2.2
    have w1 := (a2 1 (by decide)).2.2
    have w2 := (a2 2 (by decide)).2.2
    have w3 := (a2 3 (by decide)).2.2
    have w4 := (a2 4 (by decide)).2.2
    have w5 := (a2 5 (by decide)).2.2
    omega
  · rw [show (4 * (lv : Int)).toNat + w = 4 * lv + w by omega]
    rcases h3 w hw with ⟨x1, x2, x3⟩ | h
    · unfold lawOk
      rw [x2, x3]
      exact ⟨by decide, by decide, fun b y1 y2 => absurd (Int.lt_of_le_of_lt y1 y2) (Int.lt_irrefl _)⟩
    · exact h.ok (by omega) (by omega)
theorem Gr.keep {ld : Nat} {M M' : gM} {L : gL} (h : Gr ld M L) (e : ∀ c j, gl c j = true → M' c j = M c j) (h57 : 0 ≤ (M' 401 57).toInt ∧ (M' 401 57).toInt ≤ 40) : Gr ld M' L := by
  obtain ⟨h1, h2, h3, h4, ⟨lv, h5, h6, h7⟩, h8, h9, h10⟩ := h
  exact ⟨h1, h2, h3, h4.keep2 (e 401 18 rfl) (e 401 64 rfl) (fun c j a b => e c j (gl_M a b)) (fun i => e 441 i rfl) h57, ⟨lv, h5, (e 401 18 rfl).trans h6, h7.keep h1 e⟩, by rw [e 0 11 rfl, e 401 17 rfl]; exact h8, h9.keep e, h10.keep e⟩
theorem G0.keep {ld : Nat} {M M' : gM} {L : gL} (h : G0 ld M L) (e : ∀ c j, (gl c j || gt c j) = true → M' c j = M c j) (h57 : 0 ≤ (M' 401 57).toInt ∧ (M' 401 57).toInt ≤ 40) : G0 ld M' L := by
  obtain ⟨⟨b, n, h1, h2⟩, h3⟩ := h
  exact ⟨⟨b, n, h1.keep (e 1 1 rfl) (fun j => e 2 j rfl), h2.keep (e 401 2 rfl) (fun j => e 402 j rfl)⟩, h3.keep (fun c j q => e c j (by rw [q]; rfl)) h57⟩
theorem gl_num {c j : Nat} (h : (gl c j || gt c j) = true) : scrL.contains c = false ∧ ((c ≤ 2) ∨ (12 ≤ c ∧ c < 64) ∨ c = 360 ∨ (c = 383 ∧ j = 3) ∨ (384 ≤ c ∧ c ≤ 386) ∨ (c = 401 ∧ (j = 2 ∨ j = 17 ∨ j = 18 ∨ j = 64)) ∨ c = 402 ∨ (411 ≤ c ∧ c ≤ 432) ∨ (441 ≤ c ∧ c ≤ 443) ∨ c = 445) := by
  simp only [gl, gt, Bool.or_eq_true, Bool.and_eq_true, beq_iff_eq, decide_eq_true_eq, Bool.not_eq_true'] at h
  by_cases q : 12 ≤ c ∧ c < 64 ∧ scrL.contains c = false
  · exact ⟨q.2.2, by omega⟩
  · have h3 : (c ≤ 2) ∨ c = 360 ∨ (c = 383 ∧ j = 3) ∨ (384 ≤ c ∧ c ≤ 386) ∨ (c = 401 ∧ (j = 2 ∨ j = 17 ∨ j = 18 ∨ j = 64)) ∨ c = 402 ∨ (411 ≤ c ∧ c ≤ 432) ∨ (441 ≤ c ∧ c ≤ 443) ∨ c = 445 := by
      rcases h with (((((((((h | h) | h) | h) | h) | h) | h) | h) | h)) | h
      · omega
      · exact absurd ⟨h.1.1, h.1.2, h.2⟩ q
      all_goals omega
    refine ⟨?_, by omega⟩
    have := (by decide +kernel : ∀ x ∈ scrL, ¬ ((x ≤ 2) ∨ x = 360 ∨ x = 383 ∨ (384 ≤ x ∧ x ≤ 386) ∨ x = 401 ∨ x = 402 ∨ (411 ≤ x ∧ x ≤ 432) ∨ (441 ≤ x ∧ x ≤ 443) ∨ x = 445)) c
    cases e : scrL.contains c with
    | false => rfl
    | true => exact absurd (by omega) (this (by simpa using e))
theorem gl_C1 {c j : Nat} (h : (gl c j || gt c j) = true) : C1 c j = false := by
  obtain ⟨h1, h2⟩ := gl_num h
  unfold C1 C0
  rw [h1]
  simp only [Bool.false_and, Bool.false_or, Bool.or_eq_false_iff, Bool.and_eq_false_iff, beq_eq_false_iff_ne, decide_eq_false_iff_not, Bool.not_eq_false', beq_iff_eq]
  omega
theorem gl_C0 {c j : Nat} (h : (gl c j || gt c j) = true) : C0 c j = false := C0_f (gl_num h).1
theorem gl_MS1 {c j : Nat} (h : (gl c j || gt c j) = true) : MS1 c j = false := by
  obtain ⟨h1, h2⟩ := gl_num h
  simp only [MS1, MS0, Bool.or_eq_false_iff, Bool.and_eq_false_iff, beq_eq_false_iff_ne]
  omega
theorem gl_MS0 {c j : Nat} (h : (gl c j || gt c j) = true) : MS0 c j = false := by
  cases e : MS0 c j with
  | false => rfl
  | true => have := gl_MS1 h; rw [MS0_MS1 c j e] at this; cases this
theorem G0.inv {ld : Nat} {M : gM} {L : gL} (h : G0 ld M L) : Inv M := h.2.2.2.2.1
theorem G0.la {ld : Nat} {M : gM} {L : gL} (h : G0 ld M L) : isLa ld := h.2.1
theorem G0.kC1 {ld : Nat} {M M' : gM} {L : gL} (h : G0 ld M L) (k : Kl C1 M zL M' zL) : G0 ld M' L := h.keep (fun c j q => k.m (gl_C1 q)) (by rw [k.m (show C1 401 57 = false from rfl)]; exact h.inv.undos)
theorem G0.kC0 {ld : Nat} {M M' : gM} {L : gL} (h : G0 ld M L) (k : Kl C0 M zL M' zL) : G0 ld M' L := h.kC1 (k.mono C0_C1)
theorem G0.kM1 {ld : Nat} {M M' : gM} {L : gL} (h : G0 ld M L) (k : Kl MS1 M zL M' zL) : G0 ld M' L := h.keep (fun c j q => k.m (gl_MS1 q)) (by rw [k.m (show MS1 401 57 = false from rfl)]; exact h.inv.undos)
theorem G0.kM0 {ld : Nat} {M M' : gM} {L : gL} (h : G0 ld M L) (k : Kl MS0 M zL M' zL) : G0 ld M' L := h.kM1 (k.mono MS0_MS1)
theorem one_in_eq (p : Int32) {n : Nat} (hn : n < 2 ^ 30) : F_Mod_in p 0 (nI n - 1) = F_Main_isOne p (nI n) := by
  unfold F_Mod_in F_Main_isOne
  have e : (nI n - 1).toInt = (n : Int) - 1 := i_subE (nI_toInt (by omega)) (by decide) (by omega)
  have e2 : (nI n).toInt = (n : Int) := nI_toInt (by omega)
  by_cases h0 : p < 0
  · rw [if_pos h0, if_pos h0]
  · rw [if_neg h0, if_neg h0]
    by_cases h1 : nI n ≤ p
    · rw [if_pos h1, if_pos]
      rw [i_le] at h1; rw [i_lt]; omega
    · rw [if_neg h1, if_neg]
      rw [i_le] at h1; rw [i_lt]; omega
/-- of a number p: not one of n, or the k-th -/
theorem one_c2 (p : Int32) {n : Nat} (hn : n < 2 ^ 30) : (F_Main_isOne p (nI n) = some 0 ∧ F_Mod_in p 0 (nI n - 1) = some 0) ∨ ∃ k, k < n ∧ p = nI k ∧ F_Main_isOne p (nI n) = some 1 ∧ F_Mod_in p 0 (nI n - 1) = some 1 := by
  rw [one_in_eq p hn]
  rcases one_cases p (n := n) (by omega) with h | ⟨k, h1, h2, h3⟩
  · exact Or.inl ⟨h.1, h.1⟩
  · exact Or.inr ⟨k, h1, h2, h3, h3⟩
end PAR20
end MG13x0
section MG13x1
/-! the model's rows, exactly -/
section PAR21
theorem keeps_loop  : ∀ (d k f : Nat) (M : gM), k + d = 38 → H_Mod_keepsRow_2 (f + 1 + d) (nI k) M = some (fl M 436 (k) d (fun j => M 437 (k + j))) := by
  intro d
  induction d with
  | zero =>
    intro k f M h
    show B_Mod_keepsRow_2 _ (nI k) M = _
    unfold B_Mod_keepsRow_2
    rw [show (38 : Int32) = nI 38 from rfl, if_pos (by rw [nI_leI (by omega) (by omega)]; omega), fl_0]
  | succ d ih =>
    intro k f M h
    show B_Mod_keepsRow_2 (H_Mod_keepsRow_2 (f + 1 + d)) (nI k) M = _
    unfold B_Mod_keepsRow_2
    rw [show (38 : Int32) = nI 38 from rfl, if_neg (by rw [nI_leI (by omega) (by omega)]; omega), if_neg (nI_in (by omega) (by omega)), if_neg (nI_in (by omega) (by omega)), nI_clamp (by omega), nmM_e, nmI_e, nI_1, ih (k + 1) f _ (by omega)]
    refine congrArg some ?_
    have e : (fun j => uM M 436 k (M 437 k) 437 ((k + 1) + j)) = fun j => (fun j => M 437 (k + j)) (j + 1) := by
      funext j
      rw [uM_diff (by omega)]
      show M 437 _ = M 437 _
      congr 1 <;> omega
    rw [e]
    exact fl_cons (v := fun j => M 437 (k + j)) rfl
theorem s_keepsRow {M : gM} : F_Mod_keepsRow M = some (fl M 436 0 38 (M 437)) := by
  unfold F_Mod_keepsRow
  obtain ⟨g, hg⟩ := FU_k (1 + 38) (by omega)
  rw [hg, ← Nat.add_assoc]
  refine (keeps_loop 38 0 _ M (by omega)).trans ?_
  simp only [Nat.zero_add]
theorem undo_loop {u : Nat} (hu : u < 40) : ∀ (d k f : Nat) (M : gM), M 401 57 = nI u → k + d = 38 → H_Mod_undo_21 (f + 1 + d) (nI k) M = (fun M => some (1, M)) (fl M 436 (k) d (fun j => M 440 (38 * u + k + j))) := by
  intro d
  induction d with
  | zero =>
    intro k f M hM h
    show B_Mod_undo_21 _ (nI k) M = _
    unfold B_Mod_undo_21
    rw [show (38 : Int32) = nI 38 from rfl, if_pos (by rw [nI_leI (by omega) (by omega)]; omega), fl_0]
  | succ d ih =>
    intro k f M hM h
    show B_Mod_undo_21 (H_Mod_undo_21 (f + 1 + d)) (nI k) M = _
    unfold B_Mod_undo_21
    rw [show (38 : Int32) = nI 38 from rfl, if_neg (by rw [nI_leI (by omega) (by omega)]; omega), hM, nI_mul, nI_add, if_neg (nI_in (by omega) (by omega)), if_neg (nI_in (by omega) (by omega)), nI_clamp (by omega), nI_clamp (by omega), nmM_e, nmI_e, nI_1, ih (k + 1) f _ ((uM_diff (by omega)).trans hM) (by omega)]
    refine congrArg (fun M => some (1, M)) ?_
    have e : (fun j => uM M 436 k (M 440 (38 * u + k)) 440 (38 * u + (k + 1) + j)) = fun j => (fun j => M 440 (38 * u + k + j)) (j + 1) := by
      funext j
      rw [uM_diff (by omega)]
      show M 440 _ = M 440 _
      congr 1 <;> omega
    rw [e]
    exact fl_cons (v := fun j => M 440 (38 * u + k + j)) rfl
theorem hold_loop {s : Nat} (hs : s < 3) : ∀ (d k f : Nat) (M : gM), k + d = 38 → H_Mod_hold_20 (nI s) (f + 1 + d) (nI k) M = (fun M => some (1, M)) (fl M 446 (38 * s + k) d (fun j => M 436 (k + j))) := by
  intro d
  induction d with
  | zero =>
    intro k f M h
    show B_Mod_hold_20 (nI s) _ (nI k) M = _
    unfold B_Mod_hold_20
    rw [show (38 : Int32) = nI 38 from rfl, if_pos (by rw [nI_leI (by omega) (by omega)]; omega), fl_0]
  | succ d ih =>
    intro k f M h
    show B_Mod_hold_20 (nI s) (H_Mod_hold_20 (nI s) (f + 1 + d)) (nI k) M = _
    unfold B_Mod_hold_20
    rw [show (38 : Int32) = nI 38 from rfl, if_neg (by rw [nI_leI (by omega) (by omega)]; omega), nI_mul, nI_add, if_neg (nI_in (by omega) (by omega)), if_neg (nI_in (by omega) (by omega)), nI_clamp (by omega), nI_clamp (by omega), nmM_e, nmI_e, nI_1, ih (k + 1) f _ (by omega)]
    refine congrArg (fun M => some (1, M)) ?_
    have e : (fun j => uM M 446 (38 * s + k) (M 436 k) 436 ((k + 1) + j)) = fun j => (fun j => M 436 (k + j)) (j + 1) := by
      funext j
      rw [uM_diff (by omega)]
      show M 436 _ = M 436 _
      congr 1 <;> omega
    rw [e, show 38 * s + (k + 1) = 38 * s + k + 1 by omega]
    exact fl_cons (v := fun j => M 436 (k + j)) rfl
theorem restore_loop {s : Nat} (hs : s < 3) : ∀ (d k f : Nat) (M : gM), k + d = 38 → H_Mod_restore_22 (nI s) (f + 1 + d) (nI k) M = J_Mod_restore_51 (fl M 436 (k) d (fun j => M 446 (38 * s + k + j))) := by
  intro d
  induction d with
  | zero =>
    intro k f M h
    show B_Mod_restore_22 (nI s) _ (nI k) M = _
    unfold B_Mod_restore_22
    rw [show (38 : Int32) = nI 38 from rfl, if_pos (by rw [nI_leI (by omega) (by omega)]; omega), fl_0]
  | succ d ih =>
    intro k f M h
    show B_Mod_restore_22 (nI s) (H_Mod_restore_22 (nI s) (f + 1 + d)) (nI k) M = _
    unfold B_Mod_restore_22
    rw [show (38 : Int32) = nI 38 from rfl, if_neg (by rw [nI_leI (by omega) (by omega)]; omega), nI_mul, nI_add, if_neg (nI_in (by omega) (by omega)), if_neg (nI_in (by omega) (by omega)), nI_clamp (by omega), nI_clamp (by omega), nmM_e, nmI_e, nI_1, ih (k + 1) f _ (by omega)]
    refine congrArg J_Mod_restore_51 ?_
    have e : (fun j => uM M 436 k (M 446 (38 * s + k)) 446 (38 * s + (k + 1) + j)) = fun j => (fun j => M 446 (38 * s + k + j)) (j + 1) := by
      funext j
      rw [uM_diff (by omega)]
      show M 446 _ = M 446 _
      congr 1 <;> omega
    rw [e]
    exact fl_cons (v := fun j => M 446 (38 * s + k + j)) rfl
theorem rec51_loop {u : Nat} (hu : u < 40) : ∀ (d k f : Nat) (M : gM), M 401 57 = nI u → k + d = 38 → H_Mod_records_51 (f + 1 + d) (nI k) M = J_Mod_records_83 (fl M 440 (38 * u + k) d (fun j => M 436 (k + j))) := by
  intro d
  induction d with
  | zero =>
    intro k f M hM h
    show B_Mod_records_51 _ (nI k) M = _
    unfold B_Mod_records_51
    rw [show (38 : Int32) = nI 38 from rfl, if_pos (by rw [nI_leI (by omega) (by omega)]; omega), fl_0]
  | succ d ih =>
    intro k f M hM h
    show B_Mod_records_51 (H_Mod_records_51 (f + 1 + d)) (nI k) M = _
    unfold B_Mod_records_51
    rw [show (38 : Int32) = nI 38 from rfl, if_neg (by rw [nI_leI (by omega) (by omega)]; omega), hM, nI_mul, nI_add, if_neg (nI_in (by omega) (by omega)), if_neg (nI_in (by omega) (by omega)), nI_clamp (by omega), nI_clamp (by omega), nmM_e, nmI_e, nI_1, ih (k + 1) f _ ((uM_diff (by omega)).trans hM) (by omega)]
    refine congrArg J_Mod_records_83 ?_
    have e : (fun j => uM M 440 (38 * u + k) (M 436 k) 436 ((k + 1) + j)) = fun j => (fun j => M 436 (k + j)) (j + 1) := by
      funext j
      rw [uM_diff (by omega)]
      show M 436 _ = M 436 _
      congr 1 <;> omega
    rw [e, show 38 * u + (k + 1) = 38 * u + k + 1 by omega]
    exact fl_cons (v := fun j => M 436 (k + j)) rfl
theorem rec11_loop : ∀ (d k f : Nat) (M : gM), k + d = 1482 → H_Mod_records_11 (f + 1 + d) (nI k) M = J_Mod_records_39 (fl M 440 k d (fun j => M 440 (k + j + 38))) := by
  intro d
  induction d with
  | zero =>
    intro k f M h
    show B_Mod_records_11 _ (nI k) M = _
    unfold B_Mod_records_11
    rw [show (1482 : Int32) = nI 1482 from rfl, if_pos (by rw [nI_leI (by omega) (by omega)]; omega), fl_0]
  | succ d ih =>
    intro k f M h
    show B_Mod_records_11 (H_Mod_records_11 (f + 1 + d)) (nI k) M = _
    unfold B_Mod_records_11
    rw [show (1482 : Int32) = nI 1482 from rfl, show (38 : Int32) = nI 38 from rfl, if_neg (by rw [nI_leI (by omega) (by omega)]; omega), nI_add, if_neg (nI_in (by omega) (by omega)), if_neg (nI_in (by omega) (by omega)), nI_clamp (by omega), nI_clamp (by omega), nmM_e, nmI_e, nI_1, ih (k + 1) f _ (by omega)]
    refine congrArg J_Mod_records_39 ?_
    have e : (fun j => uM M 440 k (M 440 (k + 38)) 440 (k + 1 + j + 38)) = fun j => (fun j => M 440 (k + j + 38)) (j + 1) := by
      funext j
      rw [uM_diff (by omega)]
      show M 440 _ = M 440 _
      congr 1 <;> omega
    rw [e]
    exact fl_cons (v := fun j => M 440 (k + j + 38)) rfl
theorem rec49 {v : Nat} {M : gM} (hv : v < 40) (hM : M 401 57 = nI v) : ∃ M', J_Mod_records_49 M = some M' ∧ M' 401 57 = nI (v + 1) ∧ (∀ k, k < 38 → M' 436 k = M 437 k) ∧ (∀ j, j < 38 * v → M' 440 j = M 440 j) ∧ (∀ k, k < 38 → M' 440 (38 * v + k) = M 436 k) ∧ Eo (fun c j => c = 436 ∨ c = 440 ∨ (c = 401 ∧ j = 57)) M M' := by
  unfold J_Mod_records_49
  obtain ⟨g, hg⟩ := FU_k (1 + 38) (by omega)
  rw [hg, ← Nat.add_assoc, show (0 : Int32) = nI 0 from rfl, rec51_loop hv 38 0 _ M hM (by omega)]
  unfold J_Mod_records_83
  rw [nmM_e, fl_out (by omega), hM, nI_1, s_keepsRow, bI_s]
  refine ⟨_, rfl, ?_, fun k hk => ?_, fun j hj => ?_, fun k hk => ?_, fun c j q => ?_⟩
  · rw [fl_out (by omega), uM_same]
  · rw [fl_in (by omega), uM_diff (by omega), fl_out (by omega), Nat.sub_zero]
  · rw [fl_out (by omega), uM_diff (by omega), fl_out (by omega)]
  · rw [fl_out (by omega), uM_diff (by omega), fl_in (by omega)]
    congr 1 <;> omega
  · rw [fl_out (by omega), uM_diff (by omega), fl_out (by omega)]
theorem s_records {u : Nat} {M : gM} (hu : u ≤ 40) (hM : M 401 57 = nI u) : ∃ M' v sh, F_Mod_records M = some M' ∧ ((u < 40 ∧ v = u ∧ sh = 0) ∨ (u = 40 ∧ v = 39 ∧ sh = 38)) ∧ M' 401 57 = nI (v + 1) ∧ (∀ k, k < 38 → M' 436 k = M 437 k) ∧ (∀ j, j < 38 * v → M' 440 j = M 440 (j + sh)) ∧ (∀ k, k < 38 → M' 440 (38 * v + k) = M 436 k) ∧ Eo (fun c j => c = 436 ∨ c = 440 ∨ (c = 401 ∧ j = 57)) M M' := by
  unfold F_Mod_records
  rw [hM]
  by_cases h : u = 40
  · rw [if_pos (by rw [h]; rfl)]
    obtain ⟨g, hg⟩ := FU_k (1 + 1482) (by omega)
    rw [hg, ← Nat.add_assoc, show (0 : Int32) = nI 0 from rfl, rec11_loop 1482 0 _ M (by omega)]
    unfold J_Mod_records_39
    rw [nmM_e, fl_out (by omega), hM, show (1 : Int32) = nI 1 from rfl, nI_sub (by omega)]
    obtain ⟨M', e1, e2, e3, e4, e5, e6⟩ := rec49 (v := 39) (M := uM (fl M 440 0 1482 (fun j => M 440 (0 + j + 38))) 401 57 (nI (u - 1))) (by omega) (by rw [uM_same, h])
    refine ⟨M', 39, 38, e1, Or.inr ⟨h, rfl, rfl⟩, e2, fun k hk => ?_, fun j hj => ?_, fun k hk => ?_, fun c j q => ?_⟩
    · rw [e3 k hk, uM_diff (by omega), fl_out (by omega)]
    · rw [e4 j hj, uM_diff (by omega), fl_in (by omega)]
      congr 1 <;> omega
    · rw [e5 k hk, uM_diff (by omega), fl_out (by omega)]
    · rw [e6 c j q, uM_diff (by omega), fl_out (by omega)]
  · rw [if_neg (fun q => h ((nI_eq (by omega) (by decide)).mp (q.trans (show (40 : Int32) = nI 40 from rfl))))]
    obtain ⟨M', e1, e2, e3, e4, e5, e6⟩ := rec49 (v := u) (by omega) hM
    exact ⟨M', u, 0, e1, Or.inl ⟨by omega, rfl, rfl⟩, e2, e3, e4, e5, e6⟩
theorem s_undo {u : Nat} {M : gM} (hu : u < 40) (hM : M 401 57 = nI (u + 1)) : ∃ M', F_Mod_undo M = some (1, M') ∧ M' 401 57 = nI u ∧ (∀ k, k < 38 → M' 436 k = M 440 (38 * u + k)) ∧ Eo (fun c j => c = 436 ∨ (c = 401 ∧ j = 57)) M M' := by
  unfold F_Mod_undo
  obtain ⟨g, hg⟩ := FU_k (1 + 38) (by omega)
  rw [hM, if_neg (nI_ne0 (by omega) (by omega)), show (1 : Int32) = nI 1 from rfl, nI_sub (by omega), show u + 1 - 1 = u by omega, nmM_e, hg, ← Nat.add_assoc, show (0 : Int32) = nI 0 from rfl, undo_loop hu 38 0 _ _ uM_same (by omega)]
  refine ⟨_, rfl, ?_, fun k hk => ?_, fun c j q => ?_⟩
  · rw [fl_out (by omega), uM_same]
  · rw [fl_in (by omega), uM_diff (by omega)]
    congr 1 <;> omega
  · rw [fl_out (by omega), uM_diff (by omega)]
theorem s_hold {s : Nat} {M : gM} (hs : s < 3) : ∃ M', F_Mod_hold (nI s) M = some (1, M') ∧ M' 445 s = 1 ∧ (∀ k, k < 38 → M' 446 (38 * s + k) = M 436 k) ∧ Eo (fun c j => (c = 446 ∧ 38 * s ≤ j ∧ j < 38 * s + 38) ∨ (c = 445 ∧ j = s)) M M' := by
  unfold F_Mod_hold
  obtain ⟨g, hg⟩ := FU_k (1 + 38) (by omega)
  rw [in_in (nI_pos (by omega)) (by rw [show (2 : Int32) = nI 2 from rfl, nI_ltI (by omega) (by omega)]; omega), bI_s, if_neg (by decide), if_neg (nI_in (by omega) (by omega)), nmM_e, nI_clamp (by omega), hg, ← Nat.add_assoc, show (0 : Int32) = nI 0 from rfl, hold_loop hs 38 0 _ _ (by omega)]
  refine ⟨_, rfl, ?_, fun k hk => ?_, fun c j q => ?_⟩
  · rw [fl_out (by omega), uM_same]
    rfl
  · rw [fl_in (by omega), uM_diff (by omega)]
    congr 1 <;> omega
  · rw [fl_out (by omega), uM_diff (by omega)]
theorem s_restore {s : Nat} {M : gM} (hs : s < 3) (h : ¬ M 445 s = 0) : ∃ M', F_Mod_restore (nI s) M = some (1, M') ∧ M' 401 57 = 0 ∧ (∀ k, k < 38 → M' 436 k = M 446 (38 * s + k)) ∧ Eo (fun c j => c = 436 ∨ (c = 401 ∧ j = 57)) M M' := by
  unfold F_Mod_restore
  obtain ⟨g, hg⟩ := FU_k (1 + 38) (by omega)
  rw [in_in (nI_pos (by omega)) (by rw [show (2 : Int32) = nI 2 from rfl, nI_ltI (by omega) (by omega)]; omega), bI_s, if_neg (by decide), if_neg (nI_in (by omega) (by omega)), nI_clamp (by omega), if_neg h, hg, ← Nat.add_assoc, show (0 : Int32) = nI 0 from rfl, restore_loop hs 38 0 _ _ (by omega)]
  unfold J_Mod_restore_51
  refine ⟨_, rfl, uM_same, fun k hk => ?_, fun c j q => ?_⟩
  · rw [uM_diff (by omega), fl_in (by omega)]
    congr 1 <;> omega
  · rw [uM_diff (by omega), fl_out (by omega)]
theorem s_restore0 {s : Nat} {M : gM} (hs : s < 3) (h : M 445 s = 0) : F_Mod_restore (nI s) M = some (0, M) := by
  unfold F_Mod_restore
  rw [in_in (nI_pos (by omega)) (by rw [show (2 : Int32) = nI 2 from rfl, nI_ltI (by omega) (by omega)]; omega), bI_s, if_neg (by decide), if_neg (nI_in (by omega) (by omega)), nI_clamp (by omega), if_pos h]
theorem beg2_loop : ∀ (d k f : Nat) (M : gM), k + d = 38 → H_Mod_begins_2 (f + 1 + d) (nI k) M = J_Mod_begins_21 (fl M 437 k d (fun _ => 0)) := by
  intro d
  induction d with
  | zero =>
    intro k f M h
    show B_Mod_begins_2 _ (nI k) M = _
    unfold B_Mod_begins_2
    rw [show (38 : Int32) = nI 38 from rfl, if_pos (by rw [nI_leI (by omega) (by omega)]; omega), fl_0]
  | succ d ih =>
    intro k f M h
    show B_Mod_begins_2 (H_Mod_begins_2 (f + 1 + d)) (nI k) M = _
    unfold B_Mod_begins_2
    rw [show (38 : Int32) = nI 38 from rfl, if_neg (by rw [nI_leI (by omega) (by omega)]; omega), if_neg (nI_in (by omega) (by omega)), nI_clamp (by omega), nmM_e, nmI_e, nI_1, ih (k + 1) f _ (by omega)]
    exact congrArg J_Mod_begins_21 (fl_cons (v := fun _ => 0) rfl)
theorem beg23_loop {lv nf : Nat} (hl : lv < 2) (hf : nf ≤ 6) : ∀ (d k f : Nat) (M : gM), M 401 18 = nI lv → M 411 lv = nI nf → k + d = nf → H_Mod_begins_23 (f + 1 + d) (nI k) M = J_Mod_begins_62 (fl M 437 k d (fun j => M 412 (6 * lv + (k + j)))) := by
  intro d
  induction d with
  | zero =>
    intro k f M h1 h2 h
    show B_Mod_begins_23 _ (nI k) M = _
    unfold B_Mod_begins_23
    rw [h1, if_neg (nI_in (by omega) (by omega)), nI_clamp (by omega), h2, if_pos (by rw [nI_leI (by omega) (by omega)]; omega), fl_0]
  | succ d ih =>
    intro k f M h1 h2 h
    show B_Mod_begins_23 (H_Mod_begins_23 (f + 1 + d)) (nI k) M = _
    unfold B_Mod_begins_23
    rw [h1, if_neg (nI_in (by omega) (by omega)), nI_clamp (by omega), h2, if_neg (by rw [nI_leI (by omega) (by omega)]; omega), show (6 : Int32) = nI 6 from rfl, nI_mul, nI_add, if_neg (nI_in (by omega) (by omega)), if_neg (nI_in (by omega) (by omega)), nI_clamp (by omega), nI_clamp (by omega), nmM_e, nmI_e, nI_1, ih (k + 1) f _ (by rw [uM_diff (by omega)]; exact h1) (by rw [uM_diff (by omega)]; exact h2) (by omega)]
    refine congrArg J_Mod_begins_62 ?_
    have e : (fun j => uM M 437 k (M 412 (6 * lv + k)) 412 (6 * lv + (k + 1 + j))) = fun j => (fun j => M 412 (6 * lv + (k + j))) (j + 1) := by
      funext j
      rw [uM_diff (by omega)]
      show M 412 _ = M 412 _
      congr 1 <;> omega
    rw [e]
    exact fl_cons (v := fun j => M 412 (6 * lv + (k + j))) rfl
theorem beg73_loop : ∀ (d k f : Nat) (M : gM), k + d = 4 → H_Mod_begins_73 (f + 1 + d) (nI k) M = J_Mod_begins_95 (fl M 437 (15 + k) d (fun _ => (-2))) := by
  intro d
  induction d with
  | zero =>
    intro k f M h
    show B_Mod_begins_73 _ (nI k) M = _
    unfold B_Mod_begins_73
    rw [show (4 : Int32) = nI 4 from rfl, if_pos (by rw [nI_leI (by omega) (by omega)]; omega), fl_0]
  | succ d ih =>
    intro k f M h
    show B_Mod_begins_73 (H_Mod_begins_73 (f + 1 + d)) (nI k) M = _
    unfold B_Mod_begins_73
    rw [show (4 : Int32) = nI 4 from rfl, if_neg (by rw [nI_leI (by omega) (by omega)]; omega), show (15 : Int32) = nI 15 from rfl, nI_add, if_neg (nI_in (by omega) (by omega)), nI_clamp (by omega), nmM_e, nmI_e, nI_1, ih (k + 1) f _ (by omega), show 15 + (k + 1) = 15 + k + 1 by omega]
    exact congrArg J_Mod_begins_95 (fl_cons (v := fun _ => (-2)) rfl)
theorem s_begins {lv nf : Nat} {M : gM} (hl : lv < 2) (hf : nf ≤ 6) (h1 : M 401 18 = nI lv) (h2 : M 411 lv = nI nf) : ∃ M', F_Mod_begins M = some M' ∧ (∀ k, k < 38 → M' 437 k = if k < nf then M 412 (6 * lv + k) else if k = 11 ∨ (15 ≤ k ∧ k < 19) then -2 else 0) ∧ M' 401 54 = M 423 lv ∧ Eo (fun c j => c = 437 ∨ (c = 401 ∧ j = 54)) M M' := by
  unfold F_Mod_begins
  obtain ⟨g, hg⟩ := FU_k (1 + 38) (by omega)
  obtain ⟨g2, hg2⟩ := FU_k (1 + nf) (by omega)
  obtain ⟨g3, hg3⟩ := FU_k (1 + 4) (by omega)
  rw [hg, ← Nat.add_assoc, show (0 : Int32) = nI 0 from rfl, beg2_loop 38 0 _ _ (by omega)]
  unfold J_Mod_begins_21
  rw [hg2, ← Nat.add_assoc, show (0 : Int32) = nI 0 from rfl, beg23_loop hl hf nf 0 _ _ (by rw [fl_out (by omega)]; exact h1) (by rw [fl_out (by omega)]; exact h2) (by omega)]
  unfold J_Mod_begins_62
  rw [nmM_e, hg3, ← Nat.add_assoc, show (0 : Int32) = nI 0 from rfl, beg73_loop 4 0 _ _ (by omega)]
  unfold J_Mod_begins_95
  rw [fl_out (by omega), uM_diff (by omega), fl_out (by omega), fl_out (by omega), h1, if_neg (nI_in (by omega) (by omega)), nI_clamp (by omega), nmM_e]
  refine ⟨_, rfl, fun k hk => ?_, ?_, fun c j q => ?_⟩
  · rw [uM_diff (by omega)]
    by_cases a : 15 ≤ k ∧ k < 19
    · rw [fl_in (by omega), if_neg (by omega), if_pos (Or.inr a)]
    · rw [fl_out (by omega)]
      by_cases a2 : k = 11
      · rw [a2, uM_same, if_neg (by omega), if_pos (Or.inl rfl)]
      · rw [uM_diff (by omega)]
        by_cases a3 : k < nf
        · rw [fl_in (by omega), fl_out (by omega), if_pos a3]
          congr 1 <;> omega
        · rw [fl_out (by omega), fl_in (by omega), if_neg a3, if_neg (by omega)]
  · rw [uM_same, fl_out (by omega), uM_diff (by omega), fl_out (by omega), fl_out (by omega)]
  · rw [uM_diff (by omega), fl_out (by omega), uM_diff (by omega), fl_out (by omega), fl_out (by omega)]
theorem txt_loop {n : Nat} {L : gL} (hn : n ≤ 2000) : ∀ (d k f : Nat) (M : gM), M 401 4 = nI n → k + d = n → H_Mod_read_10 L (f + 1 + d) (nI k) M = J_Mod_read_36 (fl M 403 k d (fun j => vp_nar .byte (M 402 (k + j)))) L := by
  intro d
  induction d with
  | zero =>
    intro k f M h1 h
    show B_Mod_read_10 L _ (nI k) M = _
    unfold B_Mod_read_10
    rw [h1, if_pos (by rw [nI_leI (by omega) (by omega)]; omega), fl_0]
  | succ d ih =>
    intro k f M h1 h
    show B_Mod_read_10 L (H_Mod_read_10 L (f + 1 + d)) (nI k) M = _
    unfold B_Mod_read_10
    rw [h1, if_neg (by rw [nI_leI (by omega) (by omega)]; omega), if_neg (nI_in (by omega) (by omega)), if_neg (nI_in (by omega) (by omega)), nI_clamp (by omega), nmM_e, nmI_e, nI_1, ih (k + 1) f _ (by rw [uM_diff (by omega)]; exact h1) (by omega)]
    refine congrArg (fun q => J_Mod_read_36 q L) ?_
    have e : (fun j => vp_nar .byte (uM M 403 k (vp_nar .byte (M 402 k)) 402 (k + 1 + j))) = fun j => (fun j => vp_nar .byte (M 402 (k + j))) (j + 1) := by
      funext j
      rw [uM_diff (by omega)]
      show vp_nar .byte (M 402 _) = vp_nar .byte (M 402 _)
      congr 2 <;> omega
    rw [e]
    exact fl_cons (v := fun j => vp_nar .byte (M 402 (k + j))) rfl
theorem unh_loop {L : gL} : ∀ (d k f : Nat) (M : gM), k + d = 3 → H_Mod_read_219 L (f + 1 + d) (nI k) M = some (0, fl M 445 k d (fun _ => vp_nar .boolean 0), L) := by
  intro d
  induction d with
  | zero =>
    intro k f M h
    show B_Mod_read_219 L _ (nI k) M = _
    unfold B_Mod_read_219
    rw [show (3 : Int32) = nI 3 from rfl, if_pos (by rw [nI_leI (by omega) (by omega)]; omega), fl_0]
  | succ d ih =>
    intro k f M h
    show B_Mod_read_219 L (H_Mod_read_219 L (f + 1 + d)) (nI k) M = _
    unfold B_Mod_read_219
    rw [show (3 : Int32) = nI 3 from rfl, if_neg (by rw [nI_leI (by omega) (by omega)]; omega), if_neg (nI_in (by omega) (by omega)), nI_clamp (by omega), nmM_e, nmI_e, nI_1, ih (k + 1) f _ (by omega)]
    exact congrArg (fun q => some (0, q, L)) (fl_cons (v := fun _ => vp_nar .boolean 0) rfl)
/-! the class's states, exactly -/
theorem s_copyFrom {X0 X1 : Nat} {M : gM} (h : X0 + 7 ≤ X1 ∨ X1 + 7 ≤ X0) : ∃ M', F_State_copyFrom X0 X1 M = some M' ∧ (∀ j, j < 4 → M' X0 j = M X1 j) ∧ (∀ j, j < 3 → M' (X0 + 1) j = M (X1 + 1) j) ∧ (∀ j, j < 6 → M' (X0 + 2) j = M (X1 + 2) j) ∧ (∀ j, j < 5 → M' (X0 + 3) j = M (X1 + 3) j) ∧ (∀ j, j < 4 → M' (X0 + 4) j = M (X1 + 4) j) ∧ (∀ j, j < 4 → M' (X0 + 5) j = M (X1 + 5) j) ∧ (∀ j, j < 12 → M' (X0 + 6) j = M (X1 + 6) j) ∧ Eo (fun c _ => X0 ≤ c ∧ c < X0 + 7) M M' := by
  unfold F_State_copyFrom
  rw [nmM_e, nmM_e, nmM_e, nmM_e, s_copyRow (by decide) (by omega), bI_s, s_copyRow (by decide) (by omega), bI_s, s_copyRow (by decide) (by omega), bI_s, s_copyRow (by decide) (by omega), bI_s, s_copyRow (by decide) (by omega), bI_s, s_copyRow (by decide) (by omega), bI_s]
  refine ⟨_, rfl, fun j hj => ?_, fun j hj => ?_, fun j hj => ?_, fun j hj => ?_, fun j hj => ?_, fun j hj => ?_, fun j hj => ?_, fun c j q => ?_⟩
  · rw [fl_out (by omega), fl_out (by omega), fl_out (by omega), fl_out (by omega), fl_out (by omega), fl_out (by omega)]
    rcases (show j = 0 ∨ j = 1 ∨ j = 2 ∨ j = 3 by omega) with e | e | e | e <;> subst e
    · rw [uM_diff (by omega), uM_diff (by omega), uM_diff (by omega), uM_same]
    · rw [uM_diff (by omega), uM_diff (by omega), uM_same, uM_diff (by omega)]
    · rw [uM_diff (by omega), uM_same, uM_diff (by omega), uM_diff (by omega)]
    · rw [uM_same, uM_diff (by omega), uM_diff (by omega), uM_diff (by omega)]
  · rw [fl_out (by omega), fl_out (by omega), fl_out (by omega), fl_out (by omega), fl_out (by omega), fl_in (by omega), Nat.sub_zero, uM_diff (by omega), uM_diff (by omega), uM_diff (by omega), uM_diff (by omega)]
  · rw [fl_out (by omega), fl_out (by omega), fl_out (by omega), fl_out (by omega), fl_in (by omega), Nat.sub_zero, fl_out (by omega), uM_diff (by omega), uM_diff (by omega), uM_diff (by omega), uM_diff (by omega)]
  · rw [fl_out (by omega), fl_out (by omega), fl_out (by omega), fl_in (by omega), Nat.sub_zero, fl_out (by omega), fl_out (by omega), uM_diff (by omega), uM_diff (by omega), uM_diff (by omega), uM_diff (by omega)]
  · rw [fl_out (by omega), fl_out (by omega), fl_in (by omega), Nat.sub_zero, fl_out (by omega), fl_out (by omega), fl_out (by omega), uM_diff (by omega), uM_diff (by omega), uM_diff (by omega), uM_diff (by omega)]
  · rw [fl_out (by omega), fl_in (by omega), Nat.sub_zero, fl_out (by omega), fl_out (by omega), fl_out (by omega), fl_out (by omega), uM_diff (by omega), uM_diff (by omega), uM_diff (by omega), uM_diff (by omega)]
  · rw [fl_in (by omega), Nat.sub_zero, fl_out (by omega), fl_out (by omega), fl_out (by omega), fl_out (by omega), fl_out (by omega), uM_diff (by omega), uM_diff (by omega), uM_diff (by omega), uM_diff (by omega)]
  · rw [fl_out (by omega), fl_out (by omega), fl_out (by omega), fl_out (by omega), fl_out (by omega), fl_out (by omega), uM_diff (by omega), uM_diff (by omega), uM_diff (by omega), uM_diff (by omega)]
theorem sbeg_loop {X ld nf : Nat} (hX : ld + 2 ≤ X) (hf : nf ≤ 6) : ∀ (d k f : Nat) (M : gM), M ld 0 = nI nf → k + d = 6 → H_State_begin_58 X ld (f + 1 + d) (nI k) M = some (fl M (X + 2) k d (fun j => if k + j < nf then M (ld + 1) (k + j) else 0)) := by
  intro d
  induction d with
  | zero =>
    intro k f M h1 h
    show B_State_begin_58 X ld _ (nI k) M = _
    unfold B_State_begin_58
    rw [show (6 : Int32) = nI 6 from rfl, if_pos (by rw [nI_leI (by omega) (by omega)]; omega), fl_0]
  | succ d ih =>
    intro k f M h1 h
    show B_State_begin_58 X ld (H_State_begin_58 X ld (f + 1 + d)) (nI k) M = _
    unfold B_State_begin_58 J_State_begin_89
    rw [show (6 : Int32) = nI 6 from rfl, if_neg (by rw [nI_leI (by omega) (by omega)]; omega), h1]
    have fin : ∀ x : Int32, x = (if k < nf then M (ld + 1) k else 0) → (bI (F_Main_put (X + 2) 6 (nI k) x M) (fun M18 => nmI (nI k + 1) (fun x19 => H_State_begin_58 X ld (f + 1 + d) x19 M18))) = some (fl M (X + 2) k (d + 1) (fun j => if k + j < nf then M (ld + 1) (k + j) else 0)) := by
      intro x hx
      rw [s_put (by omega) (by decide), bI_s, nmI_e, nI_1, ih (k + 1) f _ (by rw [uM_diff (by omega)]; exact h1) (by omega)]
      refine congrArg some ?_
      have e : (fun j => if k + 1 + j < nf then uM M (X + 2) k x (ld + 1) (k + 1 + j) else 0) = fun j => (fun j => if k + j < nf then M (ld + 1) (k + j) else 0) (j + 1) := by
        funext j
        rw [uM_diff (by omega), show k + 1 + j = k + (j + 1) by omega]
      rw [e]
      exact fl_cons (v := fun j => if k + j < nf then M (ld + 1) (k + j) else 0) hx
    by_cases g : k < nf
    · rw [if_neg (by rw [nI_leI (by omega) (by omega)]; omega), s_at (by omega) (by decide), bI_s]
      exact fin _ (by rw [if_pos g])
    · rw [if_pos (by rw [nI_leI (by omega) (by omega)]; omega)]
      exact fin _ (by rw [if_neg g])
theorem s_begin {X ld nf : Nat} {M : gM} (hX : ld + 2 ≤ X) (hf : nf ≤ 6) (h1 : M ld 0 = nI nf) : ∃ M', F_State_begin X ld M = some M' ∧ (∀ j, j < 3 → M' X j = 0) ∧ M' X 3 = -2 ∧ (∀ j, j < 3 → M' (X + 1) j = 0) ∧ (∀ j, j < 6 → M' (X + 2) j = if j < nf then M (ld + 1) j else 0) ∧ (∀ j, j < 5 → M' (X + 3) j = 0) ∧ (∀ j, j < 4 → M' (X + 4) j = 0) ∧ (∀ j, j < 4 → M' (X + 5) j = 0) ∧ (∀ j, j < 12 → M' (X + 6) j = 0) ∧ Eo (fun c _ => X ≤ c ∧ c < X + 7) M M' := by
  unfold F_State_begin
  obtain ⟨g, hg⟩ := FU_k (1 + 6) (by omega)
  rw [nmM_e, nmM_e, nmM_e, nmM_e, s_wipe (by decide), bI_s, s_wipe (by decide), bI_s, s_wipe (by decide), bI_s, s_wipe (by decide), bI_s, s_wipe (by decide), bI_s, hg, ← Nat.add_assoc, show (H_State_begin_58 X ld (g + 1 + 6) 0 : gM → Option gM) = H_State_begin_58 X ld (g + 1 + 6) (nI 0) from rfl]
  rw [sbeg_loop hX hf 6 0 g _ (by rw [fl_out (by omega), fl_out (by omega), fl_out (by omega), fl_out (by omega), fl_out (by omega), uM_diff (by omega), uM_diff (by omega), uM_diff (by omega), uM_diff (by omega)]; exact h1) (by omega)]
  refine ⟨_, rfl, fun j hj => ?_, ?_, fun j hj => ?_, fun j hj => ?_, fun j hj => ?_, fun j hj => ?_, fun j hj => ?_, fun j hj => ?_, fun c j q => ?_⟩
  · rw [fl_out (by omega), fl_out (by omega), fl_out (by omega), fl_out (by omega), fl_out (by omega), fl_out (by omega), uM_diff (by omega)]
    rcases (show j = 0 ∨ j = 1 ∨ j = 2 by omega) with e | e | e <;> subst e
    · rw [uM_diff (by omega), uM_diff (by omega), uM_same]
    · rw [uM_diff (by omega), uM_same]
    · rw [uM_same]
  · rw [fl_out (by omega), fl_out (by omega), fl_out (by omega), fl_out (by omega), fl_out (by omega), fl_out (by omega), uM_same]
  · rw [fl_out (by omega), fl_out (by omega), fl_out (by omega), fl_out (by omega), fl_out (by omega), fl_in (by omega)]
  · rw [fl_in (by omega), Nat.sub_zero, Nat.zero_add, fl_out (by omega), fl_out (by omega), fl_out (by omega), fl_out (by omega), fl_out (by omega), uM_diff (by omega), uM_diff (by omega), uM_diff (by omega), uM_diff (by omega)]
  · rw [fl_out (by omega), fl_out (by omega), fl_out (by omega), fl_out (by omega), fl_in (by omega)]
  · rw [fl_out (by omega), fl_out (by omega), fl_out (by omega), fl_in (by omega)]
  · rw [fl_out (by omega), fl_out (by omega), fl_in (by omega)]
  · rw [fl_out (by omega), fl_in (by omega)]
  · rw [fl_out (by omega), fl_out (by omega), fl_out (by omega), fl_out (by omega), fl_out (by omega), fl_out (by omega), uM_diff (by omega), uM_diff (by omega), uM_diff (by omega), uM_diff (by omega)]
end PAR21
end MG13x1
section MG13x2
/-! read -/
section PAR22
/-- what a read that fails leaves alone -/
def stC (c j : Nat) : Prop := (64 ≤ c ∧ c < 383) ∨ c = 436 ∨ c = 440 ∨ c = 446 ∨ (c = 401 ∧ j = 57)
/-- the state as it begins -/
def Fr (ld : Nat) (M : gM) : Prop := (∀ j, j < 3 → M 64 j = 0) ∧ M 64 3 = -2 ∧ (∀ j, j < 3 → M 65 j = 0) ∧ (∃ nf, nf ≤ 6 ∧ M ld 0 = nI nf ∧ ∀ f, f < 6 → ∃ x, x ≤ 99 ∧ M 66 f = nI x ∧ M 436 f = nI x ∧ (nf ≤ f → x = 0)) ∧ (∀ j, j < 5 → M 67 j = 0) ∧ (∀ j, j < 4 → M 68 j = 0) ∧ (∀ j, j < 4 → M 69 j = 0) ∧ (∀ j, j < 12 → M 70 j = 0) ∧ (∀ k, 6 ≤ k → k < 38 → M 436 k = if k = 11 ∨ (15 ≤ k ∧ k < 19) then -2 else 0) ∧ M 78 1 = 0 ∧ M 78 2 = 0 ∧ M 360 1 = 0 ∧ M 401 57 = 0
theorem c_beginDraft {ld nf : Nat} {M : gM} (hld : isLa ld) (hf : nf ≤ 6) (h : M (50 - ld) 0 = nI nf) : ∃ M', F_Main_beginDraft ld M = some M' ∧ ((∀ j, j < 3 → M' 64 j = 0) ∧ M' 64 3 = -2 ∧ (∀ j, j < 3 → M' 65 j = 0) ∧ (∀ j, j < 6 → M' 66 j = if j < nf then M (50 - ld + 1) j else 0) ∧ (∀ j, j < 5 → M' 67 j = 0) ∧ (∀ j, j < 4 → M' 68 j = 0) ∧ (∀ j, j < 4 → M' 69 j = 0) ∧ (∀ j, j < 12 → M' 70 j = 0)) ∧ (M' 78 1 = 0 ∧ M' 78 2 = 0 ∧ M' 360 1 = 0 ∧ M' 383 3 = 0) ∧ Eo (fun c j => (64 ≤ c ∧ c < 71) ∨ (c = 78 ∧ (j = 1 ∨ j = 2)) ∨ (c = 360 ∧ j = 1) ∨ (c = 383 ∧ j = 3)) M M' := by
  unfold F_Main_beginDraft F_Past_clear F_Slots_clear F_Told_clear
  have h64 : 50 - ld + 2 ≤ 64 := by rcases La_cases hld with e | e <;> omega
  obtain ⟨M', a1, a2, a3, a4, a5, a6, a7, a8, a9, a10⟩ := s_begin (X := 64) (M := M) h64 hf h
  rw [a1, bI_s, nmM_e, nmM_e, bI_s, nmM_e, bI_s, nmM_e, bI_s]
  refine ⟨_, rfl, ⟨fun j hj => ?_, ?_, fun j hj => ?_, fun j hj => ?_, fun j hj => ?_, fun j hj => ?_, fun j hj => ?_, fun j hj => ?_⟩, ⟨?_, ?_, ?_, uM_same⟩, fun c j q => ?_⟩
  · rw [uM_diff (by omega), uM_diff (by omega), uM_diff (by omega), uM_diff (by omega)]; exact a2 j hj
  · rw [uM_diff (by omega), uM_diff (by omega), uM_diff (by omega), uM_diff (by omega)]; exact a3
  · rw [uM_diff (by omega), uM_diff (by omega), uM_diff (by omega), uM_diff (by omega)]; exact a4 j hj
  · rw [uM_diff (by omega), uM_diff (by omega), uM_diff (by omega), uM_diff (by omega)]; exact a5 j hj
  · rw [uM_diff (by omega), uM_diff (by omega), uM_diff (by omega), uM_diff (by omega)]; exact a6 j hj
  · rw [uM_diff (by omega), uM_diff (by omega), uM_diff (by omega), uM_diff (by omega)]; exact a7 j hj
  · rw [uM_diff (by omega), uM_diff (by omega), uM_diff (by omega), uM_diff (by omega)]; exact a8 j hj
  · rw [uM_diff (by omega), uM_diff (by omega), uM_diff (by omega), uM_diff (by omega)]; exact a9 j hj
  · rw [uM_diff (by omega), uM_diff (by omega), uM_diff (by omega), uM_same]
  · rw [uM_diff (by omega), uM_diff (by omega), uM_same]
  · rw [uM_diff (by omega), uM_same]
  · rw [uM_diff (by omega), uM_diff (by omega), uM_diff (by omega), uM_diff (by omega), a10 c j (by omega)]
/-- what the class's read does behind its parser -/
def CR (ld k : Nat) (M3 M1 : gM) : Prop := ((k ≠ 0 ∧ Eo (fun c j => (c = 0 ∧ j = 11) ∨ (c = 1 ∧ j = 1)) M3 M1) ∨        (k = 0 ∧ (∃ nf, nf ≤ 6 ∧ M3 (50 - ld) 0 = nI nf ∧ (∀ j, j < 3 → M1 64 j = 0) ∧ M1 64 3 = -2 ∧ (∀ j, j < 3 → M1 65 j = 0) ∧ (∀ j, j < 6 → M1 66 j = if j < nf then M3 (50 - ld + 1) j else 0) ∧ (∀ j, j < 5 → M1 67 j = 0) ∧ (∀ j, j < 4 → M1 68 j = 0) ∧ (∀ j, j < 4 → M1 69 j = 0) ∧ (∀ j, j < 12 → M1 70 j = 0)) ∧ (M1 78 1 = 0 ∧ M1 78 2 = 0 ∧ M1 360 1 = 0 ∧ M1 383 3 = 0) ∧ Eo (fun c j => (c = 0 ∧ j = 11) ∨ (c = 1 ∧ j = 1) ∨ (64 ≤ c ∧ c < 71) ∨ (c = 78 ∧ (j = 1 ∨ j = 2)) ∨ (c = 360 ∧ j = 1) ∨ (c = 383 ∧ j = 3)) M3 M1))
/-- the class's read, behind its parser -/
theorem c_read {ld k : Nat} {M M3 : gM} {L L3 : gL} {pl : Int32} (hld : isLa ld) (hk : k ≤ 5) (hp : F_Reader_parse (50 - ld) M L = some (nI k, M3, L3)) (hpl : F_Reader_placeOfFault M3 = some pl) (h0 : k = 0 → ∃ nf, nf ≤ 6 ∧ M3 (50 - ld) 0 = nI nf) :
    ∃ M1, F_Main_read ld M L = some (nI k, M1, L3, if k = 0 then 50 - ld else ld) ∧ M1 0 11 = pl ∧ M1 1 1 = 0 ∧
      CR ld k M3 M1 := by
  have hl2 := La_cases hld
  unfold F_Main_read CR
  rw [hp]
  show ∃ M1, bI (F_Reader_placeOfFault M3) _ = _ ∧ _
  rw [hpl, bI_s, nmM_e, nmM_e]
  by_cases h : k = 0
  · obtain ⟨nf, b1, b2⟩ := h0 h
    obtain ⟨M', a1, ⟨a2, a3, a4, a5, a6, a7, a8, a9⟩, a10, a11⟩ := c_beginDraft (M := uM (uM M3 0 11 pl) 1 1 0) hld b1 (by rw [uM_diff (by omega), uM_diff (by omega)]; exact b2)
    rw [if_pos (by rw [h]; rfl), a1, bI_s, if_pos h]
    refine ⟨M', rfl, ?_, ?_, Or.inr ⟨h, ⟨nf, b1, b2, a2, a3, a4, fun j hj => ?_, a6, a7, a8, a9⟩, a10, fun c j q => ?_⟩⟩
    · rw [a11 0 11 (by omega), uM_diff (by omega), uM_same]
    · rw [a11 1 1 (by omega), uM_same]
    · rw [a5 j hj, uM_diff (by omega), uM_diff (by omega)]
    · rw [a11 c j (by omega), uM_diff (by omega), uM_diff (by omega)]
  · rw [if_neg (nI_ne0 (Nat.pos_of_ne_zero h) (by omega)), if_neg h]
    refine ⟨_, rfl, ?_, uM_same, Or.inl ⟨h, fun c j q => ?_⟩⟩
    · rw [uM_diff (by omega), uM_same]
    · rw [uM_diff (by omega), uM_diff (by omega)]
/-- the model's read, behind its parser, of a good text -/
theorem m_readE {sd nf : Nat} {N : gM} {K : gL} (hsd : sd ≤ 1) (hf : nf ≤ 6) (h13 : N 401 13 = 0) (h15 : N 401 15 = 0) (h19 : N 401 19 = nI sd) (h411 : N 411 sd = nI nf) :
    ∃ M2, J_Mod_read_164 (-1) N K = some (0, M2, K) ∧ M2 401 17 = -1 ∧ M2 401 18 = nI sd ∧ M2 401 57 = 0 ∧ M2 401 64 = 0 ∧ (∀ s, s < 3 → M2 445 s = 0) ∧ (∀ k, k < 38 → M2 436 k = if k < nf then N 412 (6 * sd + k) else if k = 11 ∨ (15 ≤ k ∧ k < 19) then -2 else 0) ∧ Eo (fun c j => c = 436 ∨ c = 437 ∨ c = 445 ∨ (c = 401 ∧ (j = 17 ∨ j = 18 ∨ j = 54 ∨ j = 57 ∨ j = 64))) N M2 := by
  unfold J_Mod_read_164
  obtain ⟨g, hg⟩ := FU_k (1 + 3) (by omega)
  have e1 : ∀ j, j ≠ 17 → uM N 401 17 (-1) 401 j = N 401 j := fun j hj => uM_diff (by omega)
  rw [nmM_e, e1 13 (by decide), h13, if_pos (by decide), e1 15 (by decide), h15, if_pos (by decide), e1 19 (by decide), h19, nmM_e]
  obtain ⟨M', a1, a2, a3, a4⟩ := s_begins (lv := sd) (nf := nf) (M := uM (uM N 401 17 (-1)) 401 18 (nI sd)) (by omega) hf uM_same (by rw [uM_diff (by omega), uM_diff (by omega)]; exact h411)
  rw [a1, bI_s, s_keepsRow, bI_s, nmM_e, nmM_e, hg, ← Nat.add_assoc, show (H_Mod_read_219 K (g + 1 + 3) 0 : gM → Option (Int32 × gM × gL)) = H_Mod_read_219 K (g + 1 + 3) (nI 0) from rfl, unh_loop 3 0 _ _ (by omega)]
  have b : ∀ j, j ≠ 57 → j ≠ 64 → fl (uM (uM (fl M' 436 0 38 (M' 437)) 401 57 0) 401 64 0) 445 0 3 (fun _ => vp_nar .boolean 0) 401 j = M' 401 j := fun j x y => by
    rw [fl_out (by omega), uM_diff (by omega), uM_diff (by omega), fl_out (by omega)]
  refine ⟨_, rfl, ?_, ?_, ?_, ?_, fun s hs => ?_, fun k hk => ?_, fun c j q => ?_⟩
  · rw [b 17 (by decide) (by decide), a4 401 17 (by omega), uM_diff (by omega), uM_same]
  · rw [b 18 (by decide) (by decide), a4 401 18 (by omega), uM_same]
  · rw [fl_out (by omega), uM_diff (by omega), uM_same]
  · rw [fl_out (by omega), uM_same]
  · rw [fl_in (by omega)]
    rfl
  · rw [fl_out (by omega), uM_diff (by omega), uM_diff (by omega), fl_in (by omega), Nat.sub_zero, a2 k hk, uM_diff (by omega), uM_diff (by omega)]
  · rw [fl_out (by omega), uM_diff (by omega), uM_diff (by omega), fl_out (by omega), a4 c j (by omega), uM_diff (by omega), uM_diff (by omega)]
/-- the places of the VARs of laws -/
def vaC (c : Nat) : Prop := c = 23 ∨ c = 27 ∨ c = 31 ∨ c = 35 ∨ c = 49 ∨ c = 53 ∨ c = 57 ∨ c = 61
theorem g_read {ld : Nat} {M : gM} {L : gL} (h : G0 ld M L) : ∃ k M1 L1 ld1 M2 L2, F_Main_read ld M L = some (nI k, M1, L1, ld1) ∧ F_Mod_read M1 L1 = some (nI k, M2, L2) ∧ G0 ld1 M2 L2 ∧ (∀ c j, vaC c → M2 c j = M c j) ∧ ((k ≠ 0 ∧ ld1 = ld ∧ M2 ld 0 = M ld 0 ∧ ∀ c j, stC c j → M2 c j = M c j) ∨ (k = 0 ∧ Fr ld1 M2)) := by
  obtain ⟨⟨b, n, hT, hQ⟩, hld, hWc, hWm, hI, ⟨lv, hlv, h18, hD⟩, h11, hTd, hSl⟩ := h
  have hl2 := La_cases hld
  have hld' : isLa (50 - ld) := by
    rcases hl2 with e | e
    · rw [e]; exact (by decide : (38 : Nat) ∈ lLa)
    · rw [e]; exact (by decide : (12 : Nat) ∈ lLa)
  have hn := hT.2.1
  generalize hsdE : 1 - lv = sd
  have hsd : sd ≤ 1 := by omega
  have hlsd : lv = 1 - sd := by omega
  -- the class alone
  obtain ⟨ka, M3, La, pla, hka, hpar, hpla, hnf, cfr, cL⟩ : ∃ ka M3 La pla, ka ≤ 5 ∧ F_Reader_parse (50 - ld) M L = some (nI ka, M3, La) ∧ F_Reader_placeOfFault M3 = some pla ∧ (ka = 0 → ∃ nf, nf ≤ 6 ∧ M3 (50 - ld) 0 = nI nf) ∧ (∀ c j, PD (50 - ld) c j = false → c ≠ 6 → c ≠ 7 → M3 c j = M c j) ∧ (∀ c j, c ≠ 8 → c ≠ 9 → La c j = L c j) := by
    have hX0 : Tx b n (fl (uM M 401 4 (M 401 2)) 403 0 n (fun j => vp_nar .byte (M 402 j))) := by
      refine ⟨?_, hn, fun j hj => ⟨?_, (hT.2.2 j hj).2⟩⟩
      · rw [fl_out (by omega), uM_same, hQ.1]
      · rw [fl_in (by omega), Nat.sub_zero]; exact hQ.2 j hj
    obtain ⟨m0, Ma, La, Na, Ka, p1, p2, p3, p4, p5, p6, p7, p8, p9, p10⟩ := p_parse (sd := sd) hld' hsd hT hWc hX0 hWm (by rw [fl_out (by omega), uM_diff (by omega), h18, hlsd])
    obtain ⟨ka, M3, pla, a1, a2, a3, a4, a5, a6⟩ := p_ans p3 p6 p7
    refine ⟨ka, M3, La, pla, a1, p1.trans a2, a3, fun q => ?_, fun c j q1 q2 q3 => ?_, p9⟩
    · rcases a6 with ⟨_, _, _, _, _, t', nf, nd, ng, ne, l, a, c, i, hR⟩ | ⟨x, _⟩
      · exact ⟨nf, hR.2.2.1.1.2.2, by rw [a5 _ _ (by omega)]; exact hR.2.2.1.1.1⟩
      · exact absurd q x
    · have q4 := PD_n q1
      rw [a5 c j (by omega), p8 c j q1 q2 q3]
  have cfr2 : ∀ c j, c ≠ 3 → c ≠ 6 → c ≠ 7 → c ≠ 10 → c ≠ 11 → ¬ (50 - ld ≤ c ∧ c < 50 - ld + 26) → M3 c j = M c j := fun c j x1 x2 x3 x4 x5 x6 => cfr c j (PD_m (by omega)) x2 x3
  obtain ⟨M1, hrd, m11, m1t, hcl⟩ := c_read hld hka hpar hpla hnf
  clear hnf
  have clE : Eo (fun c j => (c = 0 ∧ j = 11) ∨ (c = 1 ∧ j = 1) ∨ (64 ≤ c ∧ c < 71) ∨ (c = 78 ∧ (j = 1 ∨ j = 2)) ∨ (c = 360 ∧ j = 1) ∨ (c = 383 ∧ j = 3)) M3 M1 := by
    unfold CR at hcl
    rcases hcl with ⟨_, q⟩ | ⟨_, _, _, q⟩
    · exact q.mono (fun c j w => by omega)
    · exact q
  have m1M : ∀ c j, 384 ≤ c → M1 c j = M c j := fun c j q => by rw [clE c j (by omega), cfr2 c j (by omega) (by omega) (by omega) (by omega) (by omega) (by omega)]
  -- the model, behind the class
  have hc2 : M1 401 2 = nI n := (m1M 401 2 (by omega)).trans hQ.1
  obtain ⟨N1, hN1, f1, f2, f3⟩ : ∃ N1, F_Mod_read M1 La = J_Mod_read_36 N1 La ∧ Eo (fun c j => (c = 401 ∧ j = 4) ∨ c = 403) M1 N1 ∧ N1 401 4 = nI n ∧ ∀ j, j < n → N1 403 j = vp_nar .byte (M1 402 j) := by
    refine ⟨fl (uM M1 401 4 (nI n)) 403 0 n (fun j => vp_nar .byte (uM M1 401 4 (nI n) 402 (0 + j))), ?_, fun c j q => ?_, ?_, fun j hj => ?_⟩
    · unfold F_Mod_read
      obtain ⟨g, hg⟩ := FU_k (1 + n) (by omega)
      rw [hc2, nmM_e, hg, ← Nat.add_assoc, show (H_Mod_read_10 La (g + 1 + n) 0 : gM → Option (Int32 × gM × gL)) = H_Mod_read_10 La (g + 1 + n) (nI 0) from rfl]
      exact txt_loop hn n 0 g _ uM_same (by omega)
    · rw [fl_out (by omega), uM_diff (by omega)]
    · rw [fl_out (by omega), uM_same]
    · rw [fl_in (by omega), uM_diff (by omega), Nat.sub_zero, Nat.zero_add]
  have hX1 : Tx b n N1 := ⟨f2, hn, fun j hj => ⟨by rw [f3 j hj, m1M 402 j (by omega)]; exact hQ.2 j hj, (hT.2.2 j hj).2⟩⟩
  have hWm1 : Wdm La := fun w hw => (cL 408 w (by decide) (by decide)).trans (hWm w hw)
  obtain ⟨m, Mb, Lb, Nb, Kb, q1, q2, q3, q4, q5, q6, q7, q8, q9, q10⟩ := p_parse (sd := sd) hld' hsd hT hWc hX1 hWm1 (by rw [f1 401 18 (by omega), m1M 401 18 (by omega), h18, hlsd])
  obtain ⟨kb, M3b, plb, b1, b2, b3, b4, b5, b6⟩ := p_ans q3 q6 q7
  have hpar2 := hpar.symm.trans (q1.trans b2)
  have i1 := Option.some.inj hpar2
  injection i1 with i2 i3
  injection i3 with i3 i4
  have ekb : ka = kb := (nI_eq (by omega) (by omega)).mp i2
  subst ekb
  subst i3
  subst i4
  have epl : pla = plb := Option.some.inj (hpla.symm.trans b3)
  subst epl
  have hm0 : F_Mod_read M1 La = J_Mod_read_164 pla Nb Kb := hN1.trans (q2.trans b4)
  have nbF : ∀ c j, ¬ (mP sd c j ∨ tkS c j ∨ (c = 401 ∧ (j = 2 ∨ j = 19))) → ¬ ((c = 401 ∧ j = 4) ∨ c = 403) → Nb c j = M1 c j := fun c j x y => (q4 c j x).trans (f1 c j y)
  have nbC : ∀ c j, c ≤ 400 → Nb c j = M1 c j := fun c j x => nbF c j (by unfold mP mT tkS; omega) (by omega)
  have nbS : ∀ c j, sideC lv c j → Nb c j = M c j := fun c j x => by
    have x2 := sideC_r x
    rw [nbF c j (by unfold sideC at x; unfold mP mT tkS; omega) (by omega), m1M c j (by omega)]
  have nbX : ∀ c j, (433 < c ∨ c = 402) → Nb c j = M c j := fun c j x => by
    rw [nbF c j (by unfold mP mT tkS; omega) (by omega), m1M c j (by omega)]
  have nbY : ∀ j, (j = 18 ∨ j = 57 ∨ j = 64) → Nb 401 j = M 401 j := fun j x => by
    rw [nbF 401 j (by unfold mP mT tkS; omega) (by omega), m1M 401 j (by omega)]
  have hWcK : Wdc Kb := fun w hw => (q5 5 w (by decide) (by decide)).trans ((cL 5 w (by decide) (by decide)).trans (hWc w hw))
  have hWmK : Wdm Kb := fun w hw => (q5 408 w (by decide) (by decide)).trans (hWm1 w hw)
  have tpE : ∀ M2 : gM, M2 1 1 = 0 → M2 401 2 = 0 → ∃ b n, Tp b n M2 ∧ Tq b n M2 := fun M2 x y => ⟨b, 0, ⟨x, by omega, fun j hj => absurd hj (Nat.not_lt_zero _)⟩, ⟨y, fun j hj => absurd hj (Nat.not_lt_zero _)⟩⟩
  have cbO : ∀ c j, (c = 411 ∨ c = 415 ∨ c = 418 ∨ c = 420) → j ≠ sd → Nb c j = M c j := fun c j x y => by
    rw [nbF c j (by unfold mP mT tkS; omega) (by omega), m1M c j (by omega)]
  rcases b6 with ⟨k0, p0, h34, h13, h15, t', nf, nd, ng, ne, l, a, c, i, hR⟩ | ⟨k0, hres, hmc⟩
  · -- a good text
    obtain ⟨hI1, ⟨r19, r12, r44, r38, rc, ri⟩, hCt, hMn, hAv, hDat, hLw⟩ := id hR
    have hlv2 := hI1.2.1
    have hm := hI1.1.m400
    have htm := hlv2.2.2.2.2
    obtain ⟨d1, d2, d3⟩ := hDat h34
    unfold CR at hcl
    rcases hcl with ⟨w0, _⟩ | ⟨_, ⟨nf2, w1, w2, w3, w4, w5, w6, w7, w8, w9, w10⟩, ⟨w11, w12, w13, w14⟩, w15⟩
    · exact absurd k0 w0
    have enf : nf2 = nf := by
      have e1 := w2
      rw [b5 _ _ (by omega), hCt.1.1] at e1
      have e2 := hCt.1.2.2
      exact ((nI_eq (by omega) (by omega)).mp e1).symm
    subst enf
    obtain ⟨M2, y1, y2, y3, y4, y5, y6, y7, y8⟩ := m_readE (K := Kb) hsd w1 h13 h15 r19 hCt.1.2.1
    have c2 : ∀ c j, c ≤ 400 → M2 c j = M1 c j := fun c j x => (y8 c j (by omega)).trans (nbC c j x)
    have c3 : ∀ c j, 50 - ld ≤ c → c ≤ 50 - ld + 25 → M2 c j = Mb c j := fun c j x1 x2 => by
      rw [c2 c j (by omega), clE c j (by omega), b5 c j (by omega)]
    have n3 : ∀ c j, 411 ≤ c → c ≤ 432 → M2 c j = Nb c j := fun c j x1 x2 => y8 c j (by omega)
    have hDl : Dl (50 - ld) sd M2 := by
      obtain ⟨x1, x2, x3, x4, x5⟩ := d3
      refine ⟨nf2, nd, ng, ne, c, i, ?_, ⟨x1.keep (fun c j u v => c3 c j (by omega) (by omega)) (fun c j u v => n3 c j (by omega) (by omega)), x2.keep (Nat.le_refl _) (fun c j u v => c3 c j (by omega) (by omega)) (fun c j u v => n3 c j (by omega) (by omega)), x3.keep (fun j => c3 _ j (by omega) (by omega)) (fun j => n3 _ j (by omega) (by omega)), x4.keep (fun c j u v => c3 c j (by omega) (by omega)) (fun c j u v => n3 c j (by omega) (by omega)), x5.keep (c3 _ _ (by omega) (by omega)) (n3 _ _ (by omega) (by omega))⟩, hLw.keep (fun cc j u v => c3 cc j (by omega) (by omega)) (fun cc j u v => n3 cc j (by omega) (by omega)), by omega, by omega⟩
      unfold Cnts at hCt ⊢
      rw [c3 _ 0 (by omega) (by omega), c3 _ 1 (by omega) (by omega), c3 _ 2 (by omega) (by omega), c3 _ 3 (by omega) (by omega), n3 411 _ (by omega) (by omega), n3 415 _ (by omega) (by omega), n3 418 _ (by omega) (by omega), n3 420 _ (by omega) (by omega)]
      exact hCt
    have hTd2 : Td M2 := ⟨0, by omega, by rw [c2 383 3 (by omega)]; exact w14, y5, fun i hi => absurd hi (Nat.not_lt_zero _)⟩
    have hSl2 : Sl M2 := ⟨0, by omega, by rw [c2 360 1 (by omega)]; exact w13, fun s hs => by rw [y6 s hs, Nat.zero_testBit]; rfl⟩
    have hCb : Cb M2 := Cb.upd (sd := sd) hI.cb (fun c j x y => by rw [n3 c j (by omega) (by omega)]; exact cbO c j x y) (hCt.mc.keep (fun c x => n3 c sd (by omega) (by omega)))
    have hInv : Inv M2 := Inv_of hsd y3 hDl hCb (by rw [y4]; decide) hTd2
    refine ⟨ka, M1, La, _, M2, Kb, hrd, ?_, ⟨tpE M2 (by rw [c2 1 1 (by omega)]; exact m1t) (by rw [y8 401 2 (by omega)]; exact q10), ?_, hWcK, hWmK, hInv, ⟨sd, hsd, y3, ?_⟩, ?_, hTd2, hSl2⟩, fun cc j hv => ?_, Or.inr ⟨k0, ?_⟩⟩
    · rw [hm0, p0, y1, k0]
      rfl
    · rw [if_pos k0]; exact hld'
    · rw [if_pos k0]; exact hDl
    · rw [c2 0 11 (by omega), m11, p0, y2]
    · unfold vaC at hv
      rw [c2 cc j (by omega), clE cc j (by omega), cfr cc j (PD_m (by omega)) (by omega) (by omega)]
    · refine ⟨fun j hj => by rw [c2 _ _ (by omega)]; exact w3 j hj, by rw [c2 _ _ (by omega)]; exact w4, fun j hj => by rw [c2 _ _ (by omega)]; exact w5 j hj, ⟨nf2, w1, ?_, fun f hf => ?_⟩, fun j hj => by rw [c2 _ _ (by omega)]; exact w7 j hj, fun j hj => by rw [c2 _ _ (by omega)]; exact w8 j hj, fun j hj => by rw [c2 _ _ (by omega)]; exact w9 j hj, fun j hj => by rw [c2 _ _ (by omega)]; exact w10 j hj, fun k hk hk2 => ?_, by rw [c2 _ _ (by omega)]; exact w11, by rw [c2 _ _ (by omega)]; exact w12, by rw [c2 _ _ (by omega)]; exact w13, y4⟩
      · rw [if_pos k0, c3 _ 0 (by omega) (by omega)]; exact hCt.1.1
      · rw [c2 66 f (by omega), w6 f hf, y7 f (by omega)]
        by_cases hfn : f < nf2
        · obtain ⟨x, z1, z2, z3⟩ := (d3.1 f hfn).1
          rw [if_pos hfn, if_pos hfn, b5 _ _ (by omega), z2, z3]
          exact ⟨x, z1, rfl, rfl, fun w => absurd hfn (by omega)⟩
        · rw [if_neg hfn, if_neg hfn, if_neg (by omega)]
          exact ⟨0, by omega, rfl, rfl, fun _ => rfl⟩
      · rw [y7 k hk2, if_neg (by omega)]
  · -- a fault
    unfold CR at hcl
    rcases hcl with ⟨_, w1⟩ | ⟨w0, _⟩
    rotate_left
    · exact absurd w0 k0
    have c2 : ∀ c j, c ≤ 400 → uM Nb 401 17 pla c j = M1 c j := fun c j x => (uM_diff (by omega)).trans (nbC c j x)
    have c3 : ∀ c j, c ≤ 400 → c ≠ 0 → c ≠ 1 → c ≠ 3 → c ≠ 6 → c ≠ 7 → c ≠ 10 → c ≠ 11 → ¬ (50 - ld ≤ c ∧ c < 50 - ld + 26) → uM Nb 401 17 pla c j = M c j := fun c j x1 x2 x3 x4 x5 x6 x7 x8 x9 => by
      rw [c2 c j x1, w1 c j (by omega), cfr2 c j (by omega) (by omega) (by omega) (by omega) (by omega) (by omega)]
    have hDl : Dl ld lv (uM Nb 401 17 pla) := hD.keepR (fun c j u v => c3 c j (by omega) (by omega) (by omega) (by omega) (by omega) (by omega) (by omega) (by omega) (by omega)) (fun w hw j => ⟨c3 _ j (by omega) (by omega) (by omega) (by omega) (by omega) (by omega) (by omega) (by omega) (by omega), c3 _ j (by omega) (by omega) (by omega) (by omega) (by omega) (by omega) (by omega) (by omega) (by omega)⟩) (fun c j u => by
      have := sideC_r u
      rw [uM_diff (by omega)]
      exact nbS c j u)
    have hTd2 : Td (uM Nb 401 17 pla) := hTd.keep2 (c3 _ _ (by omega) (by omega) (by omega) (by omega) (by omega) (by omega) (by omega) (by omega) (by omega)) (by rw [uM_diff (by omega)]; exact nbY 64 (by omega)) (fun c j u => by
      rcases u with u | u
      · exact c3 c j (by omega) (by omega) (by omega) (by omega) (by omega) (by omega) (by omega) (by omega) (by omega)
      · rw [uM_diff (by omega)]; exact nbX c j (by omega))
    have hSl2 : Sl (uM Nb 401 17 pla) := hSl.keep2 (c3 _ _ (by omega) (by omega) (by omega) (by omega) (by omega) (by omega) (by omega) (by omega) (by omega)) (fun j => by rw [uM_diff (by omega)]; exact nbX 445 j (by omega))
    have hCb : Cb (uM Nb 401 17 pla) := Cb.upd (sd := sd) hI.cb (fun c j x y => by rw [uM_diff (by omega)]; exact cbO c j x y) (hmc.keep (fun c x => uM_diff (by omega)))
    have h18b : uM Nb 401 17 pla 401 18 = nI lv := by rw [uM_diff (by omega), nbY 18 (by omega)]; exact h18
    have h57b : uM Nb 401 17 pla 401 57 = M 401 57 := by rw [uM_diff (by omega), nbY 57 (by omega)]
    have hInv : Inv (uM Nb 401 17 pla) := Inv_of hlv h18b hDl hCb (by rw [h57b]; exact hI.undos) hTd2
    refine ⟨ka, M1, La, _, uM Nb 401 17 pla, Kb, hrd, hm0.trans hres, ⟨tpE _ (by rw [c2 1 1 (by omega)]; exact m1t) (by rw [uM_diff (by omega)]; exact q10), ?_, hWcK, hWmK, hInv, ⟨lv, hlv, h18b, ?_⟩, ?_, hTd2, hSl2⟩, fun cc j hv => ?_, Or.inl ⟨k0, ?_, c3 ld 0 (by omega) (by omega) (by omega) (by omega) (by omega) (by omega) (by omega) (by omega) (by omega), fun c j u => ?_⟩⟩
    · rw [if_neg k0]; exact hld
    · rw [if_neg k0]; exact hDl
    · rw [c2 0 11 (by omega), m11, uM_same]
    · unfold vaC at hv
      rw [c2 cc j (by omega), w1 cc j (by omega), cfr cc j (PD_m (by omega)) (by omega) (by omega)]
    · rw [if_neg k0]
    · unfold stC at u
      rcases u with u | u | u | u | u
      · exact c3 c j (by omega) (by omega) (by omega) (by omega) (by omega) (by omega) (by omega) (by omega) (by omega)
      · rw [uM_diff (by omega)]; exact nbX c j (by omega)
      · rw [uM_diff (by omega)]; exact nbX c j (by omega)
      · rw [uM_diff (by omega)]; exact nbX c j (by omega)
      · rw [u.1, u.2]; exact h57b
end PAR22
end MG13x2
section MG13x3
/-! the calls, first half: both come to an end, what holds between calls is kept -/
section PAR23
/-- the cells of all states -/
def sC (c j : Nat) : Prop := (64 ≤ c ∧ c < 71) ∨ c = 78 ∨ (80 ≤ c ∧ c < 360) ∨ (362 ≤ c ∧ c < 383) ∨ c = 436 ∨ c = 440 ∨ c = 446 ∨ (c = 445 ∧ j < 3) ∨ (c = 401 ∧ j = 57)
def sV (c j : Nat) : Prop := sC c j ∨ (12 ≤ c ∧ c < 64)
theorem sV_n {c j : Nat} (h : sV c j) : (12 ≤ c ∧ c < 360) ∨ (362 ≤ c ∧ c < 383) ∨ c = 436 ∨ c = 440 ∨ c = 446 ∨ c = 445 ∨ (c = 401 ∧ j = 57) := by unfold sV sC at h; omega
theorem st64 : isSt 64 := (by decide : (64 : Nat) ∈ lSt)
theorem stP {v : Nat} (h : v < 40) : isSt (80 + 7 * v) := (by decide +kernel : ∀ v, v < 40 → (80 + 7 * v) ∈ lSt) v h
theorem stS {s : Nat} (h : s < 3) : isSt (362 + 7 * s) := (by decide +kernel : ∀ v, v < 3 → (362 + 7 * v) ∈ lSt) s h
def CSt (c j : Nat) : Bool := C0 c j || (decide (64 ≤ c) && decide (c < 360)) || (decide (362 ≤ c) && decide (c < 383))
theorem gl_CSt {c j : Nat} (h : (gl c j || gt c j) = true) : CSt c j = false := by
  obtain ⟨h1, h2⟩ := gl_num h
  unfold CSt C0
  rw [h1]
  simp only [Bool.false_and, Bool.false_or, Bool.or_eq_false_iff, Bool.and_eq_false_iff, decide_eq_false_iff_not]
  omega
theorem CX_CSt {X : Nat} (hX : isSt X) : ∀ c j, CX X c j = true → CSt c j = true := fun c j h => by
  have h2 := (by decide +kernel : ∀ X ∈ lSt, (64 ≤ X ∧ X + 7 ≤ 360) ∨ (362 ≤ X ∧ X + 7 ≤ 383)) X hX
  unfold CX at h
  unfold CSt
  cases e : C0 c j with
  | true => rfl
  | false =>
    rw [e] at h
    simp only [Bool.false_or, Bool.and_eq_true, decide_eq_true_eq, Bool.or_eq_true] at h ⊢
    omega
section GG
variable {ld : Nat} {M M' : gM} {L : gL}
theorem G0.kSt (h : G0 ld M L) (k : Kl CSt M zL M' zL) : G0 ld M' L := h.keep (fun c j q => k.m (gl_CSt q)) (by rw [k.m (show CSt 401 57 = false from rfl)]; exact h.inv.undos)
theorem G0.kCX {X : Nat} (hX : isSt X) (h : G0 ld M L) (k : Kl (CX X) M zL M' zL) : G0 ld M' L := h.kSt (k.mono (CX_CSt hX))
theorem G0.u57 (h : G0 ld M L) : ∃ u, u ≤ 40 ∧ M 401 57 = nI u := by
  have := h.inv.undos
  exact ⟨(M 401 57).toInt.toNat, by omega, i_nI (by omega)⟩
theorem G0.rec (h : G0 ld M L) : ∃ M', F_Mod_records M = some M' ∧ G0 ld M' L := by
  obtain ⟨u, hu, hM⟩ := h.u57
  obtain ⟨M', v, sh, e1, e2, e3, e4, e5, e6, e7⟩ := s_records hu hM
  refine ⟨M', e1, h.keep (fun c j q => e7 c j (by have := (gl_num q).2; omega)) ?_⟩
  rw [e3, nI_toInt (by omega)]
  omega
theorem tf_Past_keep : ∃ M', F_Past_keep 64 M = some M' ∧ Kl CSt M zL M' zL := by
  unfold F_Past_keep
  by_cases h0 : M 78 1 < 0
  · rw [if_pos h0]; exact ⟨M, rfl, Kl.rf⟩
  rw [if_neg h0]
  by_cases h1 : 40 ≤ M 78 1
  · rw [if_pos h1]; exact ⟨M, rfl, Kl.rf⟩
  rw [if_neg h1]
  obtain ⟨v, hv, e⟩ := nI_of h0
  rw [e, show (40 : Int32) = nI 40 from rfl, nI_leI (by omega) hv] at h1
  rw [e, nI_clamp hv, if_neg (nI_inc (by omega) hv), if_neg (nI_inc (by omega) hv)]
  obtain ⟨M1, e1, k1⟩ := tf_State_copyFrom (X0 := 80 + 7 * v) (X1 := 64) (M := M) (stP (by omega)) st64
  rw [e1, bI_s]
  have k2 := k1.mono (CX_CSt (stP (v := v) (by omega)))
  have k3 : ∀ s1 : Int32, ∃ M', J_Past_keep_67 64 s1 M1 = some M' ∧ Kl CSt M zL M' zL := fun s1 => by
    unfold J_Past_keep_67
    exact ⟨_, rfl, (k2.wM rfl rfl).wM rfl rfl⟩
  by_cases h2 : 40 ≤ M1 78 1 + 1
  · rw [if_pos h2]; exact k3 _
  · rw [if_neg h2]; exact k3 _
theorem gc_cook (h : G0 ld M L) (a : Int32) : ∃ r M1, F_Main_cook ld a M = some (r, M1) ∧ G0 ld M1 L := by
  unfold F_Main_cook
  obtain ⟨x, f1, _⟩ := tf_Main_isOne (p1 := a) (p2 := M ld 1)
  rw [f1, bI_s]
  by_cases hx : x = 0
  · rw [if_pos hx]; exact ⟨_, _, rfl, h⟩
  rw [if_neg hx]
  obtain ⟨y, f2, _⟩ := tf_State_inStore (X0 := 64) (Ld1 := ld) (p2 := a) (M := M) st64 h.la
  rw [f2, bI_s]
  by_cases hy : y = 0
  · rw [if_pos hy]; exact ⟨_, _, rfl, h⟩
  rw [if_neg hy]
  obtain ⟨Ma, f3, k3⟩ := tf_Past_keep (M := M)
  obtain ⟨z, Mb, f4, _, k4⟩ := tf_State_cookOne (X0 := 64) (Ld1 := ld) (p2 := a) (M := Ma) st64 h.la
  rw [f3, bI_s, f4, bI2_s]
  exact ⟨_, _, rfl, (h.kSt k3).kCX st64 k4⟩
theorem gm_cook (h : G0 ld M L) (a : Int32) : ∃ r M1, F_Mod_cook a M = some (r, M1) ∧ G0 ld M1 L := by
  unfold F_Mod_cook
  obtain ⟨x, f1, hx⟩ := tf_Mod_isDish (p0 := a) h.inv
  rw [f1, bI_s]
  rcases hx with ⟨hx, _⟩ | ⟨hx, hx2⟩
  · rw [if_pos hx]; exact ⟨_, _, rfl, h⟩
  rw [if_neg (by rw [hx]; decide)]
  have hd := h.inv.dishes (M 401 18).toNatClampNeg
  obtain ⟨Ma, f2, k2⟩ := tf_Mod_copies h.inv
  have ha := h.kM1 k2
  obtain ⟨y, Mb, f3, _, k3⟩ := tf_Mod_isInStore (p0 := a) ha.inv ⟨hx2.1, by omega⟩
  have hb := ha.kM1 k3
  rw [f2, bI_s, f3, bI2_s]
  by_cases hy : y = 0
  · rw [if_pos hy]; exact ⟨_, _, rfl, hb⟩
  rw [if_neg hy]
  obtain ⟨z, Mc, f4, _, k4⟩ := tf_Mod_cooks (p0 := a) hb.inv (by
    rw [k3.m (show MS1 401 18 = false from rfl), k3.m (show MS1 415 _ = false from rfl), k2.m (show MS1 401 18 = false from rfl), k2.m (show MS1 415 _ = false from rfl)]
    exact hx2)
  obtain ⟨Md, f5, hd⟩ := (hb.kM1 k4).rec
  rw [f4, bI2_s, f5, bI_s]
  exact ⟨_, _, rfl, hd⟩
theorem gc_eat (h : G0 ld M L) (a : Int32) : ∃ r M1, F_Main_eat ld a M = some (r, M1) ∧ G0 ld M1 L := by
  unfold F_Main_eat
  obtain ⟨x, f1, _⟩ := tf_Main_isOne (p1 := a) (p2 := M ld 2)
  rw [f1, bI_s]
  by_cases hx : x = 0
  · rw [if_pos hx]; exact ⟨_, _, rfl, h⟩
  rw [if_neg hx]
  by_cases hy : 0 ≤ M 64 3
  · rw [if_pos hy]
    obtain ⟨Ma, f3, k3⟩ := tf_Past_keep (M := M)
    have ha := h.kSt k3
    obtain ⟨Mb, f4, k4⟩ := tf_State_eatServed (X0 := 64) (p1 := a) (M := Ma) st64
    have hb := ha.kCX st64 k4
    obtain ⟨z, Mc, f5, _, k5⟩ := tf_State_freeOf (X0 := 64) (Ld1 := ld) (p2 := a) (p3 := 0) (M := Mb) st64 h.la
    rw [f3, bI_s, f4, bI_s, f5, bI2_s]
    exact ⟨_, _, rfl, hb.kC0 k5⟩
  · rw [if_neg hy]; exact ⟨_, _, rfl, h⟩
theorem fl_congr {M : gM} {a o n : Nat} {v w : Nat → Int32} (h : ∀ j, j < n → v j = w j) : fl M a o n v = fl M a o n w := by
  funext c j
  rw [fl_at, fl_at]
  by_cases q : c = a ∧ o ≤ j ∧ j < o + n
  · rw [if_pos q, if_pos q]; exact h _ (by omega)
  · rw [if_neg q, if_neg q]
theorem eat_loop {g : Nat} (hg : g < 4) : ∀ (d k f : Nat) (M : gM), k + d = 3 → H_Mod_eat_45 (nI g) (f + 1 + d) (nI k) M = J_Mod_eat_78 (nI g) (fl M 437 (19 + 3 * g + k) d (fun j => M 437 (12 + (k + j)))) := by
  intro d
  induction d with
  | zero =>
    intro k f M h
    show B_Mod_eat_45 (nI g) _ (nI k) M = _
    unfold B_Mod_eat_45
    rw [show (3 : Int32) = nI 3 from rfl, if_pos (by rw [nI_leI (by omega) (by omega)]; omega), fl_0]
  | succ d ih =>
    intro k f M h
    show B_Mod_eat_45 (nI g) (H_Mod_eat_45 (nI g) (f + 1 + d)) (nI k) M = _
    unfold B_Mod_eat_45
    rw [show (3 : Int32) = nI 3 from rfl, show (12 : Int32) = nI 12 from rfl, show (19 : Int32) = nI 19 from rfl, if_neg (by rw [nI_leI (by omega) (by omega)]; omega), nI_mul, nI_add, nI_add, nI_add, if_neg (nI_in (by omega) (by omega)), if_neg (nI_in (by omega) (by omega)), nI_clamp (by omega), nI_clamp (by omega), nmM_e, nmI_e, nI_1, ih (k + 1) f _ (by omega)]
    refine congrArg (J_Mod_eat_78 (nI g)) ?_
    rw [show 19 + 3 * g + (k + 1) = 19 + 3 * g + k + 1 by omega]
    refine (fl_congr (w := fun j => (fun j => M 437 (12 + (k + j))) (j + 1)) (fun j hj => ?_)).trans ?_
    · show uM M 437 _ _ 437 _ = M 437 _
      rw [uM_diff (by omega), show k + 1 + j = k + (j + 1) by omega]
    exact fl_cons (v := fun j => M 437 (12 + (k + j))) rfl
theorem G0.k437 (h : G0 ld M L) (e : Eo (fun c _ => c = 437) M M') : G0 ld M' L := h.keep (fun c j q => e c j (by have := (gl_num q).2; omega)) (by rw [e 401 57 (by omega)]; exact h.inv.undos)
theorem gm_eat (h : G0 ld M L) (a : Int32) : ∃ r M1, F_Mod_eat a M = some (r, M1) ∧ G0 ld M1 L := by
  unfold F_Mod_eat
  obtain ⟨x, f1, hx⟩ := tf_Mod_isGuest (p0 := a) h.inv
  rw [f1, bI_s]
  rcases hx with ⟨hx, _⟩ | ⟨hx, hx2⟩
  · rw [if_pos hx]; exact ⟨_, _, rfl, h⟩
  rw [if_neg (by rw [hx]; decide)]
  have hd := h.inv.guests (M 401 18).toNatClampNeg
  obtain ⟨Ma, f2, k2⟩ := tf_Mod_copies h.inv
  have ha := h.kM1 k2
  rw [f2, bI_s]
  by_cases hy : 0 ≤ Ma 437 11
  · rw [if_pos hy]
    obtain ⟨g, hg, rfl⟩ : ∃ g, g < 4 ∧ a = nI g := ⟨a.toInt.toNat, by omega, i_nI hx2.1⟩
    rw [show (15 : Int32) = nI 15 from rfl, nI_add, nI_clamp (by omega), if_neg (nI_inc (by omega) (by omega)), nmM_e]
    obtain ⟨q, hq⟩ := FU_k (1 + 3) (by omega)
    rw [hq, ← Nat.add_assoc, show (H_Mod_eat_45 (nI g) (q + 1 + 3) 0 : gM → Option (Int32 × gM)) = H_Mod_eat_45 (nI g) (q + 1 + 3) (nI 0) from rfl, eat_loop hg 3 0 _ _ (by omega)]
    unfold J_Mod_eat_78
    rw [show (31 : Int32) = nI 31 from rfl, nI_add, nI_clamp (by omega), if_neg (nI_inc (by omega) (by omega)), if_neg (nI_inc (by omega) (by omega)), nmM_e]
    have hb : G0 ld (uM (fl (uM Ma 437 (15 + g) (Ma 437 35)) 437 (19 + 3 * g + 0) 3 (fun j => uM Ma 437 (15 + g) (Ma 437 35) 437 (12 + (0 + j)))) 437 (31 + g) (fl (uM Ma 437 (15 + g) (Ma 437 35)) 437 (19 + 3 * g + 0) 3 (fun j => uM Ma 437 (15 + g) (Ma 437 35) 437 (12 + (0 + j))) 437 (31 + g) + 1)) L := ha.k437 (fun c j w => by rw [uM_diff (by omega), fl_out (by omega), uM_diff (by omega)])
    obtain ⟨Mc, f3, hc⟩ := hb.rec
    obtain ⟨z, Md, f4, _, k4⟩ := tf_Mod_freeBits (p0 := nI g) hc.inv (by rw [nI_toInt (by omega)]; omega)
    rw [f3, bI_s, f4, bI2_s]
    exact ⟨_, _, rfl, hc.kM0 k4⟩
  · rw [if_neg hy]; exact ⟨_, _, rfl, ha⟩
theorem gc_days (h : G0 ld M L) (a : Int32) : ∃ r M1, F_Main_days ld a M = some (r, M1) ∧ G0 ld M1 L := by
  unfold F_Main_days
  by_cases h0 : a < 0
  · rw [if_pos h0]; exact ⟨_, _, rfl, h⟩
  rw [if_neg h0]
  by_cases h1 : a ≤ 60
  · rw [if_pos h1]
    by_cases h2 : a ≤ 0
    · rw [if_pos h2]; exact ⟨_, _, rfl, h⟩
    · rw [if_neg h2]
      obtain ⟨Ma, f3, k3⟩ := tf_Past_keep (M := M)
      obtain ⟨Mb, f4, k4⟩ := tf_State_passDays (X0 := 64) (Ld1 := ld) (p2 := a) (M := Ma) st64 h.la
      rw [f3, bI_s, f4, bI_s]
      exact ⟨_, _, rfl, (h.kSt k3).kCX st64 k4⟩
  · rw [if_neg h1]; exact ⟨_, _, rfl, h⟩
theorem gm_days (h : G0 ld M L) (a : Int32) : ∃ r M1, F_Mod_days a M = some (r, M1) ∧ G0 ld M1 L := by
  unfold F_Mod_days
  obtain ⟨x, f1, hx⟩ := tf_Mod_in (p0 := a) (p1 := 0) (p2 := 60)
  rw [f1, bI_s]
  by_cases h0 : x = 0
  · rw [if_pos h0]; exact ⟨_, _, rfl, h⟩
  rw [if_neg h0]
  by_cases h1 : a = 0
  · rw [if_pos h1]; exact ⟨_, _, rfl, h⟩
  rw [if_neg h1]
  obtain ⟨Ma, f2, k2⟩ := tf_Mod_copies h.inv
  have ha := h.kM1 k2
  obtain ⟨Mb, f3, k3⟩ := tf_Mod_goes (p0 := a) ha.inv
  obtain ⟨Mc, f4, hc⟩ := (ha.kM1 k3).rec
  rw [f2, bI_s, f3, bI_s, f4, bI_s]
  exact ⟨_, _, rfl, hc⟩
theorem gc_undo (h : G0 ld M L) : ∃ r M1, F_Main_undo M = some (r, M1) ∧ G0 ld M1 L := by
  unfold F_Main_undo F_Past_takeBack
  have key : ∀ s0 : Int32, ¬ s0 < 0 → ∃ r M1, bI2 (J_Past_takeBack_18 64 s0 M) (fun r2 M3 => (if r2 = 0 ∨ r2 = 1 then some (r2, M3) else none)) = some (r, M1) ∧ G0 ld M1 L := fun s0 h0 => by
    unfold J_Past_takeBack_18
    by_cases h1 : M 78 2 = 0
    · rw [if_pos h1, bI2_s, if_pos (Or.inl rfl)]; exact ⟨_, _, rfl, h⟩
    rw [if_neg h1]
    by_cases h2 : 40 ≤ s0
    · rw [if_pos h2, bI2_s, if_pos (Or.inl rfl)]; exact ⟨_, _, rfl, h⟩
    rw [if_neg h2]
    obtain ⟨v, hv, rfl⟩ := nI_of h0
    rw [show (40 : Int32) = nI 40 from rfl, nI_leI (by omega) hv] at h2
    rw [nI_clamp hv, if_neg (nI_inc (by omega) hv), if_neg (nI_inc (by omega) hv)]
    obtain ⟨M1, e1, k1⟩ := tf_State_copyFrom (X0 := 64) (X1 := 80 + 7 * v) (M := M) st64 (stP (by omega))
    rw [e1, bI_s, nmM_e, nmM_e, bI2_s, if_pos (Or.inr rfl)]
    exact ⟨_, _, rfl, h.kSt (((k1.mono (CX_CSt st64)).wM rfl rfl).wM rfl rfl)⟩
  by_cases h0 : M 78 1 ≤ 0
  · rw [if_pos h0]; exact key 39 (by decide)
  · rw [if_neg h0]
    refine key _ ?_
    rw [i_le, Int32.toInt_zero] at h0
    rw [i_lt, Int32.toInt_zero, i_subE (x := M 78 1) (y := 1) (a := (M 78 1).toInt) (b := 1) rfl (by decide) (by have := i_b (M 78 1); omega)]
    omega
theorem gm_undo (h : G0 ld M L) : ∃ r M1, F_Mod_undo M = some (r, M1) ∧ G0 ld M1 L := by
  obtain ⟨u, hu, hM⟩ := h.u57
  by_cases h0 : u = 0
  · unfold F_Mod_undo
    rw [hM, h0, if_pos (show nI 0 = 0 from rfl)]
    exact ⟨_, _, rfl, h⟩
  · obtain ⟨v, rfl⟩ : ∃ v, u = v + 1 := ⟨u - 1, by omega⟩
    obtain ⟨M', e1, e2, e3, e4⟩ := s_undo (u := v) (by omega) hM
    refine ⟨_, _, e1, h.keep (fun c j q => e4 c j (by have := (gl_num q).2; omega)) ?_⟩
    rw [e2, nI_toInt (by omega)]
    omega
theorem sl_or {q s : Nat} (hq : q < 8) (hs : s < 3) : (nI q ||| (1 <<< (nI s &&& 31))) = nI (q ||| 2 ^ s) ∧ (q ||| 2 ^ s) < 8 ∧ ∀ t, t < 3 → (q ||| 2 ^ s).testBit t = (t == s || q.testBit t) :=
  (by decide +kernel : ∀ q, q < 8 → ∀ s, s < 3 → (nI q ||| (1 <<< (nI s &&& 31))) = nI (q ||| 2 ^ s) ∧ (q ||| 2 ^ s) < 8 ∧ ∀ t, t < 3 → (q ||| 2 ^ s).testBit t = (t == s || q.testBit t)) q hq s hs
theorem sl_bit {q s : Nat} (hq : q < 8) (hs : s < 3) : F_Main_hasBit (nI q) (nI s) = some (if q.testBit s then 1 else 0) :=
  (by decide +kernel : ∀ q, q < 8 → ∀ s, s < 3 → F_Main_hasBit (nI q) (nI s) = some (if q.testBit s then 1 else 0)) q hq s hs
/-- hold: of three slots -/
theorem g_hold (h : G0 ld M L) (a : Int32) : ∃ r M1 r' M2, F_Main_hold a M = some (r, M1) ∧ F_Mod_hold a M1 = some (r', M2) ∧ G0 ld M2 L ∧ r = r' := by
  by_cases hs : ∃ s, s < 3 ∧ a = nI s
  · obtain ⟨s, hs, rfl⟩ := hs
    obtain ⟨hT, hld, hWc, hWm, hI, hD, h11, hTd, ⟨q, hq, hq1, hq2⟩⟩ := id h
    obtain ⟨M1, e1, k1⟩ := tf_State_copyFrom (X0 := 362 + 7 * s) (X1 := 64) (M := M) (stS hs) st64
    have k2 := k1.mono (CX_CSt (stS hs))
    have e360 : M1 360 1 = nI q := (k2.m (show CSt 360 1 = false from rfl)).trans hq1
    obtain ⟨o1, o2, o3⟩ := sl_or hq hs
    have c1 : F_Main_hold (nI s) M = some (1, uM M1 360 1 (nI (q ||| 2 ^ s))) := by
      unfold F_Main_hold F_Slots_keep
      rw [if_neg (nI_pos (by omega)), if_neg (by rw [show (3 : Int32) = nI 3 from rfl, nI_leI (by omega) (by omega)]; omega), nI_clamp (by omega), if_neg (nI_inc (by omega) (by omega)), if_neg (nI_inc (by omega) (by omega)), e1, bI_s, e360, o1, nmM_e, bI2_s, if_pos (Or.inr rfl)]
    obtain ⟨M2, f1, f2, f3, f4⟩ := s_hold (M := uM M1 360 1 (nI (q ||| 2 ^ s))) hs
    refine ⟨_, _, _, _, c1, f1, ?_, rfl⟩
    have ha := h.kSt k2
    obtain ⟨ba, na, ta1, ta2⟩ := ha.1
    obtain ⟨hld, hWc, hWm, hI, ⟨lv, hlv, h18, hD⟩, h11, hTd, hSl⟩ := ha.2
    have fr : ∀ c j, ¬ (c = 446 ∨ c = 445 ∨ (c = 360 ∧ j = 1)) → M2 c j = M1 c j := fun c j w => by rw [f4 c j (by omega), uM_diff (by omega)]
    refine ⟨⟨ba, na, ta1.keep (fr 1 1 (by omega)) (fun j => fr 2 j (by omega)), ta2.keep (fr 401 2 (by omega)) (fun j => fr 402 j (by omega))⟩, hld, hWc, hWm, hI.keep2 (fr 401 18 (by omega)) (fr 401 64 (by omega)) (fun c j x y => fr c j (by omega)) (fun i => fr 441 i (by omega)) (by rw [fr 401 57 (by omega)]; exact hI.undos), ⟨lv, hlv, (fr 401 18 (by omega)).trans h18, ?_⟩, by rw [fr 0 11 (by omega), fr 401 17 (by omega)]; exact h11, hTd.keep2 (fr 383 3 (by omega)) (fr 401 64 (by omega)) (fun c j x => fr c j (by omega)), ⟨q ||| 2 ^ s, o2, by rw [f4 360 1 (by omega), uM_same], fun t ht => ?_⟩⟩
    · have hl2 := La_cases hld
      exact hD.keepR (fun c j x y => fr c j (by omega)) (fun w hw j => ⟨fr _ j (by omega), fr _ j (by omega)⟩) (fun c j x => fr c j (by have := sideC_r x; omega))
    · rw [o3 t ht]
      by_cases hts : t = s
      · rw [hts, f2, if_pos (by simp)]
      · rw [f4 445 t (by omega), uM_diff (by omega), k2.m (show CSt 445 t = false from rfl), hq2 t ht]
        have e : (t == s) = false := by simpa using hts
        rw [e, Bool.false_or]
  · have c1 : F_Main_hold a M = some (0, M) := by
      unfold F_Main_hold F_Slots_keep
      by_cases h0 : a < 0
      · rw [if_pos h0, bI2_s, if_pos (Or.inl rfl)]
      · rw [if_neg h0, if_pos, bI2_s, if_pos (Or.inl rfl)]
        obtain ⟨k, hk, rfl⟩ := nI_of h0
        rw [show (3 : Int32) = nI 3 from rfl, nI_leI (by omega) hk]
        refine Nat.le_of_not_lt (fun w => hs ⟨k, w, rfl⟩)
    have c2 : F_Mod_hold a M = some (0, M) := by
      unfold F_Mod_hold
      rcases in_cases a (a := 0) (b := 2) (by decide) (by decide) with ⟨w, _⟩ | ⟨k, _, w, e, _⟩
      · rw [show F_Mod_in a 0 2 = F_Mod_in a (nI 0) (nI 2) from rfl, w, bI_s, if_pos rfl]
      · exact absurd ⟨k, by omega, e⟩ hs
    exact ⟨_, _, _, _, c1, c2, h, rfl⟩
theorem g_restore (h : G0 ld M L) (a : Int32) : ∃ r M1 r' M2, F_Main_restore a M = some (r, M1) ∧ F_Mod_restore a M1 = some (r', M2) ∧ G0 ld M2 L ∧ r = r' := by
  by_cases hs : ∃ s, s < 3 ∧ a = nI s
  · obtain ⟨s, hs, rfl⟩ := hs
    obtain ⟨hT, hld, hWc, hWm, hI, hD, h11, hTd, ⟨q, hq, hq1, hq2⟩⟩ := id h
    by_cases hb : q.testBit s = true
    · obtain ⟨M1, e1, k1⟩ := tf_State_copyFrom (X0 := 64) (X1 := 362 + 7 * s) (M := M) st64 (stS hs)
      have k2 := ((k1.mono (CX_CSt st64)).wM (M2 := uM M1 78 1 0) (show CSt 78 1 = true from rfl) rfl).wM (M2 := uM (uM M1 78 1 0) 78 2 0) (show CSt 78 2 = true from rfl) rfl
      have c1 : F_Main_restore (nI s) M = some (1, uM (uM M1 78 1 0) 78 2 0) := by
        unfold F_Main_restore F_Slots_bring F_Past_clear
        rw [if_neg (nI_pos (by omega)), if_neg (by rw [show (3 : Int32) = nI 3 from rfl, nI_leI (by omega) (by omega)]; omega), nI_clamp (by omega), if_neg (nI_inc (by omega) (by omega)), hq1, sl_bit hq hs, bI_s, if_pos hb, if_neg (show ¬ (1 : Int32) = 0 by decide), if_neg (nI_inc (by omega) (by omega)), e1, bI_s, bI2_s, if_neg (show ¬ (1 : Int32) = 0 by decide), nmM_e, nmM_e, bI_s]
      have ha := h.kSt k2
      obtain ⟨M2, f1, f2, f3, f4⟩ := s_restore (M := uM (uM M1 78 1 0) 78 2 0) hs (by rw [k2.m (show CSt 445 s = false from rfl), hq2 s hs, if_pos hb]; decide)
      exact ⟨_, _, _, _, c1, f1, ha.keep (fun c j w => f4 c j (by have := (gl_num w).2; omega)) (by rw [f2]; decide), rfl⟩
    · have hb' : ¬ (q.testBit s = true) := hb
      have c1 : F_Main_restore (nI s) M = some (0, M) := by
        unfold F_Main_restore F_Slots_bring
        rw [if_neg (nI_pos (by omega)), if_neg (by rw [show (3 : Int32) = nI 3 from rfl, nI_leI (by omega) (by omega)]; omega), if_neg (by rw [nI_clamp (by omega)]; exact nI_inc (by omega) (by omega)), hq1, sl_bit hq hs, bI_s, if_neg hb', if_pos rfl, bI2_s, if_pos rfl]
      exact ⟨_, _, _, _, c1, s_restore0 hs (by rw [hq2 s hs, if_neg hb']), h, rfl⟩
  · have c1 : F_Main_restore a M = some (0, M) := by
      unfold F_Main_restore F_Slots_bring
      by_cases h0 : a < 0
      · rw [if_pos h0, bI2_s, if_pos rfl]
      · rw [if_neg h0, if_pos, bI2_s, if_pos rfl]
        obtain ⟨k, hk, rfl⟩ := nI_of h0
        rw [show (3 : Int32) = nI 3 from rfl, nI_leI (by omega) hk]
        refine Nat.le_of_not_lt (fun w => hs ⟨k, w, rfl⟩)
    have c2 : F_Mod_restore a M = some (0, M) := by
      unfold F_Mod_restore
      rcases in_cases a (a := 0) (b := 2) (by decide) (by decide) with ⟨w, _⟩ | ⟨k, _, w, e, _⟩
      · rw [show F_Mod_in a 0 2 = F_Mod_in a (nI 0) (nI 2) from rfl, w, bI_s, if_pos rfl]
      · exact absurd ⟨k, by omega, e⟩ hs
    exact ⟨_, _, _, _, c1, c2, h, rfl⟩
theorem g_place (h : G0 ld M L) : ∃ r r', F_Main_place M = some r ∧ F_Mod_place M = some r' ∧ G0 ld M L ∧ r = r' := ⟨_, _, rfl, rfl, h, h.2.2.2.2.2.2.1⟩
theorem g_feed (h : G0 ld M L) (a b c d e : Int32) : ∃ r M1 r' M2, F_Main_feed a b c d e M = some (r, M1) ∧ F_Mod_feed a b c d e M1 = some (r', M2) ∧ G0 ld M2 L ∧ r = r' ∧ ∀ x j, sV x j → M2 x j = M x j := by
  obtain ⟨⟨q, t, hT, hQ⟩, hr⟩ := id h
  by_cases ht : t + 20 ≤ 2000
  · have c1 := s_Main_feed (a := a) (b := b) (c := c) (d := d) (e := e) hT.1 ht
    have tf : ∀ x j, x ≠ 1 → x ≠ 2 → tw4 e (t + 16) (tw4 d (t + 12) (tw4 c (t + 8) (tw4 b (t + 4) (tw4 a t M)))) x j = M x j := fun x j u v => by
      rw [tw4_o (by omega) (by omega), tw4_o (by omega) (by omega), tw4_o (by omega) (by omega), tw4_o (by omega) (by omega), tw4_o (by omega) (by omega)]
    have hT2 := ((((hT.w a (by omega)).w b (by omega)).w c (by omega)).w d (by omega)).w e (by omega)
    have hQ1 : Tq q t (tw4 e (t + 16) (tw4 d (t + 12) (tw4 c (t + 8) (tw4 b (t + 4) (tw4 a t M))))) := hQ.keep (tf 401 2 (by decide) (by decide)) (fun j => tf 402 j (by decide) (by decide))
    have c2 := s_Mod_feed (a := a) (b := b) (c := c) (d := d) (e := e) hQ1.1 ht
    have hQ2 := ((((hQ1.w a).w b).w c).w d).w e
    have mf : ∀ (M0 : gM) x j, x ≠ 402 → ¬ (x = 401 ∧ j = 2) → mp4 e (t + 16) (mp4 d (t + 12) (mp4 c (t + 8) (mp4 b (t + 4) (mp4 a t M0)))) x j = M0 x j := fun M0 x j u v => by
      rw [mp4_o (by omega) (by omega), mp4_o (by omega) (by omega), mp4_o (by omega) (by omega), mp4_o (by omega) (by omega), mp4_o (by omega) (by omega)]
    refine ⟨_, _, _, _, c1, c2, ⟨⟨_, _, hT2.keep (mf _ 1 1 (by decide) (by decide)) (fun j => mf _ 2 j (by decide) (by omega)), hQ2⟩, hr.keep (fun x j w => ?_) ?_⟩, rfl, fun x j w => by
      have := sV_n w
      rw [mf _ x j (by omega) (by omega), tf x j (by omega) (by omega)]⟩
    · have hw := (gl_num (c := x) (j := j) (by rw [w]; rfl)).2
      have hx : x ≠ 1 ∧ x ≠ 2 ∧ x ≠ 402 ∧ ¬ (x = 401 ∧ j = 2) := by
        refine ⟨?_, ?_, ?_, ?_⟩
        · rintro rfl; exact absurd w (by simp [gl])
        · rintro rfl; exact absurd w (by simp [gl])
        · rintro rfl; exact absurd w (by simp [gl])
        · rintro ⟨rfl, rfl⟩; exact absurd w (by decide)
      rw [mf _ x j hx.2.2.1 hx.2.2.2, tf x j hx.1 hx.2.1]
    · rw [mf _ 401 57 (by decide) (by decide), tf 401 57 (by decide) (by decide)]; exact h.inv.undos
  · exact ⟨_, _, _, _, s_Main_feed' hT.1 hT.2.1 ht, s_Mod_feed' hQ.1 hT.2.1 ht, h, rfl, fun _ _ _ => rfl⟩
theorem g_back (h : G0 ld M L) (a : Int32) : ∃ r M1 r' M2, F_Main_back a M = some (r, M1) ∧ F_Mod_back a M1 = some (r', M2) ∧ G0 ld M2 L ∧ r = r' ∧ ∀ x j, sV x j → M2 x j = M x j := by
  obtain ⟨⟨q, t, hT, hQ⟩, hr⟩ := id h
  have ht := hT.2.1
  unfold F_Main_back F_Mod_back
  rw [hT.1]
  by_cases h0 : a < 0
  · rw [if_pos h0]
    refine ⟨_, _, _, _, rfl, ?_, h, rfl, fun _ _ _ => rfl⟩
    rw [if_pos h0]
  rw [if_neg h0]
  obtain ⟨k, hk, rfl⟩ := nI_of h0
  by_cases h1 : k ≤ t
  · rw [if_pos (by rw [nI_leI (by omega) (by omega)]; exact h1), nI_sub h1, nmM_e]
    have e2 : uM M 1 1 (nI (t - k)) 401 2 = nI t := (uM_diff (by omega)).trans hQ.1
    refine ⟨_, _, nI (t - k), uM (uM M 1 1 (nI (t - k))) 401 2 (nI (t - k)), rfl, ?_, ⟨⟨q, t - k, ⟨?_, by omega, fun j hj => ?_⟩, ⟨uM_same, fun j hj => ?_⟩⟩, hr.keep (fun x j w => ?_) ?_⟩, uM_same, fun x j w => by
      have := sV_n w
      rw [uM_diff (by omega), uM_diff (by omega)]⟩
    · rw [if_neg h0, e2, if_pos (by rw [nI_leI (by omega) (by omega)]; exact h1), nI_sub h1, nmM_e, uM_same]
    · rw [uM_diff (by omega), uM_same]
    · rw [uM_diff (by omega), uM_diff (by omega)]; exact hT.2.2 j (by omega)
    · rw [uM_diff (by omega), uM_diff (by omega)]; exact hQ.2 j (by omega)
    · have hx : ¬ (x = 1 ∧ j = 1) ∧ ¬ (x = 401 ∧ j = 2) := by
        refine ⟨?_, ?_⟩
        · rintro ⟨rfl, rfl⟩; exact absurd w (by decide)
        · rintro ⟨rfl, rfl⟩; exact absurd w (by decide)
      rw [uM_diff hx.2, uM_diff hx.1]
    · rw [uM_diff (by omega), uM_diff (by omega)]; exact h.inv.undos
  · have e : ¬ nI k ≤ nI t := by rw [nI_leI (by omega) (by omega)]; exact h1
    rw [if_neg e]
    refine ⟨_, _, _, _, rfl, ?_, h, rfl, fun _ _ _ => rfl⟩
    rw [if_neg h0, hQ.1, if_neg e]
theorem Gr.told (hr : Gr ld M L) {M' : gM} (e : ∀ c j, gl c j = true → ¬ (c = 383 ∨ (384 ≤ c ∧ c ≤ 386) ∨ (c = 401 ∧ j = 64) ∨ (441 ≤ c ∧ c ≤ 443)) → M' c j = M c j) (h57 : M' 401 57 = M 401 57) (hT : Td M') : Gr ld M' L := by
  obtain ⟨h1, h2, h3, h4, ⟨lv, h5, h6, h7⟩, h8, h9, h10⟩ := hr
  have h18 : M' 401 18 = nI lv := (e 401 18 rfl (by omega)).trans h6
  have hD : Dl ld lv M' := h7.keepR (fun c j a b => e c j (gl_Lc h1 a b) (by have := La_cases h1; omega)) (fun w hw j => ⟨e _ _ (gl_Lw h1 hw).1 (by have := La_cases h1; omega), e _ _ (gl_Lw h1 hw).2 (by have := La_cases h1; omega)⟩) (fun c j q => e c j (gl_M (sideC_r q).1 (sideC_r q).2) (by have := sideC_r q; omega))
  have hC : Cb M' := by
    have e2 : ∀ c j, 411 ≤ c → c ≤ 432 → M' c j = M c j := fun c j a b => e c j (gl_M a b) (by omega)
    have hc := h4.cb
    exact ⟨fun i => by rw [e2 411 i (by omega) (by omega)]; exact hc.1 i, fun i => by rw [e2 415 i (by omega) (by omega)]; exact hc.2.1 i, fun i => by rw [e2 418 i (by omega) (by omega)]; exact hc.2.2.1 i, fun i => by rw [e2 420 i (by omega) (by omega)]; exact hc.2.2.2 i⟩
  exact ⟨h1, h2, h3, Inv_of h5 h18 hD hC (by rw [h57]; exact h4.undos) hT, ⟨lv, h5, h18, hD⟩, by rw [e 0 11 rfl (by omega), e 401 17 rfl (by omega)]; exact h8, hT, h10.keep2 (e 360 1 rfl (by omega)) (fun j => e 445 j rfl (by omega))⟩
theorem g_forget (h : G0 ld M L) : ∃ r M1 r' M2, F_Main_forget M = some (r, M1) ∧ F_Mod_forget M1 = some (r', M2) ∧ G0 ld M2 L ∧ r = r' ∧ ∀ x j, sV x j → M2 x j = M x j := by
  obtain ⟨⟨q, t, hT, hQ⟩, hr⟩ := id h
  obtain ⟨k, h1, h2, h3, h4⟩ := hr.2.2.2.2.2.2.1
  unfold F_Main_forget F_Mod_forget F_Told_clear
  rw [h2, nmI_e, nmM_e, bI_s]
  refine ⟨_, _, _, _, rfl, rfl, ⟨⟨q, t, hT.keep ?_ (fun j => ?_), hQ.keep ?_ (fun j => ?_)⟩, hr.told (fun c j _ w => ?_) ?_ ⟨0, by omega, ?_, uM_same, fun i hi => absurd hi (Nat.not_lt_zero _)⟩⟩, ?_, fun x j w => by
    have := sV_n w
    rw [uM_diff (by omega), uM_diff (by omega)]⟩
  · rw [uM_diff (by omega), uM_diff (by omega)]
  · rw [uM_diff (by omega), uM_diff (by omega)]
  · rw [uM_diff (by omega), uM_diff (by omega)]
  · rw [uM_diff (by omega), uM_diff (by omega)]
  · rw [uM_diff (by omega), uM_diff (by omega)]
  · rw [uM_diff (by omega), uM_diff (by omega)]
  · rw [uM_diff (by omega), uM_same]; rfl
  · rw [uM_diff (by omega), h3]
theorem one_in0 (p : Int32) {n : Nat} (hn : n < 2 ^ 29) : (F_Main_isOne p (nI (n + 1)) = some 0 ∧ F_Mod_in p 0 (nI n) = some 0) ∨ ∃ k, k ≤ n ∧ p = nI k ∧ F_Main_isOne p (nI (n + 1)) = some 1 ∧ F_Mod_in p 0 (nI n) = some 1 := by
  have e : nI (n + 1) - 1 = nI n := by rw [show (1 : Int32) = nI 1 from rfl, nI_sub (by omega), Nat.add_sub_cancel]
  rcases one_c2 p (n := n + 1) (by omega) with h | ⟨k, h1, h2, h3, h4⟩
  · rw [e] at h; exact Or.inl h
  · rw [e] at h4; exact Or.inr ⟨k, by omega, h2, h3, h4⟩
theorem g_tell (h : G0 ld M L) (a b c : Int32) : ∃ r M1 r' M2, F_Main_tell a b c M = some (r, M1) ∧ F_Mod_tell a b c M1 = some (r', M2) ∧ G0 ld M2 L ∧ r = r' ∧ ∀ x j, sV x j → M2 x j = M x j := by
  obtain ⟨⟨q, t, hT, hQ⟩, hr⟩ := id h
  obtain ⟨k, h1, h2, h3, h4⟩ := hr.2.2.2.2.2.2.1
  have bad : F_Main_tell a b c M = some (-1, M) → F_Mod_tell a b c M = some (-1, M) → ∃ r M1 r' M2, F_Main_tell a b c M = some (r, M1) ∧ F_Mod_tell a b c M1 = some (r', M2) ∧ G0 ld M2 L ∧ r = r' ∧ ∀ x j, sV x j → M2 x j = M x j := fun x y => ⟨_, _, _, _, x, y, h, rfl, fun _ _ _ => rfl⟩
  have e3 : (3 : Int32) = nI (2 + 1) := rfl
  have e10 : (10 : Int32) = nI (9 + 1) := rfl
  have e100 : (100 : Int32) = nI (99 + 1) := rfl
  have m20 : k = 20 → F_Mod_tell a b c M = some (-1, M) := fun e => by
    unfold F_Mod_tell
    rw [h3, e, if_pos (show nI 20 = 20 from rfl)]
  have n20 : k ≠ 20 → ¬ nI k = 20 := fun e w => e ((nI_eq (by omega) (by decide)).mp (w.trans (show (20 : Int32) = nI 20 from rfl)))
  rcases one_in0 a (n := 2) (by decide) with ⟨a1, a2⟩ | ⟨x, a0, rfl, a1, a2⟩
  · refine bad ?_ ?_
    · unfold F_Main_tell
      rw [e3, a1, bI_s, if_pos rfl]
    · by_cases e : k = 20
      · exact m20 e
      · unfold F_Mod_tell
        rw [h3, if_neg (n20 e), show (2 : Int32) = nI 2 from rfl, a2, bI_s, if_pos rfl]
  rcases one_in0 b (n := 9) (by decide) with ⟨b1, b2⟩ | ⟨y, b0, rfl, b1, b2⟩
  · refine bad ?_ ?_
    · unfold F_Main_tell
      rw [e3, a1, bI_s, if_neg (by decide), e10, b1, bI_s, if_pos rfl]
    · by_cases e : k = 20
      · exact m20 e
      · unfold F_Mod_tell
        rw [h3, if_neg (n20 e), show (2 : Int32) = nI 2 from rfl, a2, bI_s, if_neg (by decide), show (9 : Int32) = nI 9 from rfl, b2, bI_s, if_pos rfl]
  rcases one_in0 c (n := 99) (by decide) with ⟨c1, c2⟩ | ⟨z, c0, rfl, c1, c2⟩
  · refine bad ?_ ?_
    · unfold F_Main_tell
      rw [e3, a1, bI_s, if_neg (by decide), e10, b1, bI_s, if_neg (by decide), e100, c1, bI_s, if_pos rfl]
    · by_cases e : k = 20
      · exact m20 e
      · unfold F_Mod_tell
        rw [h3, if_neg (n20 e), show (2 : Int32) = nI 2 from rfl, a2, bI_s, if_neg (by decide), show (9 : Int32) = nI 9 from rfl, b2, bI_s, if_neg (by decide), show (99 : Int32) = nI 99 from rfl, c2, bI_s, if_pos rfl]
  by_cases e : k = 20
  · refine bad ?_ (m20 e)
    unfold F_Main_tell F_Told_add
    rw [e3, a1, bI_s, if_neg (by decide), e10, b1, bI_s, if_neg (by decide), e100, c1, bI_s, if_neg (by decide), h2, if_neg (by rw [e]; decide), bI2_s]
  have hk : k < 20 := by omega
  have k1 : F_Main_tell (nI x) (nI y) (nI z) M = some (nI k, uM (uM (uM (uM M 384 k (nI x)) 385 k (nI y)) 386 k (nI z)) 383 3 (nI (k + 1))) := by
    unfold F_Main_tell F_Told_add
    rw [e3, a1, bI_s, if_neg (by decide), e10, b1, bI_s, if_neg (by decide), e100, c1, bI_s, if_neg (by decide), h2, if_pos (by rw [show (20 : Int32) = nI 20 from rfl, nI_ltI (by omega) (by omega)]; exact hk), s_put hk (by decide), bI_s, uM_diff (by omega), h2, s_put hk (by decide), bI_s, uM_diff (by omega), uM_diff (by omega), h2, s_put hk (by decide), bI_s, uM_diff (by omega), uM_diff (by omega), uM_diff (by omega), h2, nI_1, nmM_e, uM_same, show (1 : Int32) = nI 1 from rfl, nI_sub (by omega), Nat.add_sub_cancel, bI2_s]
  have fr : ∀ c j, ¬ (c = 383 ∨ (384 ≤ c ∧ c ≤ 386)) → uM (uM (uM (uM M 384 k (nI x)) 385 k (nI y)) 386 k (nI z)) 383 3 (nI (k + 1)) c j = M c j := fun c j w => by
    rw [uM_diff (by omega), uM_diff (by omega), uM_diff (by omega), uM_diff (by omega)]
  have q3 := (fr 401 64 (by omega)).trans h3
  generalize hM1 : uM (uM (uM (uM M 384 k (nI x)) 385 k (nI y)) 386 k (nI z)) 383 3 (nI (k + 1)) = M1 at k1 fr q3
  have k2 : F_Mod_tell (nI x) (nI y) (nI z) M1 = some (nI k, uM (uM (uM (uM M1 441 k (nI x)) 442 k (nI y)) 443 k (nI z)) 401 64 (nI (k + 1))) := by
    unfold F_Mod_tell
    rw [q3, if_neg (n20 e), show (2 : Int32) = nI 2 from rfl, a2, bI_s, if_neg (by decide), show (9 : Int32) = nI 9 from rfl, b2, bI_s, if_neg (by decide), show (99 : Int32) = nI 99 from rfl, c2, bI_s, if_neg (by decide), nI_clamp (by omega), if_neg (nI_inc hk (by omega)), nmM_e, uM_diff (by omega), q3, nI_clamp (by omega), if_neg (nI_inc hk (by omega)), nmM_e, uM_diff (by omega), uM_diff (by omega), q3, nI_clamp (by omega), if_neg (nI_inc hk (by omega)), nmM_e, uM_diff (by omega), uM_diff (by omega), uM_diff (by omega), q3, nI_1, nmM_e, uM_same, show (1 : Int32) = nI 1 from rfl, nI_sub (by omega), Nat.add_sub_cancel]
  have fr2 : ∀ c j, ¬ ((441 ≤ c ∧ c ≤ 443) ∨ (c = 401 ∧ j = 64)) → uM (uM (uM (uM M1 441 k (nI x)) 442 k (nI y)) 443 k (nI z)) 401 64 (nI (k + 1)) c j = M1 c j := fun c j w => by
    rw [uM_diff (by omega), uM_diff (by omega), uM_diff (by omega), uM_diff (by omega)]
  refine ⟨_, _, _, _, k1, k2, ⟨⟨q, t, hT.keep ((fr2 _ _ (by omega)).trans (fr _ _ (by omega))) (fun j => (fr2 _ _ (by omega)).trans (fr _ _ (by omega))), hQ.keep ((fr2 _ _ (by omega)).trans (fr _ _ (by omega))) (fun j => (fr2 _ _ (by omega)).trans (fr _ _ (by omega)))⟩, hr.told (fun c j _ w => (fr2 _ _ (by omega)).trans (fr _ _ (by omega))) ((fr2 _ _ (by omega)).trans (fr _ _ (by omega))) ⟨k + 1, by omega, ?_, uM_same, fun i hi => ?_⟩⟩, rfl, fun x j w => by
    have := sV_n w
    exact (fr2 _ _ (by omega)).trans (fr _ _ (by omega))⟩
  · rw [fr2 383 3 (by omega), ← hM1, uM_same]
  · by_cases hik : i = k
    · refine ⟨x, y, z, a0, b0, c0, ?_, ?_, ?_, ?_, ?_, ?_⟩
      · rw [hik, fr2 384 k (by omega), ← hM1, uM_diff (by omega), uM_diff (by omega), uM_diff (by omega), uM_same]
      · rw [hik, uM_diff (by omega), uM_diff (by omega), uM_diff (by omega), uM_same]
      · rw [hik, fr2 385 k (by omega), ← hM1, uM_diff (by omega), uM_diff (by omega), uM_same]
      · rw [hik, uM_diff (by omega), uM_diff (by omega), uM_same]
      · rw [hik, fr2 386 k (by omega), ← hM1, uM_diff (by omega), uM_same]
      · rw [hik, uM_diff (by omega), uM_same]
    · obtain ⟨f, g, w, y1, y2, y3, y4, y5, y6, y7, y8, y9⟩ := h4 i (by omega)
      have z1 : ∀ c, (384 ≤ c ∧ c ≤ 386) → M1 c i = M c i := fun c hc => by
        rw [← hM1, uM_diff (by omega), uM_diff (by omega), uM_diff (by omega), uM_diff (by omega)]
      have z2 : ∀ c, (441 ≤ c ∧ c ≤ 443) → uM (uM (uM (uM M1 441 k (nI x)) 442 k (nI y)) 443 k (nI z)) 401 64 (nI (k + 1)) c i = M1 c i := fun c hc => by
        rw [uM_diff (by omega), uM_diff (by omega), uM_diff (by omega), uM_diff (by omega)]
      exact ⟨f, g, w, y1, y2, y3, by rw [fr2 384 i (by omega), z1 384 (by omega)]; exact y4, by rw [z2 441 (by omega), fr 441 i (by omega)]; exact y5, by rw [fr2 385 i (by omega), z1 385 (by omega)]; exact y6, by rw [z2 442 (by omega), fr 442 i (by omega)]; exact y7, by rw [fr2 386 i (by omega), z1 386 (by omega)]; exact y8, by rw [z2 443 (by omega), fr 443 i (by omega)]; exact y9⟩
theorem g_amount (h : G0 ld M L) (a b : Int32) : ∃ r r', F_Main_amount ld a b M = some r ∧ F_Mod_amount a b M = some r' ∧ G0 ld M L ∧ r = r' := by
  obtain ⟨hT, hld, hWc, hWm, hI, ⟨lv, hlv, h18, ⟨nf, nd, ng, ne, cc, ii, ⟨⟨f1, f2, f3⟩, ⟨s1, s2, s3⟩, _⟩, ⟨_, d2, _⟩, _⟩⟩, _⟩ := id h
  unfold F_Main_amount F_Mod_amount F_Mod_isDish F_Mod_isFood F_Land_inDish
  rw [h18, nI_clamp (by omega), if_neg (nI_inc (by omega) (by omega)), if_neg (nI_inc (by omega) (by omega)), s1, s2, f1, f2]
  rcases one_c2 a (n := nd) (by omega) with ⟨a1, a2⟩ | ⟨x, a0, rfl, a1, a2⟩
  · rw [a1, a2, bI_s, if_pos rfl, bI_s, if_pos (Or.inl rfl), bI_s, if_pos rfl]
    exact ⟨_, _, rfl, rfl, h, rfl⟩
  rw [a1, a2, bI_s, if_neg (show ¬ (1 : Int32) = 0 by decide), bI_s, if_pos (Or.inr rfl), bI_s, if_neg (show ¬ (1 : Int32) = 0 by decide)]
  rcases one_c2 b (n := nf) (by omega) with ⟨b1, b2⟩ | ⟨y, b0, rfl, b1, b2⟩
  · rw [b1, b2, bI_s, if_pos rfl, bI_s, if_pos (Or.inl rfl), bI_s, if_pos rfl]
    exact ⟨_, _, rfl, rfl, h, rfl⟩
  rw [b1, b2, bI_s, if_neg (show ¬ (1 : Int32) = 0 by decide), bI_s, if_pos (Or.inr rfl), bI_s, if_neg (show ¬ (1 : Int32) = 0 by decide), show (6 : Int32) = nI 6 from rfl, show (5 : Int32) = nI 5 from rfl, nI_mul, nI_add, nI_mul, nI_add, nI_mul, nI_add, s_at (by omega) (by decide), bI_s, bI_s, if_neg (nI_in (by omega) (by omega)), nI_clamp (by omega)]
  refine ⟨_, _, rfl, rfl, h, ?_⟩
  obtain ⟨_, A, w2, _⟩ := d2.1 x a0
  rw [Nat.mul_comm x 6, (w2 y (by omega)).1, (w2 y (by omega)).2.1]
end GG

theorem g_food {ld : Nat} {M : gM} {L : gL} (h : G0 ld M L) (a b : Int32) : ∃ r r', F_Main_food ld a b M = some r ∧ F_Mod_food a b M = some r' ∧ G0 ld M L := by
  obtain ⟨r, e1, -⟩ := tf_Main_food (p1 := a) (p2 := b) (M := M) h.la
  obtain ⟨r', e2, -⟩ := tf_Mod_food (p0 := a) (p1 := b) h.inv
  exact ⟨r, r', e1, e2, h⟩
theorem g_count {ld : Nat} {M : gM} {L : gL} (h : G0 ld M L) (a : Int32) : ∃ r r', F_Main_count ld a M = some r ∧ F_Mod_count a M = some r' ∧ G0 ld M L := by
  obtain ⟨r, e1, -⟩ := tf_Main_count (p1 := a) (M := M) h.la
  obtain ⟨r', e2, -⟩ := tf_Mod_count (p0 := a) h.inv
  exact ⟨r, r', e1, e2, h⟩
theorem g_dish {ld : Nat} {M : gM} {L : gL} (h : G0 ld M L) (a b : Int32) : ∃ r M1 r' M2, F_Main_dish ld a b M = some (r, M1) ∧ F_Mod_dish a b M1 = some (r', M2) ∧ G0 ld M2 L := by
  obtain ⟨r, M1, e1, -, k1⟩ := tf_Main_dish (p1 := a) (p2 := b) (M := M) h.la
  have h1 := h.kC0 k1
  obtain ⟨r', M2, e2, -, k2⟩ := tf_Mod_dish (p0 := a) (p1 := b) h1.inv
  exact ⟨r, M1, r', M2, e1, e2, h1.kM1 k2⟩
theorem g_guest {ld : Nat} {M : gM} {L : gL} (h : G0 ld M L) (a b : Int32) : ∃ r M1 r' M2, F_Main_guest ld a b M = some (r, M1) ∧ F_Mod_guest a b M1 = some (r', M2) ∧ G0 ld M2 L := by
  obtain ⟨r, M1, e1, -, k1⟩ := tf_Main_guest (p1 := a) (p2 := b) (M := M) h.la
  have h1 := h.kC0 k1
  obtain ⟨r', M2, e2, -, k2⟩ := tf_Mod_guest (p0 := a) (p1 := b) h1.inv
  exact ⟨r, M1, r', M2, e1, e2, h1.kM1 k2⟩
theorem g_deed {ld : Nat} {M : gM} {L : gL} (h : G0 ld M L) (a b : Int32) : ∃ r M1 r' M2, F_Main_deed ld a b M = some (r, M1) ∧ F_Mod_deed a b M1 = some (r', M2) ∧ G0 ld M2 L := by
  obtain ⟨r, M1, e1, -, k1⟩ := tf_Main_deed (p1 := a) (p2 := b) (M := M) h.la
  have h1 := h.kC0 k1
  obtain ⟨r', M2, e2, -, k2⟩ := tf_Mod_deed (p0 := a) (p1 := b) h1.inv
  exact ⟨r, M1, r', M2, e1, e2, h1.kM1 k2⟩
theorem g_pot {ld : Nat} {M : gM} {L : gL} (h : G0 ld M L) (a b c d : Int32) : ∃ r M1 r' M2, F_Main_pot ld a b c d M = some (r, M1) ∧ F_Mod_pot a b c d M1 = some (r', M2) ∧ G0 ld M2 L := by
  obtain ⟨r, M1, e1, -, k1⟩ := tf_Main_pot (p1 := a) (p2 := b) (p3 := c) (p4 := d) (M := M) h.la
  have h1 := h.kC1 k1
  obtain ⟨r', M2, e2, -, k2⟩ := tf_Mod_pot (p0 := a) (p1 := b) (p2 := c) (p3 := d) h1.inv
  exact ⟨r, M1, r', M2, e1, e2, h1.kM1 k2⟩
theorem g_pinch {ld : Nat} {M : gM} {L : gL} (h : G0 ld M L) (a b : Int32) : ∃ r M1 r' M2, F_Main_pinch ld a b M = some (r, M1) ∧ F_Mod_pinch a b M1 = some (r', M2) ∧ G0 ld M2 L := by
  obtain ⟨r, M1, e1, -, k1⟩ := tf_Main_pinch (p1 := a) (p2 := b) (M := M) h.la
  have h1 := h.kC0 k1
  obtain ⟨r', M2, e2, -, k2⟩ := tf_Mod_pinch (p0 := a) (p1 := b) h1.inv
  exact ⟨r, M1, r', M2, e1, e2, h1.kM1 k2⟩
theorem g_freest {ld : Nat} {M : gM} {L : gL} (h : G0 ld M L) (a b : Int32) : ∃ r M1 r' M2, F_Main_freest ld a b M = some (r, M1) ∧ F_Mod_freest a b M1 = some (r', M2) ∧ G0 ld M2 L := by
  obtain ⟨r, M1, e1, -, k1⟩ := tf_Main_freest (p1 := a) (p2 := b) (M := M) h.la
  have h1 := h.kC0 k1
  obtain ⟨r', M2, e2, -, k2⟩ := tf_Mod_freest (p0 := a) (p1 := b) h1.inv
  exact ⟨r, M1, r', M2, e1, e2, h1.kM1 k2⟩
theorem g_supper {ld : Nat} {M : gM} {L : gL} (h : G0 ld M L) : ∃ r M1 r' M2, F_Main_supper ld M = some (r, M1) ∧ F_Mod_supper M1 = some (r', M2) ∧ G0 ld M2 L := by
  obtain ⟨r, M1, e1, -, k1⟩ := tf_Main_supper (M := M) h.la
  have h1 := h.kC0 k1
  obtain ⟨r', M2, e2, -, k2⟩ := tf_Mod_supper h1.inv
  exact ⟨r, M1, r', M2, e1, e2, h1.kM1 k2⟩
theorem g_feud {ld : Nat} {M : gM} {L : gL} (h : G0 ld M L) (a b c : Int32) : ∃ r M1 r' M2, F_Main_feud ld a b c M = some (r, M1) ∧ F_Mod_feud a b c M1 = some (r', M2) ∧ G0 ld M2 L := by
  obtain ⟨r, M1, e1, -, k1⟩ := tf_Main_feud (p1 := a) (p2 := b) (p3 := c) (M := M) h.la
  have h1 := h.kC0 k1
  obtain ⟨r', M2, e2, -, k2⟩ := tf_Mod_feud (p0 := a) (p1 := b) (p2 := c) h1.inv
  exact ⟨r, M1, r', M2, e1, e2, h1.kM1 k2⟩
theorem g_menu {ld : Nat} {M : gM} {L : gL} (h : G0 ld M L) (a b c d : Int32) : ∃ r M1 r' M2, F_Main_menu ld a b c d M = some (r, M1) ∧ F_Mod_menu a b c d M1 = some (r', M2) ∧ G0 ld M2 L := by
  obtain ⟨r, M1, e1, -, k1⟩ := tf_Main_menu (p1 := a) (p2 := b) (p3 := c) (p4 := d) (M := M) h.la
  have h1 := h.kC1 k1
  obtain ⟨r', M2, e2, -, k2⟩ := tf_Mod_menu (p0 := a) (p1 := b) (p2 := c) (p3 := d) h1.inv
  exact ⟨r, M1, r', M2, e1, e2, h1.kM1 k2⟩
theorem g_often {ld : Nat} {M : gM} {L : gL} (h : G0 ld M L) (a : Int32) : ∃ r M1 r' M2, F_Main_often ld a M = some (r, M1) ∧ F_Mod_often a M1 = some (r', M2) ∧ G0 ld M2 L := by
  obtain ⟨r, M1, e1, -, k1⟩ := tf_Main_often (p1 := a) (M := M) h.la
  have h1 := h.kC1 k1
  obtain ⟨r', M2, e2, -, k2⟩ := tf_Mod_often (p0 := a) h1.inv
  exact ⟨r, M1, r', M2, e1, e2, h1.kM1 k2⟩
theorem g_hunger {ld : Nat} {M : gM} {L : gL} (h : G0 ld M L) (a b : Int32) : ∃ r M1 r' M2, F_Main_hunger ld a b M = some (r, M1) ∧ F_Mod_hunger a b M1 = some (r', M2) ∧ G0 ld M2 L := by
  obtain ⟨r, M1, e1, -, k1⟩ := tf_Main_hunger (p1 := a) (p2 := b) (M := M) h.la
  have h1 := h.kC0 k1
  obtain ⟨r', M2, e2, -, k2⟩ := tf_Mod_hunger (p0 := a) (p1 := b) h1.inv
  exact ⟨r, M1, r', M2, e1, e2, h1.kM1 k2⟩
theorem g_stockIn {ld : Nat} {M : gM} {L : gL} (h : G0 ld M L) (a b : Int32) : ∃ r M1 r' M2, F_Main_stockIn ld a b M = some (r, M1) ∧ F_Mod_stockIn a b M1 = some (r', M2) ∧ G0 ld M2 L := by
  obtain ⟨r, M1, e1, -, k1⟩ := tf_Main_stockIn (p1 := a) (p2 := b) (M := M) h.la
  have h1 := h.kC1 k1
  obtain ⟨r', M2, e2, -, k2⟩ := tf_Mod_stockIn (p0 := a) (p1 := b) h1.inv
  exact ⟨r, M1, r', M2, e1, e2, h1.kM1 k2⟩
theorem g_boundIn {ld : Nat} {M : gM} {L : gL} (h : G0 ld M L) (a b c : Int32) : ∃ r M1 r' M2, F_Main_boundIn ld a b c M = some (r, M1) ∧ F_Mod_boundIn a b c M1 = some (r', M2) ∧ G0 ld M2 L := by
  obtain ⟨r, M1, e1, -, k1⟩ := tf_Main_boundIn (p1 := a) (p2 := b) (p3 := c) (M := M) h.la
  have h1 := h.kC0 k1
  obtain ⟨r', M2, e2, -, k2⟩ := tf_Mod_boundIn (p0 := a) (p1 := b) (p2 := c) h1.inv
  exact ⟨r, M1, r', M2, e1, e2, h1.kM1 k2⟩
theorem g_year {ld : Nat} {M : gM} {L : gL} (h : G0 ld M L) (a b c d : Int32) : ∃ r M1 r' M2, F_Main_year ld a b c d M = some (r, M1) ∧ F_Mod_year a b c d M1 = some (r', M2) ∧ G0 ld M2 L := by
  obtain ⟨r, M1, e1, -, k1⟩ := tf_Main_year (p1 := a) (p2 := b) (p3 := c) (p4 := d) (M := M) h.la
  have h1 := h.kC0 k1
  obtain ⟨r', M2, e2, -, k2⟩ := tf_Mod_year (p0 := a) (p1 := b) (p2 := c) (p3 := d) h1.inv
  exact ⟨r, M1, r', M2, e1, e2, h1.kM1 k2⟩
theorem g_blame {ld : Nat} {M : gM} {L : gL} (h : G0 ld M L) (a : Int32) : ∃ r M1 r' M2, F_Main_blame ld a M = some (r, M1) ∧ F_Mod_blame a M1 = some (r', M2) ∧ G0 ld M2 L := by
  obtain ⟨r, M1, e1, -, k1⟩ := tf_Main_blame (p1 := a) (M := M) h.la
  have h1 := h.kC1 k1
  obtain ⟨r', M2, e2, -, k2⟩ := tf_Mod_blame (p0 := a) h1.inv
  exact ⟨r, M1, r', M2, e1, e2, h1.kM1 k2⟩
theorem g_sure {ld : Nat} {M : gM} {L : gL} (h : G0 ld M L) (a : Int32) : ∃ r M1 r' M2, F_Main_sure ld a M = some (r, M1) ∧ F_Mod_sure a M1 = some (r', M2) ∧ G0 ld M2 L := by
  obtain ⟨r, M1, e1, -, k1⟩ := tf_Main_sure (p1 := a) (M := M) h.la
  have h1 := h.kC1 k1
  obtain ⟨r', M2, e2, -, k2⟩ := tf_Mod_sure (p0 := a) h1.inv
  exact ⟨r, M1, r', M2, e1, e2, h1.kM1 k2⟩
theorem g_taste {ld : Nat} {M : gM} {L : gL} (h : G0 ld M L) (a : Int32) : ∃ r M1 r' M2, F_Main_taste ld a M = some (r, M1) ∧ F_Mod_taste a M1 = some (r', M2) ∧ G0 ld M2 L := by
  obtain ⟨r, M1, e1, -, k1⟩ := tf_Main_taste (p1 := a) (M := M) h.la
  have h1 := h.kC1 k1
  obtain ⟨r', M2, e2, -, k2⟩ := tf_Mod_taste (p0 := a) h1.inv
  exact ⟨r, M1, r', M2, e1, e2, h1.kM1 k2⟩
theorem g_cook {ld : Nat} {M : gM} {L : gL} (h : G0 ld M L) (a : Int32) : ∃ r M1 r' M2, F_Main_cook ld a M = some (r, M1) ∧ F_Mod_cook a M1 = some (r', M2) ∧ G0 ld M2 L := by
  obtain ⟨r, M1, e1, h1⟩ := gc_cook h a
  obtain ⟨r', M2, e2, h2⟩ := gm_cook h1 a
  exact ⟨r, M1, r', M2, e1, e2, h2⟩
theorem g_eat {ld : Nat} {M : gM} {L : gL} (h : G0 ld M L) (a : Int32) : ∃ r M1 r' M2, F_Main_eat ld a M = some (r, M1) ∧ F_Mod_eat a M1 = some (r', M2) ∧ G0 ld M2 L := by
  obtain ⟨r, M1, e1, h1⟩ := gc_eat h a
  obtain ⟨r', M2, e2, h2⟩ := gm_eat h1 a
  exact ⟨r, M1, r', M2, e1, e2, h2⟩
theorem g_days {ld : Nat} {M : gM} {L : gL} (h : G0 ld M L) (a : Int32) : ∃ r M1 r' M2, F_Main_days ld a M = some (r, M1) ∧ F_Mod_days a M1 = some (r', M2) ∧ G0 ld M2 L := by
  obtain ⟨r, M1, e1, h1⟩ := gc_days h a
  obtain ⟨r', M2, e2, h2⟩ := gm_days h1 a
  exact ⟨r, M1, r', M2, e1, e2, h2⟩
theorem g_undo {ld : Nat} {M : gM} {L : gL} (h : G0 ld M L) : ∃ r M1 r' M2, F_Main_undo M = some (r, M1) ∧ F_Mod_undo M1 = some (r', M2) ∧ G0 ld M2 L := by
  obtain ⟨r, M1, e1, h1⟩ := gc_undo h
  obtain ⟨r', M2, e2, h2⟩ := gm_undo h1
  exact ⟨r, M1, r', M2, e1, e2, h2⟩
end PAR23
end MG13x3
section MG13x4
/-! a new object -/
section PAR24
theorem z411 : ∀ i, M00 411 i = 0 := fun i => by cases i <;> rfl
theorem z415 : ∀ i, M00 415 i = 0 := fun i => by cases i <;> rfl
theorem z418 : ∀ i, M00 418 i = 0 := fun i => by cases i <;> rfl
theorem z420 : ∀ i, M00 420 i = 0 := fun i => by cases i <;> rfl
theorem Dl_start : Dl 12 0 M00 := by
  refine ⟨0, 0, 0, 0, 0, 0, ?_, ⟨fun k hk => absurd hk (Nat.not_lt_zero _), ⟨fun k hk => absurd hk (Nat.not_lt_zero _), fun j _ hj => ?_⟩, fun k hk => absurd hk (Nat.not_lt_zero _), fun k hk => absurd hk (Nat.not_lt_zero _), ⟨0, by decide, by decide +kernel, by decide +kernel⟩⟩, fun w hw => Or.inl ?_, by decide, by decide⟩
  · refine ⟨⟨?_, ?_, by decide⟩, ⟨?_, ?_, by decide⟩, ⟨?_, ?_, by decide⟩, ⟨?_, ?_, by decide⟩⟩ <;> decide +kernel
  · exact (by decide +kernel : ∀ j, j < 30 → M00 (12 + 5) j = 0) j hj
  · exact (by decide +kernel : ∀ w, w < 4 → M00 (12 + 9 + 4 * w) 1 = nI 0 ∧ M00 424 (4 * 0 + w) = nI 0 ∧ M00 425 (4 * 0 + w) = nI 0) w hw
theorem Td_start : Td M00 := ⟨0, by decide, by decide +kernel, by decide +kernel, fun i hi => absurd hi (Nat.not_lt_zero _)⟩
theorem Cb_start : Cb M00 := ⟨fun i => by rw [z411]; decide, fun i => by rw [z415]; decide, fun i => by rw [z418]; decide, fun i => by rw [z420]; decide⟩
theorem G0_start : G0 12 M00 L00 := by
  have h18 : M00 401 18 = nI 0 := by decide +kernel
  refine ⟨⟨fun _ => 0, 0, ⟨by decide +kernel, by decide, fun j hj => absurd hj (Nat.not_lt_zero _)⟩, ⟨by decide +kernel, fun j hj => absurd hj (Nat.not_lt_zero _)⟩⟩, isLa_12, ?_, ?_, ?_, ⟨0, by decide, h18, Dl_start⟩, by decide +kernel, Td_start, ⟨0, by decide, by decide +kernel, fun s hs => ?_⟩⟩
  · exact (by decide +kernel : ∀ w, w < 21 → L00 5 w = lN (enc 32 (kwAt w)))
  · exact (by decide +kernel : ∀ w, w < 21 → L00 408 w = lN (enc 27 (kwAt w)))
  · exact Inv_of (by decide) h18 Dl_start Cb_start (by decide +kernel) Td_start
  · rw [Nat.zero_testBit]
    exact (by decide +kernel : ∀ s, s < 3 → M00 445 s = if false = true then 1 else 0) s hs
end PAR24
end MG13x4
