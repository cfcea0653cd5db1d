/-! names in both parsers -/
section PAR3
variable {b : Nat → Nat} {n m : Nat}
/-- the first i, from i on, of d, that bears the name w -/
def fxi (l : Nat → List Nat) (w : List Nat) : Nat → Nat → Nat
  | 0, i => i
  | d + 1, i => if l i = w then i else fxi l w d (i + 1)
theorem fxi_le (l : Nat → List Nat) (w : List Nat) : ∀ d i, i ≤ fxi l w d i ∧ fxi l w d i ≤ i + d := by
  intro d
  induction d with
  | zero => intro i; exact ⟨Nat.le_refl _, Nat.le_refl _⟩
  | succ d ih =>
    intro i
    unfold fxi
    split
    · omega
    · have := ih (i + 1); omega
theorem fxi_at {l : Nat → List Nat} {w : List Nat} : ∀ d i, fxi l w d i < i + d → l (fxi l w d i) = w := by
  intro d
  induction d with
  | zero => intro i h; have : fxi l w 0 i = i := rfl; omega
  | succ d ih =>
    intro i h
    unfold fxi at h ⊢
    by_cases he : l i = w
    · rw [if_pos he]; exact he
    · rw [if_neg he] at h ⊢; exact ih (i + 1) (by omega)
theorem fxi_no {l : Nat → List Nat} {w : List Nat} : ∀ d i j, i ≤ j → j < fxi l w d i → l j ≠ w := by
  intro d
  induction d with
  | zero => intro i j h1 h2; have : fxi l w 0 i = i := rfl; omega
  | succ d ih =>
    intro i j h1 h2
    unfold fxi at h2
    by_cases he : l i = w
    · rw [if_pos he] at h2; omega
    · rw [if_neg he] at h2
      rcases Nat.lt_or_ge i j with g | g
      · exact ih (i + 1) j (by omega) h2
      · rw [show j = i by omega]; exact he
def okN (w : List Nat) : Prop := w.length ≤ 8 ∧ ∀ c ∈ w, 1 ≤ c ∧ c ≤ 26
theorem lN32 {u w : List Nat} (hu : okN u) (hw : okN w) : (lg_cmp (lN (enc 32 u)) (lN (enc 32 w)) = 0) ↔ u = w := by
  rw [lg_cmp_eq]
  exact ⟨fun q => enc_inj (by decide) _ _ _ rfl hu.2 hw.2 (lN_inj (enc32_lt hu.1 hu.2) (enc32_lt hw.1 hw.2) q), fun q => by rw [q]⟩
theorem lN27 {u w : List Nat} (hu : okN u) (hw : okN w) : (lg_cmp (lN (enc 27 u)) (lN (enc 27 w)) = 0) ↔ u = w := by
  rw [lg_cmp_eq]
  exact ⟨fun q => enc_inj (by decide) _ _ _ rfl hu.2 hw.2 (lN_inj (enc27_lt hu.1 hu.2) (enc27_lt hw.1 hw.2) q), fun q => by rw [q]⟩
/-- the class's names; the model's -/
def Cn (nc : Nat) (l : Nat → List Nat) (a : Nat → Int32) (M : gM) (L : gL) : Prop := M 3 8 = nI nc ∧ ∀ k, k < nc → okN (l k) ∧ L 9 k = lN (enc 32 (l k)) ∧ M 10 k = a k
def Mn (nc : Nat) (l : Nat → List Nat) (a : Nat → Int32) (N : gM) (K : gL) : Prop := N 401 20 = nI nc ∧ ∀ k, k < nc → okN (l k) ∧ K 409 k = lN (enc 27 (l k)) ∧ N 410 k = a k
theorem r_indexL {nc : Nat} {l : Nat → List Nat} {a : Nat → Int32} {w : List Nat} {M : gM} {L : gL} (hC : Cn nc l a M L) (hn : nc ≤ 21) (hw : okN w) : ∀ (d k f : Nat), k + d = nc → d < f → H_Reader_indexOf_2 (lN (enc 32 w)) M L f (nI k) = some (if fxi l w d k < nc then nI (fxi l w d k) else -1) := by
  intro d
  induction d with
  | zero =>
    intro k f hd hf
    obtain ⟨f, rfl⟩ : ∃ g, f = g + 1 := ⟨f - 1, by omega⟩
    show B_Reader_indexOf_2 _ M L (H_Reader_indexOf_2 _ M L f) (nI k) = _
    unfold B_Reader_indexOf_2
    rw [hC.1, if_pos (by rw [nI_leI (by omega) (by omega)]; omega), show fxi l w 0 k = k from rfl, if_neg (by omega)]
  | succ d ih =>
    intro k f hd hf
    obtain ⟨f, rfl⟩ : ∃ g, f = g + 1 := ⟨f - 1, by omega⟩
    show B_Reader_indexOf_2 _ M L (H_Reader_indexOf_2 _ M L f) (nI k) = _
    unfold B_Reader_indexOf_2
    obtain ⟨c1, c2, c3⟩ := hC.2 k (by omega)
    rw [hC.1, if_neg (by rw [nI_leI (by omega) (by omega)]; omega), if_neg (by rw [show (21 : Int32) = nI 21 from rfl, nI_leI (by omega) (by omega)]; omega), if_neg (nI_in (by omega) (by decide)), nI_clamp (by omega), c2]
    unfold fxi
    by_cases he : l k = w
    · rw [if_pos ((lN32 c1 hw).mpr he), if_pos he, if_pos (by omega)]
    · rw [if_neg (fun q => he ((lN32 c1 hw).mp q)), if_neg he, nmI_e, nI_1]
      exact ih (k + 1) f (by omega) (by omega)
theorem r_index {nc : Nat} {l : Nat → List Nat} {a : Nat → Int32} {w : List Nat} {M : gM} {L : gL} (hC : Cn nc l a M L) (hn : nc ≤ 21) (hw : okN w) : F_Reader_indexOf (lN (enc 32 w)) M L = some (if fxi l w nc 0 < nc then nI (fxi l w nc 0) else -1) := r_indexL hC hn hw nc 0 FU (by omega) (by unfold FU; omega)
/-- the loop of named: from Z, which is N or N with the late fault -/
theorem q_namedL {M N : gM} {L K : gL} (h : Tk b n m M L N K) {t lf nc : Nat} {l : Nat → List Nat} {a : Nat → Int32} {w : List Nat} (hM : Mn nc l a N K) (hn : nc ≤ 21) (hw : okN w) (hK : K 407 t = lN (enc 27 w)) (htm : t ≤ m) (hf : N 401 13 = 0) (hL : N 401 15 = nI lf) (hlf : lf ≤ 5) (hp : lf ≠ 0 → ∃ la, la < t ∧ N 401 16 = nI (tkF b n la)) :
    ∀ (d k f : Nat) (Z : gM) (late : Bool), k + d = nc → d < f → Z = (if late = true then lateM lf 3 (tkF b n t) N else N) → H_Mod_named_12 (nI t) K f (nI k) Z = some (nI t, if late = true ∨ fxi l w d k < nc then lateM lf 3 (tkF b n t) N else N) := by
  have hm := h.m400
  intro d
  have eq : ∀ (late : Bool) (j : Nat), j ≠ 15 → j ≠ 16 → (if late = true then lateM lf 3 (tkF b n t) N else N) 401 j = N 401 j := by
    intro late j h1 h2
    cases late
    · rfl
    · exact lateM_E 401 j (by unfold mW; omega)
  induction d with
  | zero =>
    intro k f Z late hd hf2 hZ
    obtain ⟨f, rfl⟩ : ∃ g, f = g + 1 := ⟨f - 1, by omega⟩
    show B_Mod_named_12 (nI t) K (H_Mod_named_12 (nI t) K f) (nI k) Z = _
    unfold B_Mod_named_12
    subst hZ
    rw [eq late 20 (by decide) (by decide), hM.1, if_pos (by rw [nI_leI (by omega) (by omega)]; omega), show fxi l w 0 k = k from rfl]
    cases late
    · rw [if_neg (by decide), if_neg (fun q => q.elim (fun q => absurd q (by decide)) (fun q => by omega))]
    · rw [if_pos rfl, if_pos (Or.inl rfl)]
  | succ d ih =>
    intro k f Z late hd hf2 hZ
    obtain ⟨f, rfl⟩ : ∃ g, f = g + 1 := ⟨f - 1, by omega⟩
    show B_Mod_named_12 (nI t) K (H_Mod_named_12 (nI t) K f) (nI k) Z = _
    unfold B_Mod_named_12
    obtain ⟨c1, c2, c3⟩ := hM.2 k (by omega)
    subst hZ
    rw [eq late 20 (by decide) (by decide), hM.1, if_neg (by rw [nI_leI (by omega) (by omega)]; omega), eq late 13 (by decide) (by decide), hf, if_pos rfl, if_neg (nI_in (by omega) (by decide)), if_neg (nI_in (by omega) (by decide)), nI_clamp (by omega), nI_clamp (by omega), c2, hK]
    unfold J_Mod_named_49
    by_cases he : l k = w
    · rw [if_pos ((lN27 c1 hw).mpr he)]
      have e1 : F_Mod_wrong 3 (nI t) (if late = true then lateM lf 3 (tkF b n t) N else N) = some (lateM lf 3 (tkF b n t) N) := by
        cases late
        · exact q_late h (k := 3) rfl htm hf hL hlf hp
        · exact q_late2 h (k := 3) (by decide) htm hf hL hlf hp
      rw [e1, bI_s, nmI_e, nI_1, ih (k + 1) f (lateM lf 3 (tkF b n t) N) true (by omega) (by omega) (by rw [if_pos rfl]), if_pos (Or.inl rfl), if_pos]
      right
      unfold fxi
      rw [if_pos he]; omega
    · rw [if_neg (fun q => he ((lN27 c1 hw).mp q)), nmI_e, nI_1, ih (k + 1) f _ late (by omega) (by omega) rfl]
      have e2 : fxi l w (d + 1) k = fxi l w d (k + 1) := by
        show (if l k = w then k else fxi l w d (k + 1)) = _
        rw [if_neg he]
      rw [e2]
theorem q_namedD {N : gM} {K : gL} {k u : Nat} (hf : N 401 13 = nI k) (hk : k = 1 ∨ k = 2) (hu : N 401 11 = nI u) : F_Mod_named N K = some (nI u, N) := by
  unfold F_Mod_named
  rw [nmI_e, q_mustD hf hk, bI_s, hu]
  obtain ⟨g, hg⟩ := FU_k 1 (by decide)
  rw [hg]
  show B_Mod_named_12 (nI u) K (H_Mod_named_12 (nI u) K g) 0 N = _
  unfold B_Mod_named_12
  by_cases h1 : N 401 20 ≤ 0
  · rw [if_pos h1]
  · rw [if_neg h1, hf, if_neg (nI_ne0 (by omega) (by omega))]
def cN (c j : Nat) : Prop := (c = 3 ∧ ((1 ≤ j ∧ j ≤ 5) ∨ j = 8)) ∨ c = 10
/-- takeNewName and named -/
theorem p_name {M N : gM} {L K : gL} {t lf nc : Nat} {l : Nat → List Nat} {a : Nat → Int32} {fc : Int32} (hn : nc ≤ 20) (hl : (Tk b n m M L N K ∧ Lv m t M N ∧ Lt b n t lf M N ∧ Mn nc l a N K ∧ (lf = 0 → Cn nc l a M L)) ∨ Dd b n m M N) :
    ∃ M' L' r' N', F_Reader_takeNewName fc M L = some (M', L') ∧ F_Mod_named N K = some (r', N') ∧
    ((Lv m (t + 1) M' N' ∧ tkK b n t = 2 ∧ r' = nI t ∧ (∃ lf', Lt b n (t + 1) lf' M' N' ∧ (lf' = 0 → lf = 0 ∧ (∀ k, k < nc → l k ≠ tokL b n (tkF b n t)) ∧ Cn (nc + 1) (fun k => if k = nc then tokL b n (tkF b n t) else l k) (fun k => if k = nc then fc else a k) M' L')) ∧ Eo cN M M' ∧ (∀ c j, c ≠ 9 → L' c j = L c j)) ∨ Dd b n m M' N') ∧ Eo mI N N' := by
  rcases hl with ⟨h, hl, hL, hM, hCn⟩ | hd
  · have hm := h.m400
    have htm := hl.2.2.2.2
    unfold F_Reader_takeNewName F_Mod_named
    rw [r_is h (k := 2) (kk := 2) rfl hl.1 htm (by decide), bI_s, nmI_e, hl.2.2.1]
    unfold J_Reader_takeNewName_97
    by_cases e : tkK b n t = 2
    · obtain ⟨v1, v2, v3⟩ := tkV_name e
      have hw : okN (tokL b n (tkF b n t)) := ⟨v2, v3⟩
      have hK := (h.2.2.1 t (by omega)).2.2.2 e
      rw [if_pos e, if_neg (by decide), r_value h hl.1 htm, bI_s, v1]
      generalize tokL b n (tkF b n t) = w at hw hK ⊢
      have hp : lf ≠ 0 → ∃ la, la < t ∧ N 401 16 = nI (tkF b n la) := fun q => by obtain ⟨la, a1, a2, a3⟩ := hL.2.2.2 q; exact ⟨la, a1, a3⟩
      -- the class up to need
      obtain ⟨M1, L1, f1, hE1, hL1, hlate⟩ : ∃ M1 L1, (bI (F_Reader_indexOf (lN (enc 32 w)) M L) fun r9 => if r9 < 0 then (if M 3 8 < 0 then bI (F_Reader_need 2 M) (fun M5 => some (M5, L)) else (if 21 ≤ M 3 8 then bI (F_Reader_need 2 M) (fun M5 => some (M5, L)) else (if 21 ≤ M 3 8 then bI (F_Reader_need 2 M) (fun M5 => some (M5, L)) else (if (M 3 8 : Int32) < 0 ∨ 21 ≤ (M 3 8 : Int32).toNatClampNeg then none else nmL (uL L 9 (M 3 8 : Int32).toNatClampNeg (lN (enc 32 w))) (fun L15 => (if (M 3 8 : Int32) < 0 ∨ 21 ≤ (M 3 8 : Int32).toNatClampNeg then none else nmM (uM M 10 (M 3 8 : Int32).toNatClampNeg fc) (fun M17 => nmM (uM M17 3 8 (M17 3 8 + 1)) (fun M18 => bI (F_Reader_need 2 M18) (fun M5 => some (M5, L15)))))))))) else bI (F_Reader_stopLate 3 M) (fun M20 => bI (F_Reader_need 2 M20) (fun M5 => some (M5, L)))) = bI (F_Reader_need 2 M1) (fun M5 => some (M5, L1)) ∧ Eo (fun c j => (c = 3 ∧ (j = 4 ∨ j = 5 ∨ j = 8)) ∨ c = 10) M M1 ∧ (∀ c j, c ≠ 9 → L1 c j = L c j) ∧
          (lf = 0 → (fxi l w nc 0 < nc → M1 3 4 = nI 3 ∧ M1 3 5 = nI t) ∧ (¬ fxi l w nc 0 < nc → M1 3 4 = 0 ∧ Cn (nc + 1) (fun k => if k = nc then w else l k) (fun k => if k = nc then fc else a k) M1 L1)) ∧ (lf ≠ 0 → M1 3 4 = M 3 4 ∧ M1 3 5 = M 3 5) := by
        by_cases h0 : lf = 0
        · subst h0
          have hC := hCn rfl
          rw [r_index hC (by omega) hw, bI_s]
          by_cases hx : fxi l w nc 0 < nc
          · have hx2 := (fxi_le l w nc 0).2
            rw [if_pos hx, if_neg (nI_pos (by omega)), r_late (k := 3) (kk := 3) rfl hl.1 hL.1 hL.2.2.1, bI_s]
            refine ⟨lateC 0 3 t M, L, rfl, lateC_E.mono (fun c j q => by unfold cW at q; omega), fun _ _ _ => rfl, fun _ => ⟨fun _ => ?_, fun q => absurd hx q⟩, fun q => absurd rfl q⟩
            unfold lateC
            rw [if_pos rfl]
            exact ⟨by rw [uM_diff (by omega), uM_same], uM_same⟩
          · rw [if_neg hx, if_pos (by decide), hC.1, if_neg (nI_pos (by omega)), if_neg (by rw [show (21 : Int32) = nI 21 from rfl, nI_leI (by omega) (by omega)]; omega), if_neg (by rw [show (21 : Int32) = nI 21 from rfl, nI_leI (by omega) (by omega)]; omega), if_neg (nI_in (by omega) (by decide)), nI_clamp (by omega), nmL_e, if_neg (nI_inc (by omega) (by omega)), nmM_e, nmM_e, uM_diff (by omega), hC.1, nI_1]
            refine ⟨_, _, rfl, (Eo.rf.u (Or.inr rfl)).u (Or.inl ⟨rfl, by omega⟩), fun c j q => by rw [uL_ne _ _ _ q], fun _ => ⟨fun q => absurd q hx, fun _ => ⟨by rw [uM_diff (by omega), uM_diff (by omega)]; exact hL.1, uM_same, fun k hk => ?_⟩⟩, fun q => absurd rfl q⟩
            by_cases hkn : k = nc
            · subst hkn
              exact ⟨by dsimp only; rw [if_pos rfl]; exact hw, by dsimp only; rw [uL_at, if_pos ⟨rfl, rfl⟩, if_pos rfl], by dsimp only; rw [uM_diff (by omega), uM_same, if_pos rfl]⟩
            · obtain ⟨c1, c2, c3⟩ := hC.2 k (by omega)
              exact ⟨by dsimp only; rw [if_neg hkn]; exact c1, by dsimp only; rw [uL_at, if_neg (fun q => hkn q.2), if_neg hkn]; exact c2, by dsimp only; rw [uM_diff (by omega), uM_diff (by omega), if_neg hkn]; exact c3⟩
        · obtain ⟨r9, g9, -⟩ := tq_Reader_indexOf (p1 := lN (enc 32 w)) (M := M) (L := L)
          rw [g9, bI_s]
          have hh : ∀ (M1 : gM) (L1 : gL), Eo (fun c j => (c = 3 ∧ j = 8) ∨ c = 10) M M1 → (∀ c j, c ≠ 9 → L1 c j = L c j) → Eo (fun c j => (c = 3 ∧ (j = 4 ∨ j = 5 ∨ j = 8)) ∨ c = 10) M M1 ∧ (∀ c j, c ≠ 9 → L1 c j = L c j) ∧ (lf = 0 → (fxi l w nc 0 < nc → M1 3 4 = nI 3 ∧ M1 3 5 = nI t) ∧ (¬ fxi l w nc 0 < nc → M1 3 4 = 0 ∧ Cn (nc + 1) (fun k => if k = nc then w else l k) (fun k => if k = nc then fc else a k) M1 L1)) ∧ (lf ≠ 0 → M1 3 4 = M 3 4 ∧ M1 3 5 = M 3 5) := fun M1 L1 q1 q2 => ⟨q1.mono (fun c j q => by omega), q2, fun q => absurd q h0, fun _ => ⟨q1 3 4 (by omega), q1 3 5 (by omega)⟩⟩
          by_cases c1 : r9 < 0
          · rw [if_pos c1]
            by_cases c2 : M 3 8 < 0
            · rw [if_pos c2]; exact ⟨M, L, rfl, hh M L Eo.rf (fun _ _ _ => rfl)⟩
            rw [if_neg c2]
            by_cases c3 : 21 ≤ M 3 8
            · rw [if_pos c3]; exact ⟨M, L, rfl, hh M L Eo.rf (fun _ _ _ => rfl)⟩
            have hv : ¬ (M 3 8 < 0 ∨ 21 ≤ (M 3 8).toNatClampNeg) := vin_of c2 (by exact c3) (by decide)
            rw [if_neg c3, if_neg c3, if_neg hv, nmL_e, if_neg hv, nmM_e, nmM_e]
            exact ⟨_, _, rfl, hh _ _ ((Eo.rf.u (Or.inr rfl)).u (Or.inl ⟨rfl, rfl⟩)) (fun c j q => by rw [uL_ne _ _ _ q])⟩
          · rw [if_neg c1, r_late (k := 3) (kk := 3) rfl hl.1 hL.1 hL.2.2.1, bI_s]
            have e2 : lateC lf 3 t M = M := by unfold lateC; rw [if_neg h0]
            rw [e2]
            exact ⟨M, L, rfl, hh M L Eo.rf (fun _ _ _ => rfl)⟩
      rw [f1]
      have hl1 : Lv m t M1 N := ⟨by rw [hE1 3 1 (by omega)]; exact hl.1, by rw [hE1 3 2 (by omega)]; exact hl.2.1, hl.2.2⟩
      have h1 : Tk b n m M1 L1 N K := h.keep (fun j => hE1 6 j (by omega)) (fun j => hE1 7 j (by omega)) (fun j => hL1 8 j (by decide)) (fun _ => rfl) (fun _ => rfl) (fun _ => rfl) (fun _ => rfl)
      obtain ⟨M', N1, g1, g2, g3, g5⟩ := p_need (k := 2) (kk := 2) (kq := 1) rfl rfl (Or.inl (by decide)) (by decide) (Or.inl ⟨h1, hl1⟩)
      rw [g1, bI_s, g2, bI_s]
      have hN1 : ∀ j, j ≠ 11 → j ≠ 13 → j ≠ 14 → N1 401 j = N 401 j := fun j q1 q2 q3 => g5 401 j (by unfold mS; omega)
      rcases g3 with ⟨a1, a2, a3, a4⟩ | g3
      · have hM1 : Mn nc l a N1 K := ⟨by rw [hN1 20 (by decide) (by decide) (by decide)]; exact hM.1, fun k hk => ⟨(hM.2 k hk).1, (hM.2 k hk).2.1, by rw [g5 410 k (by unfold mS; omega)]; exact (hM.2 k hk).2.2⟩⟩
        have hT2 : Tk b n m M' L1 N1 K := h1.eo (a4.mono cS_cI) (g5.mono mS_mI)
        have hp1 : lf ≠ 0 → ∃ la, la < t ∧ N1 401 16 = nI (tkF b n la) := fun q => by obtain ⟨la, x1, x2⟩ := hp q; exact ⟨la, x1, by rw [hN1 16 (by decide) (by decide) (by decide)]; exact x2⟩
        have hL15 : N1 401 15 = nI lf := by rw [hN1 15 (by decide) (by decide) (by decide)]; exact hL.2.1
        have hlp : H_Mod_named_12 (nI t) K FU 0 N1 = _ := q_namedL hT2 hM1 (by omega) hw hK htm a1.2.2.2.1 hL15 hL.2.2.1 hp1 nc 0 FU N1 false (by omega) (by unfold FU; omega) rfl
        rw [hlp]
        refine ⟨M', L1, nI t, _, rfl, rfl, Or.inl ⟨?_, e, rfl, ?_, ?_, hL1⟩, ?_⟩
        · split
          · exact ⟨a1.1, a1.2.1, by rw [lateM_E 401 11 (by unfold mW; omega)]; exact a1.2.2.1, by rw [lateM_E 401 13 (by unfold mW; omega)]; exact a1.2.2.2.1, a1.2.2.2.2⟩
          · exact a1
        · by_cases h0 : lf = 0
          · subst h0
            by_cases hx : fxi l w nc 0 < nc
            · rw [if_pos (Or.inr hx)]
              obtain ⟨x1, x2⟩ := (hlate.1 rfl).1 hx
              refine ⟨3, ⟨by rw [a4 3 4 (by unfold cS; omega)]; exact x1, ?_, by decide, fun _ => ⟨t, by omega, by rw [a4 3 5 (by unfold cS; omega)]; exact x2, ?_⟩⟩, fun q => absurd q (by decide)⟩
              · unfold lateM; rw [if_pos rfl, uM_diff (by omega), uM_same]
              · unfold lateM; rw [if_pos rfl, uM_same]
            · rw [if_neg (fun q => q.elim (fun q => absurd q (by decide)) hx)]
              obtain ⟨x1, x2⟩ := (hlate.1 rfl).2 hx
              refine ⟨0, ⟨by rw [a4 3 4 (by unfold cS; omega)]; exact x1, hL15, by decide, fun q => absurd rfl q⟩, fun _ => ⟨rfl, fun k hk => ?_, ?_⟩⟩
              · have := (fxi_le l w nc 0).2
                exact fxi_no nc 0 k (by omega) (by omega)
              · exact ⟨by rw [a4 3 8 (by unfold cS; omega)]; exact x2.1, fun k hk => ⟨(x2.2 k hk).1, (x2.2 k hk).2.1, by rw [a4 10 k (by unfold cS; omega)]; exact (x2.2 k hk).2.2⟩⟩
          · have e2 : lateM lf 3 (tkF b n t) N1 = N1 := by unfold lateM; rw [if_neg h0]
            rw [e2, ite_self]
            obtain ⟨x1, x2⟩ := hlate.2 h0
            exact ⟨lf, hL.up (by omega) (by rw [a4 3 4 (by unfold cS; omega)]; exact x1) (by rw [a4 3 5 (by unfold cS; omega)]; exact x2) (hN1 15 (by decide) (by decide) (by decide)) (hN1 16 (by decide) (by decide) (by decide)), fun q => absurd q h0⟩
        · exact Eo.tr (hE1.mono (fun c j q => by unfold cN; omega)) (a4.mono (fun c j q => by unfold cS at q; unfold cN; omega))
        · split
          · exact (g5.mono mS_mI).tr (lateM_E.mono mW_mI)
          · exact g5.mono mS_mI
      · obtain ⟨k2, ft, u, x1, x2, x3, x4, x5, x6, x7, x8⟩ := id g3
        have hlp : H_Mod_named_12 (nI t) K FU 0 N1 = some (nI t, N1) := by
          obtain ⟨g, hg⟩ := FU_k 1 (by decide)
          rw [hg]
          show B_Mod_named_12 (nI t) K (H_Mod_named_12 (nI t) K g) 0 N1 = _
          unfold B_Mod_named_12
          by_cases y1 : N1 401 20 ≤ 0
          · rw [if_pos y1]
          · rw [if_neg y1, x5, if_neg (nI_ne0 (by omega) (by omega))]
        rw [hlp]
        exact ⟨M', L1, nI t, N1, rfl, rfl, Or.inr g3, g5.mono mS_mI⟩
    · rw [if_neg e, if_pos rfl]
      obtain ⟨M', N1, g1, g2, g3, g5⟩ := p_need (k := 2) (kk := 2) (kq := 1) rfl rfl (Or.inl (by decide)) (by decide) (Or.inl ⟨h, hl⟩)
      rw [g1, bI_s, g2, bI_s]
      rcases g3 with ⟨a1, a2, a3, a4⟩ | g3
      · exact absurd a3 e
      · obtain ⟨k2, ft, u, x1, x2, x3, x4, x5, x6, x7, x8⟩ := id g3
        have hlp : H_Mod_named_12 (nI t) K FU 0 N1 = some (nI t, N1) := by
          obtain ⟨g, hg⟩ := FU_k 1 (by decide)
          rw [hg]
          show B_Mod_named_12 (nI t) K (H_Mod_named_12 (nI t) K g) 0 N1 = _
          unfold B_Mod_named_12
          by_cases y1 : N1 401 20 ≤ 0
          · rw [if_pos y1]
          · rw [if_neg y1, x5, if_neg (nI_ne0 (by omega) (by omega))]
        rw [hlp]
        exact ⟨M', L, nI t, N1, rfl, rfl, Or.inr g3, g5.mono mS_mI⟩
  · obtain ⟨k2, ft, u, a1, a2, a3, a4, a5, a6, a7, a8⟩ := id hd
    obtain ⟨M', L', e1, e2⟩ := tq_Reader_takeNewName (p1 := fc) (M := M) (L := L)
    have e3 := e2.2.2 (by rw [a3]; exact nI_ne0 (by omega) (by omega))
    exact ⟨M', L', nI u, N, e1, q_namedD a5 a1 a8, Or.inr ⟨k2, ft, u, a1, a2, by rw [e3.1]; exact a3, by rw [e3.2]; exact a4, a5, a6, a7, a8⟩, Eo.rf⟩
end PAR3
