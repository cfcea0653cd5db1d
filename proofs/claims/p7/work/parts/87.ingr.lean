/-! ingredients in both parsers -/
section PAR4
variable {b : Nat → Nat} {n m : Nat}
def Un (nc : Nat) (l : Nat → List Nat) : Prop := ∀ i j, i < nc → j < nc → l i = l j → i = j
def Av (nf nc : Nat) (a : Nat → Int32) : Prop := ∀ k, k < nc → a k = -1 ∨ ∃ f, f < nf ∧ a k = nI f
theorem nI_neg1 : (-1 : Int32) < 0 := by decide
theorem nI_geN {a c : Nat} (h : ¬ (nI a < nI c)) (ha : a < 2 ^ 31) (hc : c < 2 ^ 31) : c ≤ a := by rw [nI_ltI ha hc] at h; omega
theorem Kl.one {a : Nat} {M M' : gM} (h : Kl (oneL a) M zL M' zL) : Eo (fun c _ => c = a) M M' := fun c j q => Kl.m h (by unfold oneL; rw [beq_eq_false_iff_ne]; exact q)
theorem q_knownL {N : gM} {K : gL} {t nc nf : Nat} {l : Nat → List Nat} {a : Nat → Int32} {w : List Nat} (hM : Mn nc l a N K) (hA : Av nf nc a) (hn : nc ≤ 21) (hw : okN w) (hK : K 407 t = lN (enc 27 w)) (ht : t ≤ 400) : ∀ (d k f : Nat), k + d = nc → d < f →
    (∃ j, k ≤ j ∧ j < nc ∧ l j = w ∧ ¬ a j < 0 ∧ H_Mod_knownFood_21 (nI t) N K f (nI k) = some (a j, N)) ∨ ((∀ j, k ≤ j → j < nc → l j = w → a j < 0) ∧ H_Mod_knownFood_21 (nI t) N K f (nI k) = J_Mod_knownFood_67 (nI t) N K) := by
  intro d
  induction d with
  | zero =>
    intro k f hd hf
    obtain ⟨f, rfl⟩ : ∃ g, f = g + 1 := ⟨f - 1, by omega⟩
    refine Or.inr ⟨fun j h1 h2 => by omega, ?_⟩
    show B_Mod_knownFood_21 (nI t) N K (H_Mod_knownFood_21 (nI t) N K f) (nI k) = _
    unfold B_Mod_knownFood_21
    rw [hM.1, if_pos (by rw [nI_leI (by omega) (by omega)]; omega)]
  | succ d ih =>
    intro k f hd hf
    obtain ⟨f, rfl⟩ : ∃ g, f = g + 1 := ⟨f - 1, by omega⟩
    obtain ⟨c1, c2, c3⟩ := hM.2 k (by omega)
    have e : H_Mod_knownFood_21 (nI t) N K (f + 1) (nI k) = if l k = w then (if a k < 0 then H_Mod_knownFood_21 (nI t) N K f (nI (k + 1)) else some (a k, N)) else H_Mod_knownFood_21 (nI t) N K f (nI (k + 1)) := by
      show B_Mod_knownFood_21 (nI t) N K (H_Mod_knownFood_21 (nI t) N K f) (nI k) = _
      unfold B_Mod_knownFood_21 J_Mod_knownFood_61 J_Mod_knownFood_54
      rw [hM.1, if_neg (by rw [nI_leI (by omega) (by omega)]; omega), if_neg (nI_in (by omega) (by decide)), if_neg (nI_in (by omega) (by decide)), nI_clamp (by omega), nI_clamp (by omega), c2, hK, if_neg (nI_inc (by omega) (by omega)), c3, if_neg (nI_inc (by omega) (by omega)), nmI_e, nI_1]
      by_cases he : l k = w
      · rw [if_pos ((lN27 c1 hw).mpr he), if_pos he]
      · rw [if_neg (fun q => he ((lN27 c1 hw).mp q)), if_neg he]
    rw [e]
    by_cases he : l k = w
    · rw [if_pos he]
      by_cases hk : a k < 0
      · rw [if_pos hk]
        rcases ih (k + 1) f (by omega) (by omega) with ⟨j, h1, h2, h3, h4, h5⟩ | ⟨h1, h2⟩
        · exact Or.inl ⟨j, by omega, h2, h3, h4, h5⟩
        · refine Or.inr ⟨fun j q1 q2 q3 => ?_, h2⟩
          by_cases hj : j = k
          · rw [hj]; exact hk
          · exact h1 j (by omega) q2 q3
      · rw [if_neg hk]
        exact Or.inl ⟨k, Nat.le_refl _, by omega, he, hk, rfl⟩
    · rw [if_neg he]
      rcases ih (k + 1) f (by omega) (by omega) with ⟨j, h1, h2, h3, h4, h5⟩ | ⟨h1, h2⟩
      · exact Or.inl ⟨j, by omega, h2, h3, h4, h5⟩
      · refine Or.inr ⟨fun j q1 q2 q3 => ?_, h2⟩
        by_cases hj : j = k
        · rw [hj] at q3; exact absurd q3 he
        · exact h1 j (by omega) q2 q3
def cG (ld c j : Nat) : Prop := (c = 3 ∧ 1 ≤ j ∧ j ≤ 5) ∨ c = ld + 5
/-- takeIngredient and knownFood, with no fault yet: the dish d, its own name told to the class alone -/
theorem p_ingr {M N : gM} {L K : gL} {ld t lf nc nf dd : Nat} {l l' : Nat → List Nat} {a a' : Nat → Int32} (hld : isLa ld) (hnf : nf ≤ 6) (hdd : dd < 5) (hn : nc ≤ 20) (h : Tk b n m M L N K) (hl : Lv m t M N) (hL : Lt b n t lf M N) (hM : Mn nc l a N K) (hA : Av nf nc a)
    (hC : lf = 0 → Cn (nc + 1) l' a' M L ∧ Un (nc + 1) l' ∧ (∀ k, k < nc → l' k = l k ∧ a' k = a k) ∧ a' nc = -1) :
    ∃ M' r N', F_Reader_takeIngredient ld (nI dd) M L = some M' ∧ F_Mod_knownFood N K = some (r, N') ∧ (r = -1 ∨ ∃ f, f < nf ∧ r = nI f) ∧
    ((Lv m (t + 1) M' N' ∧ Eo (cG ld) M M' ∧ (∃ lf', Lt b n (t + 1) lf' M' N' ∧ (lf' = 0 → lf = 0 ∧ ∃ f, f < nf ∧ r = nI f ∧ ∀ j, M' (ld + 5) j = if j = 6 * dd + f then M (ld + 5) j + 1 else M (ld + 5) j))) ∨ Dd b n m M' N') ∧ Eo mI N N' := by
  have h12 := La_12 hld
  have hm := h.m400
  have htm := hl.2.2.2.2
  have hp : lf ≠ 0 → ∃ la, la < t ∧ N 401 16 = nI (tkF b n la) := fun q => by obtain ⟨la, a1, a2, a3⟩ := hL.2.2.2 q; exact ⟨la, a1, a3⟩
  unfold F_Reader_takeIngredient F_Mod_knownFood
  rw [r_is h (k := 2) (kk := 2) rfl hl.1 htm (by decide), bI_s, nmI_e, hl.2.2.1]
  unfold J_Reader_takeIngredient_78
  by_cases e : tkK b n t = 2
  · obtain ⟨v1, v2, v3⟩ := tkV_name e
    have hw : okN (tokL b n (tkF b n t)) := ⟨v2, v3⟩
    have hK := (h.2.2.1 t (by omega)).2.2.2 e
    rw [if_pos e, if_neg (show ¬ (1 : Int32) = 0 by decide), r_value h hl.1 htm, bI_s, v1]
    generalize tokL b n (tkF b n t) = w at hw hK ⊢
    -- what knownFood will find
    have hkn := q_knownL (t := t) hM hA (by omega) hw hK (by omega) nc 0 FU (by omega) (by unfold FU; omega)
    have hkn' : ∀ N1, Eo mS N N1 → (∃ j, j < nc ∧ l j = w ∧ ¬ a j < 0 ∧ H_Mod_knownFood_21 (nI t) N1 K FU 0 = some (a j, N1)) ∨ ((∀ j, j < nc → l j = w → a j < 0) ∧ H_Mod_knownFood_21 (nI t) N1 K FU 0 = J_Mod_knownFood_67 (nI t) N1 K) := by
      intro N1 g5
      have hM1 : Mn nc l a N1 K := ⟨by rw [g5 401 20 (by unfold mS; omega)]; exact hM.1, fun k hk => ⟨(hM.2 k hk).1, (hM.2 k hk).2.1, by rw [g5 410 k (by unfold mS; omega)]; exact (hM.2 k hk).2.2⟩⟩
      rcases q_knownL (t := t) hM1 hA (by omega) hw hK (by omega) nc 0 FU (by omega) (by unfold FU; omega) with ⟨j, q1, q2, q3, q4, q5⟩ | ⟨q1, q2⟩
      · exact Or.inl ⟨j, q2, q3, q4, q5⟩
      · exact Or.inr ⟨fun j => q1 j (Nat.zero_le j), q2⟩
    -- the class up to need
    obtain ⟨M1, f1, hE1, hlate⟩ : ∃ M1, (bI (F_Reader_indexOf (lN (enc 32 w)) M L) (fun r9 => (if 0 ≤ r9 then bI (F_Main_at 10 21 r9 M) (fun r12 => J_Reader_takeIngredient_40 ld (nI dd) r12 M L) else J_Reader_takeIngredient_40 ld (nI dd) (-1) M L))) = bI (F_Reader_need 2 M1) (fun M5 => some M5) ∧ Eo (fun c j => (c = 3 ∧ (j = 4 ∨ j = 5)) ∨ c = ld + 5) M M1 ∧
        (lf = 0 → (∃ j f, j < nc ∧ f < nf ∧ l j = w ∧ a j = nI f ∧ M1 = uM M (ld + 5) (6 * dd + f) (M (ld + 5) (6 * dd + f) + 1)) ∨ ((∀ j, j < nc → l j = w → a j < 0) ∧ M1 = lateC 0 4 t M)) ∧ (lf ≠ 0 → M1 3 4 = M 3 4 ∧ M1 3 5 = M 3 5) := by
      by_cases h0 : lf = 0
      · subst h0
        obtain ⟨hC1, hC2, hC3, hC4⟩ := hC rfl
        rw [r_index hC1 (by omega) hw, bI_s]
        have hx2 := (fxi_le l' w (nc + 1) 0).2
        have hlt : ∀ x : Int32, x < 0 → J_Reader_takeIngredient_40 ld (nI dd) x M L = bI (F_Reader_need 2 (lateC 0 4 t M)) (fun M5 => some M5) := by
          intro x hx
          unfold J_Reader_takeIngredient_40 J_Reader_takeIngredient_78
          rw [if_neg (i32_nle_of_lt hx), r_late (k := 4) (kk := 4) rfl hl.1 hL.1 hL.2.2.1, bI_s]
        have hlE : Eo (fun c j => (c = 3 ∧ (j = 4 ∨ j = 5)) ∨ c = ld + 5) M (lateC 0 4 t M) := lateC_E.mono (fun c j q => by unfold cW at q; omega)
        by_cases hx : fxi l' w (nc + 1) 0 < nc + 1
        · have hat := fxi_at (l := l') (w := w) (nc + 1) 0 (by omega)
          rw [if_pos hx, if_pos (i32_le_of_nlt (nI_pos (by omega))), s_at (by omega) (by decide), bI_s, (hC1.2 _ hx).2.2]
          by_cases hxn : fxi l' w (nc + 1) 0 = nc
          · rw [hxn, hC4, hlt _ nI_neg1]
            refine ⟨_, rfl, hlE, fun _ => Or.inr ⟨fun j hj hw => ?_, rfl⟩, fun q => absurd rfl q⟩
            exfalso
            have := hC2 j nc (by omega) (by omega) (by rw [(hC3 j hj).1, hw, ← hat, hxn])
            omega
          · have hxl : fxi l' w (nc + 1) 0 < nc := by omega
            generalize fxi l' w (nc + 1) 0 = x at *
            rw [(hC3 x hxl).1] at hat
            rw [(hC3 x hxl).2]
            have uq : ∀ j, j < nc → l j = w → j = x := fun j hj hj2 => hC2 j x (by omega) (by omega) (by rw [(hC3 j hj).1, (hC3 x hxl).1, hj2, hat])
            rcases hA x hxl with ha | ⟨f, hf, ha⟩
            · rw [ha, hlt _ nI_neg1]
              exact ⟨_, rfl, hlE, fun _ => Or.inr ⟨fun j hj hw => by rw [uq j hj hw, ha]; exact nI_neg1, rfl⟩, fun q => absurd rfl q⟩
            · rw [ha]
              unfold J_Reader_takeIngredient_40 J_Reader_takeIngredient_78 F_Land_inDish
              have e6 : nI dd * 6 + nI f = nI (6 * dd + f) := by rw [show (6 : Int32) = nI 6 from rfl, nI_mul, nI_add, Nat.mul_comm]
              rw [if_pos (i32_le_of_nlt (nI_pos (by omega))), e6, s_at (by omega) (by decide), bI_s, bI_s, s_put (by omega) (by decide), bI_s]
              exact ⟨_, rfl, Eo.rf.u (Or.inr rfl), fun _ => Or.inl ⟨x, f, hxl, hf, hat, ha, rfl⟩, fun q => absurd rfl q⟩
        · rw [if_neg hx, if_neg (by decide), hlt _ nI_neg1]
          refine ⟨_, rfl, hlE, fun _ => Or.inr ⟨fun j hj hw => ?_, rfl⟩, fun q => absurd rfl q⟩
          exact absurd (by rw [(hC3 j hj).1, hw]) (fxi_no (l := l') (w := w) (nc + 1) 0 j (by omega) (by omega))
      · have hh : ∀ M1 : gM, Eo (fun c j => c = ld + 5) M M1 → Eo (fun c j => (c = 3 ∧ (j = 4 ∨ j = 5)) ∨ c = ld + 5) M M1 ∧
        (lf = 0 → (∃ j f, j < nc ∧ f < nf ∧ l j = w ∧ a j = nI f ∧ M1 = uM M (ld + 5) (6 * dd + f) (M (ld + 5) (6 * dd + f) + 1)) ∨ ((∀ j, j < nc → l j = w → a j < 0) ∧ M1 = lateC 0 4 t M)) ∧ (lf ≠ 0 → M1 3 4 = M 3 4 ∧ M1 3 5 = M 3 5) := fun M1 q => ⟨q.mono (fun c j w => Or.inr w), fun q => absurd q h0, fun _ => ⟨q 3 4 (by omega), q 3 5 (by omega)⟩⟩
        have h40 : ∀ x : Int32, ∃ M1, J_Reader_takeIngredient_40 ld (nI dd) x M L = bI (F_Reader_need 2 M1) (fun M5 => some M5) ∧ Eo (fun c _ => c = ld + 5) M M1 := by
          intro x
          unfold J_Reader_takeIngredient_40 J_Reader_takeIngredient_78
          by_cases hx : 0 ≤ x
          · obtain ⟨r1, g1, -⟩ := tf_Land_inDish (Ld0 := ld) (p1 := nI dd) (p2 := x) (M := M) hld
            obtain ⟨M1, g2, g3⟩ := tf_Main_put (a1 := ld + 5) (N1 := 30) (p2 := nI dd * 6 + x) (p3 := r1 + 1) (M := M) (by decide)
            rw [if_pos hx, g1, bI_s, g2, bI_s]
            exact ⟨M1, rfl, g3.one⟩
          · rw [if_neg hx, r_late (k := 4) (kk := 4) rfl hl.1 hL.1 hL.2.2.1, bI_s]
            have e2 : lateC lf 4 t M = M := by unfold lateC; rw [if_neg h0]
            rw [e2]
            exact ⟨M, rfl, Eo.rf⟩
        obtain ⟨r9, g9, -⟩ := tq_Reader_indexOf (p1 := lN (enc 32 w)) (M := M) (L := L)
        rw [g9, bI_s]
        by_cases c1 : 0 ≤ r9
        · obtain ⟨r12, g12, -⟩ := tf_Main_at (a1 := 10) (N1 := 21) (p2 := r9) (M := M) (by decide)
          rw [if_pos c1, g12, bI_s]
          obtain ⟨M1, q1, q2⟩ := h40 r12
          exact ⟨M1, q1, hh M1 q2⟩
        · rw [if_neg c1]
          obtain ⟨M1, q1, q2⟩ := h40 (-1)
          exact ⟨M1, q1, hh M1 q2⟩
    rw [f1]
    have hl1 : Lv m t M1 N := ⟨by rw [hE1 3 1 (by omega)]; exact hl.1, by rw [hE1 3 2 (by omega)]; exact hl.2.1, hl.2.2⟩
    have h1 : Tk b n m M1 L N K := h.keep (fun j => hE1 6 j (by omega)) (fun j => hE1 7 j (by omega)) (fun j => rfl) (fun _ => rfl) (fun _ => rfl) (fun _ => rfl) (fun _ => rfl)
    obtain ⟨M', N1, g1, g2, g3, g5⟩ := p_need (k := 2) (kk := 2) (kq := 1) rfl rfl (Or.inl (by decide)) (by decide) (Or.inl ⟨h1, hl1⟩)
    rw [g1, bI_s, g2, bI_s]
    rcases g3 with ⟨a1, a2, a3, a4⟩ | g3
    · have hf1 := a1.2.2.2.1
      have hEE : Eo (cG ld) M M' := (hE1.mono (fun c j q => by unfold cG; omega)).tr (a4.mono (fun c j q => by unfold cS at q; unfold cG; omega))
      have h15 : N1 401 15 = N 401 15 := g5 401 15 (by unfold mS; omega)
      have h16 : N1 401 16 = N 401 16 := g5 401 16 (by unfold mS; omega)
      rw [if_pos (by rw [hf1]; decide)]
      have hp1 : lf ≠ 0 → ∃ la, la < t ∧ N1 401 16 = nI (tkF b n la) := fun q => by obtain ⟨la, x1, x2⟩ := hp q; exact ⟨la, x1, by rw [h16]; exact x2⟩
      have hL15 : N1 401 15 = nI lf := h15.trans hL.2.1
      rcases hkn' N1 g5 with ⟨j, j1, j2, j3, j4⟩ | ⟨j1, j2⟩
      · rw [j4]
        have har := (hA j j1).resolve_left (fun q => j3 (by rw [q]; exact nI_neg1))
        refine ⟨M', a j, N1, rfl, rfl, Or.inr har, Or.inl ⟨a1, hEE, ?_⟩, g5.mono mS_mI⟩
        by_cases h0 : lf = 0
        · subst h0
          rcases hlate.1 rfl with ⟨j', f, x1, x2, x3, x4, x5⟩ | ⟨x1, x2⟩
          · obtain ⟨hC1, hC2, hC3, hC4⟩ := hC rfl
            have hjj : j = j' := hC2 j j' (by omega) (by omega) (by rw [(hC3 j j1).1, (hC3 j' x1).1, j2, x3])
            subst hjj
            have z4 : M1 3 4 = M 3 4 := by rw [x5, uM_diff (by omega)]
            refine ⟨0, ⟨by rw [a4 3 4 (by unfold cS; omega), z4]; exact hL.1, hL15, by decide, fun q => absurd rfl q⟩, fun _ => ⟨rfl, f, x2, x4, fun jj => ?_⟩⟩
            rw [a4 (ld + 5) jj (by unfold cS; omega), x5, uM_at]
            by_cases hjj : jj = 6 * dd + f
            · rw [if_pos ⟨rfl, hjj⟩, if_pos hjj, hjj]
            · rw [if_neg (fun q => hjj q.2), if_neg hjj]
          · exact absurd (x1 j j1 j2) j3
        · obtain ⟨x1, x2⟩ := hlate.2 h0
          exact ⟨lf, hL.up (by omega) (by rw [a4 3 4 (by unfold cS; omega)]; exact x1) (by rw [a4 3 5 (by unfold cS; omega)]; exact x2) h15 h16, fun q => absurd q h0⟩
      · rw [j2]
        unfold J_Mod_knownFood_67
        have hT2 : Tk b n m M' L N1 K := h1.eo (a4.mono cS_cI) (g5.mono mS_mI)
        rw [q_late hT2 (k := 4) (kk := 4) rfl htm hf1 hL15 hL.2.2.1 hp1, bI_s]
        have hW := (lateM_E (lf := lf) (k := 4) (t := tkF b n t) (M := N1))
        refine ⟨M', -1, _, rfl, rfl, Or.inl rfl, Or.inl ⟨a1.keepW Eo.rf hW, hEE, ?_⟩, (g5.mono mS_mI).tr (hW.mono mW_mI)⟩
        by_cases h0 : lf = 0
        · subst h0
          rcases hlate.1 rfl with ⟨j', f, x1, x2, x3, x4, x5⟩ | ⟨x1, x2⟩
          · exact absurd (j1 j' x1 x3) (by rw [x4]; exact nI_pos (by omega))
          · obtain ⟨lf', y1, y2⟩ := (hL).late (k := 4) (M' := M') (N' := lateM 0 4 (tkF b n t) N1) (by decide) (by rw [a4 3 4 (by unfold cS; omega), x2]) (by rw [a4 3 5 (by unfold cS; omega), x2]) (by unfold lateM; rw [if_pos rfl, if_pos rfl, uM_diff (by omega), uM_same, uM_diff (by omega), uM_same]) (by unfold lateM; rw [if_pos rfl, if_pos rfl, uM_same, uM_same])
            exact ⟨lf', y2, fun q => absurd q y1⟩
        · have e2 : lateM lf 4 (tkF b n t) N1 = N1 := by unfold lateM; rw [if_neg h0]
          rw [e2]
          obtain ⟨x1, x2⟩ := hlate.2 h0
          exact ⟨lf, hL.up (by omega) (by rw [a4 3 4 (by unfold cS; omega)]; exact x1) (by rw [a4 3 5 (by unfold cS; omega)]; exact x2) h15 h16, fun q => absurd q h0⟩
    · obtain ⟨k2, ft, u, x1, x2, x3, x4, x5, x6, x7, x8⟩ := id g3
      rw [if_neg (by rw [x5]; exact nI_nle (by omega) (by omega))]
      exact ⟨M', -1, N1, rfl, rfl, Or.inl rfl, Or.inr g3, g5.mono mS_mI⟩
  · rw [if_neg e, if_pos (show (0 : Int32) = 0 from rfl)]
    obtain ⟨M', N1, g1, g2, g3, g5⟩ := p_need (k := 2) (kk := 2) (kq := 1) rfl rfl (Or.inl (by decide)) (by decide) (Or.inl ⟨h, hl⟩)
    rw [g1, bI_s, g2, bI_s]
    rcases g3 with ⟨a1, a2, a3, a4⟩ | g3
    · exact absurd a3 e
    · obtain ⟨k2, ft, u, x1, x2, x3, x4, x5, x6, x7, x8⟩ := id g3
      rw [if_neg (by rw [x5]; exact nI_nle (by omega) (by omega))]
      exact ⟨M', -1, N1, rfl, rfl, Or.inl rfl, Or.inr g3, g5.mono mS_mI⟩
end PAR4
