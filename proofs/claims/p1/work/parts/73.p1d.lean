/-! pot on a fresh object -/
theorem ff_step {f i : Nat} {M : gM} (hi : i < 6) (h0 : M 66 i = 0) : H_PotSearch_fillFrom_6 64 (f + 1) 6 (nI i) M = H_PotSearch_fillFrom_6 64 f 6 (nI (i + 1)) (uM M 393 i 0) := by
  show B_PotSearch_fillFrom_6 64 (H_PotSearch_fillFrom_6 64 f) 6 (nI i) M = _
  unfold B_PotSearch_fillFrom_6
  rw [if_neg (by rw [show (6 : Int32) = nI 6 from rfl, nI_leI (by omega) (by omega)]; omega), s_at hi (by decide), bI_s, h0, if_pos (by decide), nmI_e, s_put hi (by decide), bI_s, nmI_e, nmI_e, nI_1]
  rfl
theorem ff_end {f : Nat} {x : Int32} {M : gM} : H_PotSearch_fillFrom_6 64 (f + 1) x 6 M = some M := rfl
theorem ff_all {M : gM} (h : ∀ i, i < 6 → M 66 i = 0) : F_PotSearch_fillFrom 64 0 6 M = some (uM (uM (uM (uM (uM (uM M 393 0 0) 393 1 0) 393 2 0) 393 3 0) 393 4 0) 393 5 0) := by
  unfold F_PotSearch_fillFrom
  rw [FU_k 7 (by decide)]
  generalize 199000 + (1000 - 7) = g
  refine (ff_step (f := g + 6) (i := 0) (by omega) (h _ (by omega))).trans ?_
  refine (ff_step (f := g + 5) (i := 1) (by omega) (by rw [uM_diff (by omega)]; exact h _ (by omega))).trans ?_
  refine (ff_step (f := g + 4) (i := 2) (by omega) (by rw [uM_diff (by omega), uM_diff (by omega)]; exact h _ (by omega))).trans ?_
  refine (ff_step (f := g + 3) (i := 3) (by omega) (by rw [uM_diff (by omega), uM_diff (by omega), uM_diff (by omega)]; exact h _ (by omega))).trans ?_
  refine (ff_step (f := g + 2) (i := 4) (by omega) (by rw [uM_diff (by omega), uM_diff (by omega), uM_diff (by omega), uM_diff (by omega)]; exact h _ (by omega))).trans ?_
  refine (ff_step (f := g + 1) (i := 5) (by omega) (by rw [uM_diff (by omega), uM_diff (by omega), uM_diff (by omega), uM_diff (by omega), uM_diff (by omega)]; exact h _ (by omega))).trans ?_
  exact ff_end
theorem wg_step {f i : Nat} {M : gM} (hi : i < 6) (h0 : M 393 i = 0) : H_PotSearch_weigh_19 12 (f + 1) (nI i) M = H_PotSearch_weigh_19 12 f (nI (i + 1)) M := by
  show B_PotSearch_weigh_19 12 (H_PotSearch_weigh_19 12 f) (nI i) M = _
  unfold B_PotSearch_weigh_19 J_PotSearch_weigh_110
  rw [if_neg (by rw [show (6 : Int32) = nI 6 from rfl, nI_leI (by omega) (by omega)]; omega), s_at hi (by decide), bI_s, h0, if_pos (by decide), nmI_e, nI_1]
theorem wg_all {M : gM} (h : ∀ i, i < 6 → M 393 i = 0) : F_PotSearch_weigh 12 M = some (uM (uM (fl M 394 0 3 (fun _ => 0)) 391 3 0) 391 4 0) := by
  unfold F_PotSearch_weigh
  rw [s_wipe (by decide), bI_s, nmM_e, nmM_e, FU_k 7 (by decide)]
  generalize 199000 + (1000 - 7) = g
  have h2 : ∀ i, i < 6 → (uM (uM (fl M 394 0 3 (fun _ => 0)) 391 3 0) 391 4 0) 393 i = 0 := fun i hi => by rw [uM_diff (by omega), uM_diff (by omega), fl_out (by omega)]; exact h i hi
  generalize uM (uM (fl M 394 0 3 (fun _ => 0)) 391 3 0) 391 4 0 = M1 at h2 ⊢
  refine (wg_step (f := g + 6) (i := 0) (by omega) (h2 _ (by omega))).trans ?_
  refine (wg_step (f := g + 5) (i := 1) (by omega) (h2 _ (by omega))).trans ?_
  refine (wg_step (f := g + 4) (i := 2) (by omega) (h2 _ (by omega))).trans ?_
  refine (wg_step (f := g + 3) (i := 3) (by omega) (h2 _ (by omega))).trans ?_
  refine (wg_step (f := g + 2) (i := 4) (by omega) (h2 _ (by omega))).trans ?_
  refine (wg_step (f := g + 1) (i := 5) (by omega) (h2 _ (by omega))).trans ?_
  rfl
theorem e66 : ∀ i, i < 6 → M00 66 i = 0 := by decide +kernel
theorem e21_1 : M00 21 1 = 0 := by decide +kernel
theorem find0 (a b c : Int32) : ∃ M', F_PotSearch_find 12 64 a b c M00 = some (0, M') ∧ Eo (fun c _ => 391 ≤ c ∧ c ≤ 394) M00 M' := by
  unfold F_PotSearch_find
  rw [s_put0 (by decide) (by decide), bI_s, s_put1 (by decide) (by decide), bI_s, s_put2 (by decide) (by decide), bI_s, nmM_e]
  have hE : Eo (fun c _ => 391 ≤ c ∧ c ≤ 394) M00 (uM (uM (uM (uM M00 392 0 a) 392 1 b) 392 2 c) 391 9 (0)) := (((Eo.rf.u (by omega)).u (by omega)).u (by omega)).u (by omega)
  have h9 : (uM (uM (uM (uM M00 392 0 a) 392 1 b) 392 2 c) 391 9 (0)) 391 9 = 0 := uM_same
  generalize uM (uM (uM (uM M00 392 0 a) 392 1 b) 392 2 c) 391 9 (0) = M1 at hE h9 ⊢
  have hl : F_Law_looksAt (12 + 9) (1) M1 = some 0 := by
    unfold F_Law_looksAt
    rw [FU_s]
    show B_Law_looksAt_2 21 (1) M1 _ 0 = _
    unfold B_Law_looksAt_2
    rw [hE 21 1 (by omega), e21_1, if_pos (by decide)]
  rw [hl, bI_s, if_pos rfl]
  unfold J_PotSearch_find_52
  rw [nmM_e]
  have hE2 : Eo (fun c _ => 391 ≤ c ∧ c ≤ 394) M00 (uM M1 391 10 (1)) := hE.u (by omega)
  have h92 : uM M1 391 10 (1) 391 9 = 0 := by rw [uM_diff (by omega)]; exact h9
  generalize uM M1 391 10 (1) = M2 at hE2 h92 ⊢
  rw [ff_all (fun i hi => by rw [hE2 66 i (by omega)]; exact e66 i hi), bI_s]
  have hE3 : Eo (fun c _ => 391 ≤ c ∧ c ≤ 394) M00 (uM (uM (uM (uM (uM (uM M2 393 0 0) 393 1 0) 393 2 0) 393 3 0) 393 4 0) 393 5 0) := (((((hE2.u (by omega)).u (by omega)).u (by omega)).u (by omega)).u (by omega)).u (by omega)
  have h93 : (uM (uM (uM (uM (uM (uM M2 393 0 0) 393 1 0) 393 2 0) 393 3 0) 393 4 0) 393 5 0) 391 9 = 0 := by
    rw [uM_diff (by omega), uM_diff (by omega), uM_diff (by omega), uM_diff (by omega), uM_diff (by omega), uM_diff (by omega)]; exact h92
  have h393 : ∀ i, i < 6 → (uM (uM (uM (uM (uM (uM M2 393 0 0) 393 1 0) 393 2 0) 393 3 0) 393 4 0) 393 5 0) 393 i = 0 := by
    intro i hi
    rcases (show i = 0 ∨ i = 1 ∨ i = 2 ∨ i = 3 ∨ i = 4 ∨ i = 5 by omega) with rfl | rfl | rfl | rfl | rfl | rfl <;> simp [uM_at]
  generalize uM (uM (uM (uM (uM (uM M2 393 0 0) 393 1 0) 393 2 0) 393 3 0) 393 4 0) 393 5 0 = M3 at hE3 h93 h393 ⊢
  rw [FU_s]
  show ∃ M', B_PotSearch_find_66 12 64 _ 0 M3 = some (0, M') ∧ _
  unfold B_PotSearch_find_66
  rw [if_neg (by decide), wg_all h393, bI_s, uM_diff (by omega), uM_same, if_pos rfl]
  have hE4 : Eo (fun c _ => 391 ≤ c ∧ c ≤ 394) M00 (uM (uM (fl M3 394 0 3 (fun _ => 0)) 391 3 0) 391 4 0) := by
    refine Eo.u (Eo.u (fun c j q => ?_) (by omega)) (by omega)
    rw [fl_out (fun w => q (by omega))]
    exact hE3 c j q
  have h94 : (uM (uM (fl M3 394 0 3 (fun _ => 0)) 391 3 0) 391 4 0) 391 9 = 0 := by rw [uM_diff (by omega), uM_diff (by omega), fl_out (by omega)]; exact h93
  generalize uM (uM (fl M3 394 0 3 (fun _ => 0)) 391 3 0) 391 4 0 = M4 at hE4 h94 ⊢
  unfold J_PotSearch_find_86
  rw [h94]
  exact ⟨M4, rfl, hE4⟩
theorem sv_i : ∀ i, i < 6 → F_Mod_sevens (5 - nI i) = some (nI (7 ^ (5 - i))) := by decide +kernel
theorem sv_6 : F_Mod_sevens 6 = some (nI 117649) := by decide +kernel
theorem isPot0 {w : Nat} : ∀ (d i f : Nat) (M : gM), i + d = 6 → 0 < w → w < 7 ^ d → M 401 18 = 0 → M 411 0 = 0 → ∃ M', H_Mod_isPot_2 (nI w) (f + 1 + d) (nI i) M = some (0, M') ∧ Eo (fun c _ => c = 438) M M' := by
  intro d
  induction d with
  | zero => intro i f M h h0 h1; exact absurd h1 (by omega)
  | succ d ih =>
    intro i f M h h0 h1 hl hf
    have hw : w < 117649 := Nat.lt_of_lt_of_le h1 (Nat.le_trans (Nat.pow_le_pow_right (by decide) (show d + 1 ≤ 6 by omega)) (by decide))
    have hp : 7 ^ d ≤ 16807 := Nat.le_trans (Nat.pow_le_pow_right (by decide) (show d ≤ 5 by omega)) (by decide)
    have hp0 : 0 < 7 ^ d := Nat.pow_pos (by decide)
    have hdd : 5 - i = d := by omega
    show ∃ M', B_Mod_isPot_2 (nI w) (H_Mod_isPot_2 (nI w) (f + 1 + d)) (nI i) M = some (0, M') ∧ _
    unfold B_Mod_isPot_2
    have hq : w / 7 ^ d < 7 := by
      rw [Nat.div_lt_iff_lt_mul hp0]
      rw [Nat.pow_succ] at h1
      omega
    have hdv : nI w / nI (7 ^ d) - nI w / nI (7 ^ d) / 7 * 7 = nI (w / 7 ^ d) := by
      rw [pk_div (by omega) hp0 (by omega), show (7 : Int32) = nI 7 from rfl, pk_rem (by omega) (by decide) (by decide), Nat.mod_eq_of_lt hq]
    rw [if_neg (by rw [show (6 : Int32) = nI 6 from rfl, nI_leI (by omega) (by omega)]; omega), sv_i i (by omega), bI_s, hdd, if_neg (nI_ne0 hp0 (by omega)), if_neg (nI_in (by omega) (by decide)), nI_clamp (by omega), nmM_e, if_neg (nI_inc (by omega) (by omega)), uM_same, hdv]
    have e18 : uM M 438 i (nI (w / 7 ^ d)) 401 18 = 0 := by rw [uM_diff (by omega)]; exact hl
    have e411 : uM M 438 i (nI (w / 7 ^ d)) 411 0 = 0 := by rw [uM_diff (by omega)]; exact hf
    have hE : Eo (fun c _ => c = 438) M (uM M 438 i (nI (w / 7 ^ d))) := Eo.rf.u rfl
    rw [e18]
    rcases Nat.eq_zero_or_pos (w / 7 ^ d) with hz | hz
    · rw [hz, if_pos (by decide)]
      rw [hz] at e18 e411 hE
      generalize uM M 438 i (nI 0) = M1 at e18 e411 hE ⊢
      unfold J_Mod_isPot_64
      rw [nmI_e, nI_1]
      have hlt : w < 7 ^ d := by
        rcases Nat.div_eq_zero_iff.mp hz with h9 | h9
        · omega
        · exact h9
      obtain ⟨M', g1, g2⟩ := ih (i + 1) f M1 (by omega) h0 hlt e18 e411
      exact ⟨M', g1, hE.tr g2⟩
    · rw [if_neg (fun q => by rw [show (0 : Int32) = nI 0 from rfl, nI_leI (by omega) (by omega)] at q; omega), if_neg (by decide), show (0 : Int32).toNatClampNeg = 0 from by decide, e411, if_pos (by rw [show (0 : Int32) = nI 0 from rfl, nI_leI (by omega) (by omega)]; omega)]
      exact ⟨_, rfl, hE⟩
theorem pot0_loop (a b c d : Int32) : ∀ (w f : Nat) (M : gM), w < f → w < 117649 → M 401 18 = 0 → M 411 0 = 0 → M 401 59 = -1 → ∃ M', H_Mod_pot_61 a b c d f (nI w) M = some (-2, M') := by
  intro w
  induction w with
  | zero =>
    intro f M hf hw h1 h2 h3
    obtain ⟨f, rfl⟩ : ∃ g, f = g + 1 := ⟨f - 1, by omega⟩
    show ∃ M', B_Mod_pot_61 a b c d (H_Mod_pot_61 a b c d f) (nI 0) M = some (-2, M')
    unfold B_Mod_pot_61 J_Mod_pot_156
    rw [if_pos (by decide), h3, if_neg (by decide)]
    exact ⟨_, rfl⟩
  | succ w ih =>
    intro f M hf hw h1 h2 h3
    obtain ⟨f, rfl⟩ : ∃ g, f = g + 1 := ⟨f - 1, by omega⟩
    show ∃ M', B_Mod_pot_61 a b c d (H_Mod_pot_61 a b c d f) (nI (w + 1)) M = some (-2, M')
    unfold B_Mod_pot_61
    rw [if_neg (nI_nle (by omega) (by omega))]
    obtain ⟨M', g1, g2⟩ := isPot0 (w := w + 1) 6 0 (199000 + (1000 - 7)) M (by omega) (by omega) (by omega) h1 h2
    have g1 : F_Mod_isPot (nI (w + 1)) M = some (0, M') := g1
    rw [g1, bI_s, if_pos rfl]
    unfold J_Mod_pot_150
    rw [nmI_e, show nI (w + 1) + (-1) = nI w from by rw [← nI_1, Int32.add_assoc, show (1 : Int32) + -1 = 0 from by decide, Int32.add_zero]]
    exact ih f M' (by omega) (by omega) (by rw [g2 401 18 (by decide)]; exact h1) (by rw [g2 411 0 (by decide)]; exact h2) (by rw [g2 401 59 (by decide)]; exact h3)
theorem e411' : M00 411 0 = 0 := by decide +kernel
theorem q_pot (a b c d : Int32) : ∃ M1 r M2, F_Main_pot 12 a b c d M00 = some (r, M1) ∧ F_Mod_pot a b c d M1 = some (r, M2) := by
  unfold F_Main_pot F_Mod_pot
  have key : ∀ p : Int32, (F_Main_isOne p 100 = some 0 ∧ F_Mod_in p 0 99 = some 0) ∨ (F_Main_isOne p 100 = some 1 ∧ F_Mod_in p 0 99 = some 1) := fun p => by
    rcases one_cases p (n := 100) (by decide) with ⟨h1, h2⟩ | ⟨k, h1, rfl, h2⟩
    · rcases in_cases p (a := 0) (b := 99) (by decide) (by decide) with ⟨g1, g2⟩ | ⟨k, g0, g1, rfl, g2⟩
      · exact Or.inl ⟨h1, g1⟩
      · exact absurd ⟨k, by omega, rfl⟩ h2
    · rcases in_cases (nI k) (a := 0) (b := 99) (by decide) (by decide) with ⟨g1, g2⟩ | ⟨k', g0, g1, g3, g2⟩
      · exact absurd ⟨k, by omega, by omega, rfl⟩ g2
      · exact Or.inr ⟨h2, g2⟩
  have key8 : ∀ p : Int32, (F_Main_isOne p 8 = some 0 ∧ F_Mod_in p 0 7 = some 0) ∨ (F_Main_isOne p 8 = some 1 ∧ F_Mod_in p 0 7 = some 1) := fun p => by
    rcases one_cases p (n := 8) (by decide) with ⟨h1, h2⟩ | ⟨k, h1, rfl, h2⟩
    · rcases in_cases p (a := 0) (b := 7) (by decide) (by decide) with ⟨g1, g2⟩ | ⟨k, g0, g1, rfl, g2⟩
      · exact Or.inl ⟨h1, g1⟩
      · exact absurd ⟨k, by omega, rfl⟩ h2
    · rcases in_cases (nI k) (a := 0) (b := 7) (by decide) (by decide) with ⟨g1, g2⟩ | ⟨k', g0, g1, g3, g2⟩
      · exact absurd ⟨k, by omega, by omega, rfl⟩ g2
      · exact Or.inr ⟨h2, g2⟩
  rcases key a with ⟨h, h'⟩ | ⟨h, h'⟩ <;> simp only [h, h', bI_s, i10, if_true, if_false]
  · exact ⟨_, _, _, rfl, rfl⟩
  rcases key b with ⟨h, h'⟩ | ⟨h, h'⟩ <;> simp only [h, h', bI_s, i10, if_true, if_false]
  · exact ⟨_, _, _, rfl, rfl⟩
  rcases key c with ⟨h, h'⟩ | ⟨h, h'⟩ <;> simp only [h, h', bI_s, i10, if_true, if_false]
  · exact ⟨_, _, _, rfl, rfl⟩
  rcases key8 d with ⟨h, h'⟩ | ⟨h, h'⟩ <;> simp only [h, h', bI_s, i10, if_true, if_false]
  · exact ⟨_, _, _, rfl, rfl⟩
  obtain ⟨M1, g1, g2⟩ := find0 a b c
  rw [g1, bI_s, if_pos rfl]
  refine ⟨M1, -2, ?_⟩
  rw [s_copies (lv := 0) (by rw [g2 401 18 (by omega)]; exact e401_18) (by decide), bI_s, nmM_e, sv_6, bI_s, nmI_e, show nI 117649 - 1 = nI 117648 from by decide]
  obtain ⟨M2, k⟩ := pot0_loop a b c d 117648 FU (uM (uM (fl M1 437 0 38 (M1 436)) 401 54 (M1 423 0)) 401 59 (-1)) (by decide) (by decide) (by rw [uM_diff (by omega), uM_diff (by omega), fl_out (by omega), g2 401 18 (by omega)]; exact e401_18) (by rw [uM_diff (by omega), uM_diff (by omega), fl_out (by omega), g2 411 0 (by omega)]; exact e411') uM_same
  exact ⟨M2, rfl, k⟩
theorem q_tell1 : ∀ a : Nat, a < 3 → ∀ b : Nat, b < 10 → ∀ c : Nat, c < 100 → (bI (F_Main_tell (nI a) (nI b) (nI c) M00) fun q1 => bI (F_Mod_tell (nI a) (nI b) (nI c) q1.2) fun q2 => some (decide (q1.1 = q2.1))) = some true := by decide +kernel
