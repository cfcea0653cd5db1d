theorem g6_1 : ((0 + 1 : Int32) < 0 ∨ 6 ≤ (0 + 1 : Int32).toNatClampNeg) = False := eq_false (by decide)
theorem g6_2 : ((0 + 2 : Int32) < 0 ∨ 6 ≤ (0 + 2 : Int32).toNatClampNeg) = False := eq_false (by decide)
theorem g6_3 : ((0 + 3 : Int32) < 0 ∨ 6 ≤ (0 + 3 : Int32).toNatClampNeg) = False := eq_false (by decide)
theorem g6_4 : ((0 + 4 : Int32) < 0 ∨ 6 ≤ (0 + 4 : Int32).toNatClampNeg) = False := eq_false (by decide)
theorem g6_5 : ((0 + 5 : Int32) < 0 ∨ 6 ≤ (0 + 5 : Int32).toNatClampNeg) = False := eq_false (by decide)
theorem g6_6 : (0 + 6 : Int32) = 6 := by decide
theorem tb0 (p : Int32) : (F_Main_isOne p (M00 383 3 + 1) = some 0 ∧ F_Mod_in p 0 (M00 401 64) = some 0) ∨ p = 0 := by
  rw [show M00 383 3 + 1 = nI 1 from by decide +kernel, show M00 401 64 = nI 0 from by decide +kernel]
  rcases one_cases p (n := 1) (by decide) with ⟨h1, h2⟩ | ⟨k, h1, rfl, h2⟩
  · rcases in_cases p (a := 0) (b := 0) (by decide) (by decide) with ⟨g1, g2⟩ | ⟨k, g0, g1, rfl, g2⟩
    · exact Or.inl ⟨h1, g1⟩
    · exact absurd ⟨k, by omega, rfl⟩ h2
  · exact Or.inr (by rw [show k = 0 by omega]; rfl)
theorem rg (p : Int32) (n : Nat) (hn : n < 1000) : (F_Main_isOne p (nI (n + 1)) = some 0 ∧ F_Mod_in p 0 (nI n) = some 0 ∧ (p < 0 ∨ ¬ p < 0 ∧ nI (n + 1) ≤ p)) ∨ ∃ k, k < n + 1 ∧ p = nI k := by
  by_cases h0 : p < 0
  · exact Or.inl ⟨one_lo h0, in_lo h0, Or.inl h0⟩
  · by_cases h1 : nI (n + 1) ≤ p
    · refine Or.inl ⟨one_hi h1, in_hi ?_, Or.inr ⟨h0, h1⟩⟩
      rw [i_lt]; rw [i_le] at h1
      rw [nI_toInt (by omega)] at h1 ⊢
      omega
    · obtain ⟨k, hk, rfl⟩ := nI_of h0
      rw [nI_leI (by omega) hk] at h1
      exact Or.inr ⟨k, by omega, rfl⟩
theorem pk_0 (xs : Nat → Int32) (K : Int32 → gM → gL → Nat → Option Int32) (hK : ∀ M L ld, K 6 M L ld = some 1) : C_law_0 xs 6 K 0 M00 L00 12 = some 1 := by
  unfold C_law_0
  simp only [g6_1, g6_2, g6_3, g6_4, g6_5, g6_6, if_false, if_true, bI_s, nmI_e, s_Main_feed (t := 0) e1_1 (by decide)]
  rw [s_Mod_feed (t := 0) (by rw [tw4_o (by omega) (by omega), tw4_o (by omega) (by omega), tw4_o (by omega) (by omega), tw4_o (by omega) (by omega), tw4_o (by omega) (by omega)]; exact (by decide +kernel : M00 401 2 = 0)) (by decide)]
  simp only [g6_1, g6_2, g6_3, g6_4, g6_5, g6_6, if_false, if_true, bI_s, nmI_e, hK]
theorem pk_1 (xs : Nat → Int32) (K : Int32 → gM → gL → Nat → Option Int32) (hK : ∀ M L ld, K 6 M L ld = some 1) : C_law_1 xs 6 K 0 M00 L00 12 = some 1 := by
  unfold C_law_1
  simp only [g6_1, g6_2, g6_3, g6_4, g6_5, g6_6, if_false, if_true, bI_s, nmI_e]
  generalize xs _ = p
  by_cases h : p = 0
  · subst h
    obtain ⟨q1, q2, h1, h2, h3⟩ := bb2 q_back
    simp only [h1, h2, h3, g6_1, g6_2, g6_3, g6_4, g6_5, g6_6, if_false, if_true, bI_s, nmI_e, hK]
  · have h1 : p < 0 ∨ ¬ p < 0 ∧ ¬ p ≤ 0 := by
      by_cases h0 : p < 0
      · exact Or.inl h0
      · refine Or.inr ⟨h0, fun q => h ?_⟩
        obtain ⟨k, hk, rfl⟩ := nI_of h0
        rw [show (0 : Int32) = nI 0 from rfl, nI_leI hk (by decide)] at q
        rw [show k = 0 by omega]; rfl
    have c1 : F_Main_back p M00 = some (-1, M00) := by
      unfold F_Main_back
      rw [e1_1]
      rcases h1 with h1 | h1
      · rw [if_pos h1]
      · rw [if_neg h1.1, if_neg h1.2]
    have c2 : F_Mod_back p M00 = some (-1, M00) := by
      unfold F_Mod_back
      rw [show M00 401 2 = 0 from by decide +kernel]
      rcases h1 with h1 | h1
      · rw [if_pos h1]
      · rw [if_neg h1.1, if_neg h1.2]
    simp only [c1, c2, g6_1, g6_2, g6_3, g6_4, g6_5, g6_6, if_false, if_true, bI_s, nmI_e, hK]
theorem pk_2 (xs : Nat → Int32) (K : Int32 → gM → gL → Nat → Option Int32) (hK : ∀ M L ld, K 6 M L ld = some 1) : C_law_2 xs 6 K 0 M00 L00 12 = some 1 := by
  unfold C_law_2
  obtain ⟨q1, q2, h1, h2, h3⟩ := bb2 q_read
  simp only [h1, h2, h3, g6_1, g6_2, g6_3, g6_4, g6_5, g6_6, if_false, if_true, bI_s, nmI_e, hK]
theorem pk_3 (xs : Nat → Int32) (K : Int32 → gM → gL → Nat → Option Int32) (hK : ∀ M L ld, K 6 M L ld = some 1) : C_law_3 xs 6 K 0 M00 L00 12 = some 1 := by
  unfold C_law_3
  obtain ⟨q1, h1⟩ : ∃ q, F_Mod_place M00 = some q := ⟨_, rfl⟩
  simp only [q_place, h1, g6_1, g6_2, g6_3, g6_4, g6_5, g6_6, if_false, if_true, bI_s, nmI_e, hK]
theorem pk_4 (xs : Nat → Int32) (K : Int32 → gM → gL → Nat → Option Int32) (hK : ∀ M L ld, K 6 M L ld = some 1) : C_law_4 xs 6 K 0 M00 L00 12 = some 1 := by
  unfold C_law_4
  simp only [g6_1, g6_2, g6_3, g6_4, g6_5, g6_6, if_false, if_true, bI_s, nmI_e, fc_food, fm_food, hK]
theorem pk_5 (xs : Nat → Int32) (K : Int32 → gM → gL → Nat → Option Int32) (hK : ∀ M L ld, K 6 M L ld = some 1) : C_law_5 xs 6 K 0 M00 L00 12 = some 1 := by
  unfold C_law_5
  simp only [g6_1, g6_2, g6_3, g6_4, g6_5, g6_6, if_false, if_true, bI_s, nmI_e, fc_dish, fm_dish, hK]
theorem pk_6 (xs : Nat → Int32) (K : Int32 → gM → gL → Nat → Option Int32) (hK : ∀ M L ld, K 6 M L ld = some 1) : C_law_6 xs 6 K 0 M00 L00 12 = some 1 := by
  unfold C_law_6
  simp only [g6_1, g6_2, g6_3, g6_4, g6_5, g6_6, if_false, if_true, bI_s, nmI_e, fc_amount, fm_amount, hK]
theorem pk_7 (xs : Nat → Int32) (K : Int32 → gM → gL → Nat → Option Int32) (hK : ∀ M L ld, K 6 M L ld = some 1) : C_law_7 xs 6 K 0 M00 L00 12 = some 1 := by
  unfold C_law_7
  simp only [g6_1, g6_2, g6_3, g6_4, g6_5, g6_6, if_false, if_true, bI_s, nmI_e, fc_guest, fm_guest, hK]
theorem pk_8 (xs : Nat → Int32) (K : Int32 → gM → gL → Nat → Option Int32) (hK : ∀ M L ld, K 6 M L ld = some 1) : C_law_8 xs 6 K 0 M00 L00 12 = some 1 := by
  unfold C_law_8
  simp only [g6_1, g6_2, g6_3, g6_4, g6_5, g6_6, if_false, if_true, bI_s, nmI_e, fc_deed, fm_deed, hK]
theorem pk_9 (xs : Nat → Int32) (K : Int32 → gM → gL → Nat → Option Int32) (hK : ∀ M L ld, K 6 M L ld = some 1) : C_law_9 xs 6 K 0 M00 L00 12 = some 1 := by
  unfold C_law_9
  simp only [g6_1, g6_2, g6_3, g6_4, g6_5, g6_6, if_false, if_true, bI_s, nmI_e, fc_cook, fm_cook, hK]
theorem pk_10 (xs : Nat → Int32) (K : Int32 → gM → gL → Nat → Option Int32) (hK : ∀ M L ld, K 6 M L ld = some 1) : C_law_10 xs 6 K 0 M00 L00 12 = some 1 := by
  unfold C_law_10
  simp only [g6_1, g6_2, g6_3, g6_4, g6_5, g6_6, if_false, if_true, bI_s, nmI_e, fc_eat, fm_eat, hK]
theorem pk_11 (xs : Nat → Int32) (K : Int32 → gM → gL → Nat → Option Int32) (hK : ∀ M L ld, K 6 M L ld = some 1) : C_law_11 xs 6 K 0 M00 L00 12 = some 1 := by
  unfold C_law_11
  simp only [g6_1, g6_2, g6_3, g6_4, g6_5, g6_6, if_false, if_true, bI_s, nmI_e]
  generalize xs _ = p
  rcases rg p 60 (by decide) with ⟨_, g, h⟩ | ⟨k, hk, rfl⟩
  · have c1 : F_Main_days 12 p M00 = some (-1, M00) := by
      unfold F_Main_days
      rcases h with h | ⟨h, h'⟩
      · rw [if_pos h]
      · rw [if_neg h, if_neg (fun q => by rw [i_le] at h' q; rw [show (60 : Int32).toInt = 60 from by decide] at q; rw [show (nI (60 + 1)).toInt = 61 from by decide] at h'; omega)]
    have c2 : F_Mod_days p M00 = some (-1, M00) := by
      unfold F_Mod_days
      rw [show (60 : Int32) = nI 60 from rfl, g]; rfl
    simp only [c1, c2, g6_1, g6_2, g6_3, g6_4, g6_5, g6_6, if_false, if_true, bI_s, nmI_e, hK]
  · obtain ⟨q1, q2, h1, h2, h3⟩ := bb2 (q_days k hk)
    simp only [h1, h2, h3, g6_1, g6_2, g6_3, g6_4, g6_5, g6_6, if_false, if_true, bI_s, nmI_e, hK]
theorem pk_12 (xs : Nat → Int32) (K : Int32 → gM → gL → Nat → Option Int32) (hK : ∀ M L ld, K 6 M L ld = some 1) : C_law_12 xs 6 K 0 M00 L00 12 = some 1 := by
  unfold C_law_12
  obtain ⟨q1, q2, h1, h2, h3⟩ := bb2 q_undo
  simp only [h1, h2, h3, g6_1, g6_2, g6_3, g6_4, g6_5, g6_6, if_false, if_true, bI_s, nmI_e, hK]
theorem pk_13 (xs : Nat → Int32) (K : Int32 → gM → gL → Nat → Option Int32) (hK : ∀ M L ld, K 6 M L ld = some 1) : C_law_13 xs 6 K 0 M00 L00 12 = some 1 := by
  unfold C_law_13
  simp only [g6_1, g6_2, g6_3, g6_4, g6_5, g6_6, if_false, if_true, bI_s, nmI_e]
  generalize xs _ = a
  generalize xs _ = b
  generalize xs _ = c
  generalize xs _ = d
  obtain ⟨M1, r, M2, h1, h2⟩ := q_pot a b c d
  simp only [h1, h2, g6_1, g6_2, g6_3, g6_4, g6_5, g6_6, if_false, if_true, bI_s, nmI_e, hK]
theorem pk_14 (xs : Nat → Int32) (K : Int32 → gM → gL → Nat → Option Int32) (hK : ∀ M L ld, K 6 M L ld = some 1) : C_law_14 xs 6 K 0 M00 L00 12 = some 1 := by
  unfold C_law_14
  simp only [g6_1, g6_2, g6_3, g6_4, g6_5, g6_6, if_false, if_true, bI_s, nmI_e, fc_pinch, fm_pinch, hK]
theorem pk_15 (xs : Nat → Int32) (K : Int32 → gM → gL → Nat → Option Int32) (hK : ∀ M L ld, K 6 M L ld = some 1) : C_law_15 xs 6 K 0 M00 L00 12 = some 1 := by
  unfold C_law_15
  simp only [g6_1, g6_2, g6_3, g6_4, g6_5, g6_6, if_false, if_true, bI_s, nmI_e, fc_freest, fm_freest, hK]
theorem pk_16 (xs : Nat → Int32) (K : Int32 → gM → gL → Nat → Option Int32) (hK : ∀ M L ld, K 6 M L ld = some 1) : C_law_16 xs 6 K 0 M00 L00 12 = some 1 := by
  unfold C_law_16
  obtain ⟨q1, q2, h1, h2, h3⟩ := bb2 q_supper
  simp only [h1, h2, h3, g6_1, g6_2, g6_3, g6_4, g6_5, g6_6, if_false, if_true, bI_s, nmI_e, hK]
theorem pk_17 (xs : Nat → Int32) (K : Int32 → gM → gL → Nat → Option Int32) (hK : ∀ M L ld, K 6 M L ld = some 1) : C_law_17 xs 6 K 0 M00 L00 12 = some 1 := by
  unfold C_law_17
  simp only [g6_1, g6_2, g6_3, g6_4, g6_5, g6_6, if_false, if_true, bI_s, nmI_e, fc_feud, fm_feud, hK]
theorem pk_18 (xs : Nat → Int32) (K : Int32 → gM → gL → Nat → Option Int32) (hK : ∀ M L ld, K 6 M L ld = some 1) : C_law_18 xs 6 K 0 M00 L00 12 = some 1 := by
  unfold C_law_18
  simp only [g6_1, g6_2, g6_3, g6_4, g6_5, g6_6, if_false, if_true, bI_s, nmI_e, fc_menu, fm_menu, hK]
theorem pk_19 (xs : Nat → Int32) (K : Int32 → gM → gL → Nat → Option Int32) (hK : ∀ M L ld, K 6 M L ld = some 1) : C_law_19 xs 6 K 0 M00 L00 12 = some 1 := by
  unfold C_law_19
  simp only [g6_1, g6_2, g6_3, g6_4, g6_5, g6_6, if_false, if_true, bI_s, nmI_e, fc_often, fm_often, hK]
theorem pk_20 (xs : Nat → Int32) (K : Int32 → gM → gL → Nat → Option Int32) (hK : ∀ M L ld, K 6 M L ld = some 1) : C_law_20 xs 6 K 0 M00 L00 12 = some 1 := by
  unfold C_law_20
  simp only [g6_1, g6_2, g6_3, g6_4, g6_5, g6_6, if_false, if_true, bI_s, nmI_e, fc_hunger, fm_hunger, hK]
theorem pk_21 (xs : Nat → Int32) (K : Int32 → gM → gL → Nat → Option Int32) (hK : ∀ M L ld, K 6 M L ld = some 1) : C_law_21 xs 6 K 0 M00 L00 12 = some 1 := by
  unfold C_law_21
  simp only [g6_1, g6_2, g6_3, g6_4, g6_5, g6_6, if_false, if_true, bI_s, nmI_e, fc_stockIn, fm_stockIn, hK]
theorem pk_22 (xs : Nat → Int32) (K : Int32 → gM → gL → Nat → Option Int32) (hK : ∀ M L ld, K 6 M L ld = some 1) : C_law_22 xs 6 K 0 M00 L00 12 = some 1 := by
  unfold C_law_22
  simp only [g6_1, g6_2, g6_3, g6_4, g6_5, g6_6, if_false, if_true, bI_s, nmI_e, fc_boundIn, fm_boundIn, hK]
theorem pk_23 (xs : Nat → Int32) (K : Int32 → gM → gL → Nat → Option Int32) (hK : ∀ M L ld, K 6 M L ld = some 1) : C_law_23 xs 6 K 0 M00 L00 12 = some 1 := by
  unfold C_law_23
  simp only [g6_1, g6_2, g6_3, g6_4, g6_5, g6_6, if_false, if_true, bI_s, nmI_e, fc_year, fm_year, hK]
theorem pk_24 (xs : Nat → Int32) (K : Int32 → gM → gL → Nat → Option Int32) (hK : ∀ M L ld, K 6 M L ld = some 1) : C_law_24 xs 6 K 0 M00 L00 12 = some 1 := by
  unfold C_law_24
  simp only [g6_1, g6_2, g6_3, g6_4, g6_5, g6_6, if_false, if_true, bI_s, nmI_e]
  generalize xs _ = a
  generalize xs _ = b
  generalize xs _ = c
  have et : (M00 401 64 = 20) = False := eq_false (by decide +kernel)
  have bad : ∀ r1 r2, F_Main_tell a b c M00 = some (r1, M00) → F_Mod_tell a b c M00 = some (r2, M00) → r1 = r2 → (bI (F_Main_tell a b c M00) fun q1 => bI (F_Mod_tell a b c q1.2) fun q2 => if q1.1 = q2.1 then K 6 q2.2 L00 12 else some 0) = some 1 := by
    intro r1 r2 h1 h2 h3
    simp only [h1, h2, h3, g6_1, g6_2, g6_3, g6_4, g6_5, g6_6, if_false, if_true, bI_s, nmI_e, hK]
  rcases rg a 2 (by decide) with ⟨h1, h2, _⟩ | ⟨a, ha, rfl⟩
  · exact bad (-1) (-1) (by unfold F_Main_tell; rw [show (3 : Int32) = nI (2 + 1) from rfl, h1]; rfl) (by unfold F_Mod_tell; rw [if_neg (by rw [et]; exact id), show (2 : Int32) = nI 2 from rfl, h2]; rfl) rfl
  · have ca := (show F_Main_isOne (nI a) 3 = some 1 ∧ F_Mod_in (nI a) 0 2 = some 1 from (by decide +kernel : ∀ a : Nat, a < 3 → F_Main_isOne (nI a) 3 = some 1 ∧ F_Mod_in (nI a) 0 2 = some 1) a ha)
    rcases rg b 9 (by decide) with ⟨h1, h2, _⟩ | ⟨b, hb, rfl⟩
    · exact bad (-1) (-1) (by unfold F_Main_tell; rw [ca.1, show (10 : Int32) = nI (9 + 1) from rfl, h1]; rfl) (by unfold F_Mod_tell; rw [if_neg (by rw [et]; exact id), ca.2, show (9 : Int32) = nI 9 from rfl, h2]; rfl) rfl
    · have cb := (show F_Main_isOne (nI b) 10 = some 1 ∧ F_Mod_in (nI b) 0 9 = some 1 from (by decide +kernel : ∀ a : Nat, a < 10 → F_Main_isOne (nI a) 10 = some 1 ∧ F_Mod_in (nI a) 0 9 = some 1) b hb)
      rcases rg c 99 (by decide) with ⟨h1, h2, _⟩ | ⟨c, hc, rfl⟩
      · exact bad (-1) (-1) (by unfold F_Main_tell; rw [ca.1, cb.1, show (100 : Int32) = nI (99 + 1) from rfl, h1]; rfl) (by unfold F_Mod_tell; rw [if_neg (by rw [et]; exact id), ca.2, cb.2, show (99 : Int32) = nI 99 from rfl, h2]; rfl) rfl
      · obtain ⟨q1, q2, h1, h2, h3⟩ := bb2 (q_tell1 a ha b hb c hc)
        simp only [h1, h2, h3, g6_1, g6_2, g6_3, g6_4, g6_5, g6_6, if_false, if_true, bI_s, nmI_e, hK]
theorem pk_25 (xs : Nat → Int32) (K : Int32 → gM → gL → Nat → Option Int32) (hK : ∀ M L ld, K 6 M L ld = some 1) : C_law_25 xs 6 K 0 M00 L00 12 = some 1 := by
  unfold C_law_25
  obtain ⟨q1, q2, h1, h2, h3⟩ := bb2 q_forget
  simp only [h1, h2, h3, g6_1, g6_2, g6_3, g6_4, g6_5, g6_6, if_false, if_true, bI_s, nmI_e, hK]
theorem pk_26 (xs : Nat → Int32) (K : Int32 → gM → gL → Nat → Option Int32) (hK : ∀ M L ld, K 6 M L ld = some 1) : C_law_26 xs 6 K 0 M00 L00 12 = some 1 := by
  unfold C_law_26
  simp only [g6_1, g6_2, g6_3, g6_4, g6_5, g6_6, if_false, if_true, bI_s, nmI_e]
  generalize xs _ = p
  rcases tb0 p with ⟨h1, h2⟩ | rfl
  · have c1 : F_Main_blame 12 p M00 = some (-1, M00) := by unfold F_Main_blame; rw [h1]; rfl
    have c2 : F_Mod_blame p M00 = some (-1, M00) := by unfold F_Mod_blame; rw [h2]; rfl
    simp only [c1, c2, g6_1, g6_2, g6_3, g6_4, g6_5, g6_6, if_false, if_true, bI_s, nmI_e, hK]
  · obtain ⟨q1, q2, h1, h2, h3⟩ := bb2 q_blame
    simp only [h1, h2, h3, g6_1, g6_2, g6_3, g6_4, g6_5, g6_6, if_false, if_true, bI_s, nmI_e, hK]
theorem pk_27 (xs : Nat → Int32) (K : Int32 → gM → gL → Nat → Option Int32) (hK : ∀ M L ld, K 6 M L ld = some 1) : C_law_27 xs 6 K 0 M00 L00 12 = some 1 := by
  unfold C_law_27
  simp only [g6_1, g6_2, g6_3, g6_4, g6_5, g6_6, if_false, if_true, bI_s, nmI_e]
  generalize xs _ = p
  rcases tb0 p with ⟨h1, h2⟩ | rfl
  · have c1 : F_Main_sure 12 p M00 = some (-1, M00) := by unfold F_Main_sure; rw [h1]; rfl
    have c2 : F_Mod_sure p M00 = some (-1, M00) := by unfold F_Mod_sure; rw [h2]; rfl
    simp only [c1, c2, g6_1, g6_2, g6_3, g6_4, g6_5, g6_6, if_false, if_true, bI_s, nmI_e, hK]
  · obtain ⟨q1, q2, h1, h2, h3⟩ := bb2 q_sure
    simp only [h1, h2, h3, g6_1, g6_2, g6_3, g6_4, g6_5, g6_6, if_false, if_true, bI_s, nmI_e, hK]
theorem pk_28 (xs : Nat → Int32) (K : Int32 → gM → gL → Nat → Option Int32) (hK : ∀ M L ld, K 6 M L ld = some 1) : C_law_28 xs 6 K 0 M00 L00 12 = some 1 := by
  unfold C_law_28
  simp only [g6_1, g6_2, g6_3, g6_4, g6_5, g6_6, if_false, if_true, bI_s, nmI_e]
  generalize xs _ = p
  rcases tb0 p with ⟨h1, h2⟩ | rfl
  · have c1 : F_Main_taste 12 p M00 = some (-1, M00) := by unfold F_Main_taste; rw [h1]; rfl
    have c2 : F_Mod_taste p M00 = some (-1, M00) := by unfold F_Mod_taste; rw [h2]; rfl
    simp only [c1, c2, g6_1, g6_2, g6_3, g6_4, g6_5, g6_6, if_false, if_true, bI_s, nmI_e, hK]
  · obtain ⟨q1, q2, h1, h2, h3⟩ := bb2 q_taste
    simp only [h1, h2, h3, g6_1, g6_2, g6_3, g6_4, g6_5, g6_6, if_false, if_true, bI_s, nmI_e, hK]
theorem pk_29 (xs : Nat → Int32) (K : Int32 → gM → gL → Nat → Option Int32) (hK : ∀ M L ld, K 6 M L ld = some 1) : C_law_29 xs 6 K 0 M00 L00 12 = some 1 := by
  unfold C_law_29
  simp only [g6_1, g6_2, g6_3, g6_4, g6_5, g6_6, if_false, if_true, bI_s, nmI_e]
  generalize xs _ = p
  rcases rg p 2 (by decide) with ⟨_, g, h⟩ | ⟨k, hk, rfl⟩
  · have c0 : F_Slots_keep p 64 M00 = some (0, M00) := by
      unfold F_Slots_keep
      rcases h with h | ⟨h, h'⟩
      · rw [if_pos h]
      · rw [if_neg h, if_pos (show (3 : Int32) ≤ p from h')]
    have c1 : F_Main_hold p M00 = some (0, M00) := by unfold F_Main_hold; rw [c0]; rfl
    have c2 : F_Mod_hold p M00 = some (0, M00) := by unfold F_Mod_hold; rw [show (2 : Int32) = nI 2 from rfl, g]; rfl
    simp only [c1, c2, g6_1, g6_2, g6_3, g6_4, g6_5, g6_6, if_false, if_true, bI_s, nmI_e, hK]
  · obtain ⟨q1, q2, h1, h2, h3⟩ := bb2 (q_hold k hk)
    simp only [h1, h2, h3, g6_1, g6_2, g6_3, g6_4, g6_5, g6_6, if_false, if_true, bI_s, nmI_e, hK]
theorem pk_30 (xs : Nat → Int32) (K : Int32 → gM → gL → Nat → Option Int32) (hK : ∀ M L ld, K 6 M L ld = some 1) : C_law_30 xs 6 K 0 M00 L00 12 = some 1 := by
  unfold C_law_30
  simp only [g6_1, g6_2, g6_3, g6_4, g6_5, g6_6, if_false, if_true, bI_s, nmI_e]
  generalize xs _ = p
  rcases rg p 2 (by decide) with ⟨_, g, h⟩ | ⟨k, hk, rfl⟩
  · have c0 : F_Slots_bring p 64 M00 = some (0, M00) := by
      unfold F_Slots_bring
      rcases h with h | ⟨h, h'⟩
      · rw [if_pos h]
      · rw [if_neg h, if_pos (show (3 : Int32) ≤ p from h')]
    have c1 : F_Main_restore p M00 = some (0, M00) := by unfold F_Main_restore; rw [c0]; rfl
    have c2 : F_Mod_restore p M00 = some (0, M00) := by unfold F_Mod_restore; rw [show (2 : Int32) = nI 2 from rfl, g]; rfl
    simp only [c1, c2, g6_1, g6_2, g6_3, g6_4, g6_5, g6_6, if_false, if_true, bI_s, nmI_e, hK]
  · obtain ⟨q1, q2, h1, h2, h3⟩ := bb2 (q_restore k hk)
    simp only [h1, h2, h3, g6_1, g6_2, g6_3, g6_4, g6_5, g6_6, if_false, if_true, bI_s, nmI_e, hK]
theorem pk_31 (xs : Nat → Int32) (K : Int32 → gM → gL → Nat → Option Int32) (hK : ∀ M L ld, K 6 M L ld = some 1) : C_law_31 xs 6 K 0 M00 L00 12 = some 1 := by
  unfold C_law_31
  simp only [g6_1, g6_2, g6_3, g6_4, g6_5, g6_6, if_false, if_true, bI_s, nmI_e]
  generalize xs _ = p
  by_cases h : ∃ k, k < 16 ∧ p = nI k
  · obtain ⟨k, hk, rfl⟩ := h
    obtain ⟨q1, q2, h1, h2, h3⟩ := bb2 (q_count k hk)
    simp only [h1, h2, h3, g6_1, g6_2, g6_3, g6_4, g6_5, g6_6, if_false, if_true, bI_s, nmI_e, hK]
  · have c : F_Main_count 12 p M00 = some (-1) ∧ F_Mod_count p M00 = some (-1) := by
      have e0 : (p = 0) = False := eq_false (fun q => h ⟨0, by decide, q⟩)
      have e1 : (p = 1) = False := eq_false (fun q => h ⟨1, by decide, q⟩)
      have e2 : (p = 2) = False := eq_false (fun q => h ⟨2, by decide, q⟩)
      have e3 : (p = 3) = False := eq_false (fun q => h ⟨3, by decide, q⟩)
      have e4 : (p = 4) = False := eq_false (fun q => h ⟨4, by decide, q⟩)
      have e5 : (p = 5) = False := eq_false (fun q => h ⟨5, by decide, q⟩)
      have e6 : (p = 6) = False := eq_false (fun q => h ⟨6, by decide, q⟩)
      have e7 : (p = 7) = False := eq_false (fun q => h ⟨7, by decide, q⟩)
      have e8 : (p = 8) = False := eq_false (fun q => h ⟨8, by decide, q⟩)
      have e9 : (p = 9) = False := eq_false (fun q => h ⟨9, by decide, q⟩)
      have e10 : (p = 10) = False := eq_false (fun q => h ⟨10, by decide, q⟩)
      have e11 : (p = 11) = False := eq_false (fun q => h ⟨11, by decide, q⟩)
      have e12 : (p = 12) = False := eq_false (fun q => h ⟨12, by decide, q⟩)
      have e13 : (p = 13) = False := eq_false (fun q => h ⟨13, by decide, q⟩)
      have e14 : (p = 14) = False := eq_false (fun q => h ⟨14, by decide, q⟩)
      have e15 : (p = 15) = False := eq_false (fun q => h ⟨15, by decide, q⟩)
      unfold F_Main_count F_Mod_count
      simp only [e0, e1, e2, e3, e4, e5, e6, e7, e8, e9, e10, e11, e12, e13, e14, e15, if_false, and_self]
    simp only [c.1, c.2, g6_1, g6_2, g6_3, g6_4, g6_5, g6_6, if_false, if_true, bI_s, nmI_e, hK]
set_option maxRecDepth 100000 in
theorem law_pure {L : Nat} (hL : L ≤ 6) (xs : Nat → Int32) : H_law xs L FU 0 M00 L00 12 = some 1 := by
  rw [FU_s]
  show B_law xs L (H_law xs L 199999) 0 M00 L00 12 = some 1
  by_cases h6 : L = 6
  · subst h6
    have hK : ∀ M L ld, H_law xs 6 199999 6 M L ld = some 1 := by
      intro M L ld
      show B_law xs 6 (H_law xs 6 199998) 6 M L ld = some 1
      unfold B_law
      rw [if_pos (by decide)]
    generalize H_law xs 6 199999 = K at hK ⊢
    unfold B_law
    rw [if_neg (by decide), if_neg (by decide)]
    generalize xs _ &&& 31 = op
    by_cases c0 : op = 0
    · rw [if_pos c0]; exact pk_0 xs K hK
    rw [if_neg c0]
    by_cases c1 : op = 1
    · rw [if_pos c1]; exact pk_1 xs K hK
    rw [if_neg c1]
    by_cases c2 : op = 2
    · rw [if_pos c2]; exact pk_2 xs K hK
    rw [if_neg c2]
    by_cases c3 : op = 3
    · rw [if_pos c3]; exact pk_3 xs K hK
    rw [if_neg c3]
    by_cases c4 : op = 4
    · rw [if_pos c4]; exact pk_4 xs K hK
    rw [if_neg c4]
    by_cases c5 : op = 5
    · rw [if_pos c5]; exact pk_5 xs K hK
    rw [if_neg c5]
    by_cases c6 : op = 6
    · rw [if_pos c6]; exact pk_6 xs K hK
    rw [if_neg c6]
    by_cases c7 : op = 7
    · rw [if_pos c7]; exact pk_7 xs K hK
    rw [if_neg c7]
    by_cases c8 : op = 8
    · rw [if_pos c8]; exact pk_8 xs K hK
    rw [if_neg c8]
    by_cases c9 : op = 9
    · rw [if_pos c9]; exact pk_9 xs K hK
    rw [if_neg c9]
    by_cases c10 : op = 10
    · rw [if_pos c10]; exact pk_10 xs K hK
    rw [if_neg c10]
    by_cases c11 : op = 11
    · rw [if_pos c11]; exact pk_11 xs K hK
    rw [if_neg c11]
    by_cases c12 : op = 12
    · rw [if_pos c12]; exact pk_12 xs K hK
    rw [if_neg c12]
    by_cases c13 : op = 13
    · rw [if_pos c13]; exact pk_13 xs K hK
    rw [if_neg c13]
    by_cases c14 : op = 14
    · rw [if_pos c14]; exact pk_14 xs K hK
    rw [if_neg c14]
    by_cases c15 : op = 15
    · rw [if_pos c15]; exact pk_15 xs K hK
    rw [if_neg c15]
    by_cases c16 : op = 16
    · rw [if_pos c16]; exact pk_16 xs K hK
    rw [if_neg c16]
    by_cases c17 : op = 17
    · rw [if_pos c17]; exact pk_17 xs K hK
    rw [if_neg c17]
    by_cases c18 : op = 18
    · rw [if_pos c18]; exact pk_18 xs K hK
    rw [if_neg c18]
    by_cases c19 : op = 19
    · rw [if_pos c19]; exact pk_19 xs K hK
    rw [if_neg c19]
    by_cases c20 : op = 20
    · rw [if_pos c20]; exact pk_20 xs K hK
    rw [if_neg c20]
    by_cases c21 : op = 21
    · rw [if_pos c21]; exact pk_21 xs K hK
    rw [if_neg c21]
    by_cases c22 : op = 22
    · rw [if_pos c22]; exact pk_22 xs K hK
    rw [if_neg c22]
    by_cases c23 : op = 23
    · rw [if_pos c23]; exact pk_23 xs K hK
    rw [if_neg c23]
    by_cases c24 : op = 24
    · rw [if_pos c24]; exact pk_24 xs K hK
    rw [if_neg c24]
    by_cases c25 : op = 25
    · rw [if_pos c25]; exact pk_25 xs K hK
    rw [if_neg c25]
    by_cases c26 : op = 26
    · rw [if_pos c26]; exact pk_26 xs K hK
    rw [if_neg c26]
    by_cases c27 : op = 27
    · rw [if_pos c27]; exact pk_27 xs K hK
    rw [if_neg c27]
    by_cases c28 : op = 28
    · rw [if_pos c28]; exact pk_28 xs K hK
    rw [if_neg c28]
    by_cases c29 : op = 29
    · rw [if_pos c29]; exact pk_29 xs K hK
    rw [if_neg c29]
    by_cases c30 : op = 30
    · rw [if_pos c30]; exact pk_30 xs K hK
    rw [if_neg c30]
    by_cases c31 : op = 31
    · rw [if_pos c31]; exact pk_31 xs K hK
    rw [if_neg c31]
    rw [nmI_e, g6_6]; exact hK _ _ _
  · unfold B_law
    rw [if_pos ((by decide : ∀ L : Nat, L < 6 → Int32.ofNat L - 6 < 0) L (by omega))]
