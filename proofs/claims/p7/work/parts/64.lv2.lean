/-! over the functions: first helps -/
theorem bI_s {α β : Type} (a : α) (f : α → Option β) : bI (some a) f = f a := rfl
theorem bI2_s {α β γ : Type} (a : α) (b : β) (f : α → β → Option γ) : bI2 (some (a, b)) f = f a b := rfl
theorem bI3_s {α β γ δ : Type} (a : α) (b : β) (c : γ) (f : α → β → γ → Option δ) : bI3 (some (a, b, c)) f = f a b c := rfl
theorem bI4_s {α β γ δ ε : Type} (a : α) (b : β) (c : γ) (d : δ) (f : α → β → γ → δ → Option ε) : bI4 (some (a, b, c, d)) f = f a b c d := rfl
theorem nmM_e {τ : Type} (v : gM) (f : gM → Option τ) : nmM v f = f v := rfl
theorem nmL_e {τ : Type} (v : gL) (f : gL → Option τ) : nmL v f = f v := rfl
theorem nmI_e {τ : Type} (v : Int32) (f : Int32 → Option τ) : nmI v f = f v := rfl
theorem nmJ_e {τ : Type} (v : Int64) (f : Int64 → Option τ) : nmJ v f = f v := rfl
theorem lpK_s {α : Type} (body : α → α) (bot : α) (n : Nat) : lpK body bot (n + 1) = body (lpK body bot n) := rfl
theorem FU_k (k : Nat) (h : k ≤ 1000000) : ∃ g, FU = g + k := ⟨FU - k, by unfold FU; omega⟩
theorem i32_le_of_nlt {x y : Int32} (h : ¬ x < y) : y ≤ x := by
  rw [i_le]; rw [i_lt] at h; omega
theorem i32_nlt_of_le {x y : Int32} (h : y ≤ x) : ¬ x < y := by
  rw [i_lt]; rw [i_le] at h; omega
theorem i32_nle_of_lt {x y : Int32} (h : x < y) : ¬ y ≤ x := by
  rw [i_le]; rw [i_lt] at h; omega
theorem i32_lt_of_nle {x y : Int32} (h : ¬ y ≤ x) : x < y := by
  rw [i_lt]; rw [i_le] at h; omega
theorem one_lo {p n : Int32} (h : p < 0) : F_Main_isOne p n = some 0 := by unfold F_Main_isOne; rw [if_pos h]
theorem one_hi {p n : Int32} (h : n ≤ p) : F_Main_isOne p n = some 0 := by
  unfold F_Main_isOne
  by_cases h0 : p < 0
  · rw [if_pos h0]
  · rw [if_neg h0, if_pos h]
theorem one_in {p n : Int32} (h0 : ¬ p < 0) (h : ¬ n ≤ p) : F_Main_isOne p n = some 1 := by unfold F_Main_isOne; rw [if_neg h0, if_neg h]
theorem one_00 (p : Int32) : F_Main_isOne p 0 = some 0 := by
  by_cases h : p < 0
  · exact one_lo h
  · exact one_hi (i32_le_of_nlt h)
theorem in_lo {p a b : Int32} (h : p < a) : F_Mod_in p a b = some 0 := by unfold F_Mod_in; rw [if_pos h]
theorem in_hi {p a b : Int32} (h : b < p) : F_Mod_in p a b = some 0 := by
  unfold F_Mod_in
  by_cases h0 : p < a
  · rw [if_pos h0]
  · rw [if_neg h0, if_pos h]
theorem in_in {p a b : Int32} (h0 : ¬ p < a) (h : ¬ b < p) : F_Mod_in p a b = some 1 := by unfold F_Mod_in; rw [if_neg h0, if_neg h]
/-- a count n, and what is in 0 .. n - 1 -/
theorem one_cases (p : Int32) {n : Nat} (hn : n < 2 ^ 31) : (F_Main_isOne p (nI n) = some 0 ∧ ¬ ∃ k, k < n ∧ p = nI k) ∨ ∃ k, k < n ∧ p = nI k ∧ F_Main_isOne p (nI n) = some 1 := by
  by_cases h0 : p < 0
  · refine Or.inl ⟨one_lo h0, ?_⟩
    rintro ⟨k, hk, rfl⟩
    exact nI_pos (by omega) h0
  · obtain ⟨k, hk, rfl⟩ := nI_of h0
    by_cases h : k < n
    · exact Or.inr ⟨k, h, rfl, one_in h0 (fun q => by rw [nI_leI hn hk] at q; omega)⟩
    · refine Or.inl ⟨one_hi (by rw [nI_leI hn hk]; omega), ?_⟩
      rintro ⟨j, hj, e⟩
      rw [nI_eq hk (by omega)] at e
      omega
theorem in_cases (p : Int32) {a b : Nat} (hb : b < 2 ^ 31) (ha : a < 2 ^ 31) : (F_Mod_in p (nI a) (nI b) = some 0 ∧ ¬ ∃ k, a ≤ k ∧ k ≤ b ∧ p = nI k) ∨ ∃ k, a ≤ k ∧ k ≤ b ∧ p = nI k ∧ F_Mod_in p (nI a) (nI b) = some 1 := by
  by_cases h0 : p < 0
  · refine Or.inl ⟨in_lo ?_, ?_⟩
    · rw [i_lt] at h0 ⊢; rw [nI_toInt ha]; rw [Int32.toInt_zero] at h0; omega
    · rintro ⟨k, hk, hk2, rfl⟩
      exact nI_pos (by omega) h0
  · obtain ⟨k, hk, rfl⟩ := nI_of h0
    by_cases h1 : k < a
    · refine Or.inl ⟨in_lo (by rw [nI_ltI hk ha]; exact h1), ?_⟩
      rintro ⟨j, hj, hj2, e⟩
      rw [nI_eq hk (by omega)] at e
      omega
    · by_cases h : k ≤ b
      · exact Or.inr ⟨k, by omega, h, rfl, in_in (fun q => by rw [nI_ltI hk ha] at q; omega) (fun q => by rw [nI_ltI hb hk] at q; omega)⟩
      · refine Or.inl ⟨in_hi (by rw [nI_ltI hb hk]; omega), ?_⟩
        rintro ⟨j, hj, hj2, e⟩
        rw [nI_eq hk (by omega)] at e
        omega
theorem in_e {p : Int32} : F_Mod_in p 0 (0 - 1) = some 0 := by
  by_cases h : p < 0
  · exact in_lo h
  · exact in_hi (by rw [i_lt]; rw [i_lt, Int32.toInt_zero] at h; show (-1 : Int) < _; omega)
theorem s_at {a N i : Nat} {M : gM} (hi : i < N) (hN : N < 2 ^ 31) : F_Main_at a N (nI i) M = some (M a i) := by
  unfold F_Main_at
  rw [if_neg (nI_pos (by omega)), if_neg (fun q => by rw [show Int32.ofNat N = nI N from rfl, nI_leI hN (by omega)] at q; omega), if_neg (nI_in hi hN), nI_clamp (by omega)]
theorem s_put {a N i : Nat} {M : gM} {x : Int32} (hi : i < N) (hN : N < 2 ^ 31) : F_Main_put a N (nI i) x M = some (uM M a i x) := by
  unfold F_Main_put
  rw [if_neg (nI_pos (by omega)), if_neg (fun q => by rw [show Int32.ofNat N = nI N from rfl, nI_leI hN (by omega)] at q; omega), if_neg (nI_in hi hN), nI_clamp (by omega)]
  rfl
theorem uM_same {M : gM} {a i : Nat} {x : Int32} : uM M a i x a i = x := by rw [uM_at, if_pos ⟨rfl, rfl⟩]
theorem uM_diff {M : gM} {a i c j : Nat} {x : Int32} (h : ¬ (c = a ∧ j = i)) : uM M a i x c j = M c j := by rw [uM_at, if_neg h]
/-- the places that a memory may differ at -/
def Eo (S : Nat → Nat → Prop) (M M' : gM) : Prop := ∀ c j, ¬ S c j → M' c j = M c j
theorem Eo.rf {S : Nat → Nat → Prop} {M : gM} : Eo S M M := fun _ _ _ => rfl
theorem Eo.tr {S : Nat → Nat → Prop} {M M1 M2 : gM} (h : Eo S M M1) (g : Eo S M1 M2) : Eo S M M2 := fun c j q => (g c j q).trans (h c j q)
theorem Eo.mono {S S' : Nat → Nat → Prop} {M M' : gM} (h : Eo S M M') (f : ∀ c j, S c j → S' c j) : Eo S' M M' := fun c j q => h c j (fun w => q (f c j w))
theorem Eo.u {S : Nat → Nat → Prop} {M M' : gM} {a i : Nat} {x : Int32} (h : Eo S M M') (ha : S a i) : Eo S M (uM M' a i x) := fun c j q => by
  rw [uM_diff (fun w => q (by rw [w.1, w.2]; exact ha))]
  exact h c j q
theorem bb2 {α β : Type} {o : Option α} {f : α → Option β} {p : α → β → Prop} {d : ∀ a b, Decidable (p a b)} (h : (bI o fun q1 => bI (f q1) fun q2 => some (@decide (p q1 q2) (d q1 q2))) = some true) : ∃ q1 q2, o = some q1 ∧ f q1 = some q2 ∧ p q1 q2 := by
  obtain ⟨q1, h1, h⟩ := bnd h
  obtain ⟨q2, h2, h⟩ := bnd h
  exact ⟨q1, q2, h1, h2, of_decide_eq_true (Option.some.inj h)⟩
