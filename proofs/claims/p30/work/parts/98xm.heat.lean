/-! a law that doesn't look at the heat -/
section PAR57
/-- two answers that differ in memory alone, and there at S -/
def RO (S : Nat → Nat → Prop) (o o' : Option (Int32 × gM)) : Prop := match o, o' with
  | none, none => True
  | some (r, X), some (r', X') => r = r' ∧ Eo S X X'
  | _, _ => False
theorem RO.ite {S : Nat → Nat → Prop} {c : Prop} [Decidable c] {a a' b b' : Option (Int32 × gM)} (h1 : c → RO S a a') (h2 : ¬ c → RO S b b') : RO S (if c then a else b) (if c then a' else b') := by
  by_cases w : c
  · rw [if_pos w, if_pos w]; exact h1 w
  · rw [if_neg w, if_neg w]; exact h2 w
theorem RO.bI {S : Nat → Nat → Prop} {o : Option Int32} {f g : Int32 → Option (Int32 × gM)} (h : ∀ x, o = some x → RO S (f x) (g x)) : RO S (bI o f) (bI o g) := by
  cases o with
  | none => exact trivial
  | some x => exact h x rfl
theorem RO.some {S : Nat → Nat → Prop} {r : Int32} {X X' : gM} (h : Eo S X X') : RO S (some (r, X)) (some (r, X')) := ⟨rfl, h⟩
theorem Eo.uu {S : Nat → Nat → Prop} {M M' : gM} {a i : Nat} {x : Int32} (h : Eo S M M') : Eo S (uM M a i x) (uM M' a i x) := fun c j w => by
  rw [uM_at, uM_at]
  by_cases z : c = a ∧ j = i
  · rw [if_pos z, if_pos z]
  · rw [if_neg z, if_neg z]; exact h c j w
section HT
variable {W : Nat}
/-- the place of the heat -/
def pH (W c j : Nat) : Prop := c = W + 2 ∧ j = 1
theorem at_H {N N' : gM} (e : Eo (pH W) N N') {a n : Nat} {p : Int32} (ha : a = W + 2 → p ≠ 1) : F_Main_at a n p N' = F_Main_at a n p N := by
  unfold F_Main_at
  by_cases h0 : p < 0
  · rw [if_pos h0, if_pos h0]
  rw [if_neg h0, if_neg h0]
  obtain ⟨i, hi, rfl⟩ := nI_of h0
  rw [nI_clamp hi]
  have : N' a i = N a i := e a i (fun z => ha z.1 (by rw [z.2]; rfl))
  rw [this]
theorem RO_204 {M0 N N' : gM} {H : Int32 → Int32 → Int32 → gM → Option (Int32 × gM)} {v1 v2 v3 v4 v5 v6 : Int32} (ih : ∀ x (A B : gM), (∀ c j, c = W ∨ c = W + 1 → A c j = M0 c j) → Eo (pH W) A B → RO (pH W) (H x v2 (v3 + 1) A) (H x v2 (v3 + 1) B)) (k : ∀ c j, c = W ∨ c = W + 1 → N c j = M0 c j) (e : Eo (pH W) N N') : RO (pH W) (J_Law_value_204 W H v1 v2 v3 v4 v5 v6 N) (J_Law_value_204 W H v1 v2 v3 v4 v5 v6 N') := by
  unfold J_Law_value_204
  cases F_Law_reckon (v4 - 20000) v5 v6 with
  | none => exact trivial
  | some r =>
    rw [bI_s, bI_s]
    by_cases w : v1 < 0 ∨ 32 ≤ v1.toNatClampNeg
    · rw [if_pos w, if_pos w]; exact trivial
    · rw [if_neg w, if_neg w]
      exact ih _ _ _ (fun c j z => by rw [uM_diff (by omega)]; exact k c j z) e.uu
theorem val_H {M0 : gM} (hc : ∀ i, i < 400 → ¬ M0 W 1 ≤ nI i → M0 (W + 1) i ≠ 10001) : ∀ (f : Nat) (v1 v2 v3 : Int32) (N N' : gM), (∀ c j, c = W ∨ c = W + 1 → N c j = M0 c j) → Eo (pH W) N N' → RO (pH W) (H_Law_value_6 W f v1 v2 v3 N) (H_Law_value_6 W f v1 v2 v3 N') := by
  intro f
  induction f with
  | zero => intro _ _ _ _ _ _ _; exact trivial
  | succ f ih =>
    intro v1 v2 v3 N N' k e
    have eW : ∀ j, N' W j = N W j := fun j => e W j (fun z => by have := z.1; omega)
    have eC : ∀ j, N' (W + 1) j = N (W + 1) j := fun j => e (W + 1) j (fun z => by have := z.1; omega)
    have eS : ∀ j, N' (W + 3) j = N (W + 3) j := fun j => e (W + 3) j (fun z => by have := z.1; omega)
    show RO (pH W) (B_Law_value_6 W (H_Law_value_6 W f) v1 v2 v3 N) (B_Law_value_6 W (H_Law_value_6 W f) v1 v2 v3 N')
    generalize H_Law_value_6 W f = H at ih ⊢
    have ask : ∀ {a n : Nat} {p : Int32} {g : Int32 → gM → Option (Int32 × gM)}, (a = W + 2 → p ≠ 1) → (∀ r, RO (pH W) (g r N) (g r N')) → RO (pH W) (bI (F_Main_at a n p N) (fun r => g r N)) (bI (F_Main_at a n p N') (fun r => g r N')) := fun {a n p g} ha hg => by
      rw [at_H e ha]
      exact RO.bI (fun r _ => hg r)
    have s232 : RO (pH W) (J_Law_value_232 W N) (J_Law_value_232 W N') := by
      unfold J_Law_value_232
      rw [at_H e (by omega)]
      exact RO.bI (fun r _ => RO.some e)
    unfold B_Law_value_6
    rw [eW 1]
    refine RO.ite (fun _ => s232) (fun _ => RO.ite (fun _ => s232) (fun h2 => RO.ite (fun _ => s232) (fun h3 => RO.ite (fun _ => s232) (fun h4 => RO.ite (fun _ => trivial) (fun h5 => ?_)))))
    obtain ⟨i, hi, rfl⟩ := nI_of h2
    have i4 : i < 400 := by
      rw [show (400 : Int32) = nI 400 from rfl, nI_leI (by omega) hi] at h4
      omega
    rw [nI_clamp hi, eC i]
    have hx : N (W + 1) i ≠ 10001 := by
      rw [k (W + 1) i (Or.inr rfl)]
      exact hc i i4 (by rw [← k W 1 (Or.inl rfl)]; exact h3)
    rw [nmI_e, nmI_e, nmI_e, nmI_e]
    generalize N (W + 1) i = x8 at hx ⊢
    refine RO.ite (fun _ => s232) (fun _ => RO.ite (fun _ => RO.ite (fun _ => RO.some e) (fun _ => RO.ite (fun _ => RO.ite (fun _ => trivial) (fun _ => ?_)) (fun _ => RO.some e))) (fun _ => RO.ite (fun _ => RO.some e) (fun _ => RO.ite (fun _ => ?_) (fun _ => RO.some e))))
    · rw [nmI_e, nmI_e, eS, eS]
      refine RO.ite (fun _ => trivial) (fun _ => ?_)
      repeat rw [nmI_e]
      generalize N (W + 3) (v1 - 2).toNatClampNeg = x15
      generalize N (W + 3) (v1 - 1).toNatClampNeg = x17
      refine RO.ite (fun _ => RO.ite (fun _ => ?_) (fun _ => ?_)) (fun _ => RO.ite (fun _ => RO.ite (fun _ => RO.some e) (fun _ => ?_)) (fun _ => ?_))
      · exact ask (a := W + 1) (n := 400) (p := nI i + 1) (g := fun r30 N => J_Law_value_185 W H (v1 + -2) v3 r30 N) (by omega) (fun r => ih _ _ _ N N' k e)
      · exact ih _ _ _ N N' k e
      · exact RO_204 (fun x A B a b => ih _ _ _ A B a b) k e
      · exact RO_204 (fun x A B a b => ih _ _ _ A B a b) k e
    · refine RO.ite (fun _ => ?_) (fun _ => ?_)
      · exact ask (a := W + 2) (n := 9) (p := x8 - 10000) (g := fun r35 N => J_Law_value_110 W H v1 (nI i + 1) v3 v1 r35 N) (fun _ z => hx (by
          have : x8 = 1 + 10000 := by rw [← z, Int32.sub_add_cancel]
          rw [this]; decide)) (fun r => RO.ite (fun _ => trivial) (fun _ => ih _ _ _ _ _ (fun c j z => by rw [uM_diff (by omega)]; exact k c j z) e.uu))
      · exact RO.ite (fun _ => trivial) (fun _ => ih _ _ _ _ _ (fun c j z => by rw [uM_diff (by omega)]; exact k c j z) e.uu)
/-- what is not looked at is not there -/
theorem look_0 {M : gM} (h : F_Law_looksAt W 1 M = some 0) : ∀ i, i < 400 → ¬ M W 1 ≤ nI i → M (W + 1) i ≠ 10001 := by
  have key : ∀ (s k f : Nat), k + s = 400 → H_Law_looksAt_2 W 1 M (f + 1 + s) (nI k) = some 0 → ∀ i, k ≤ i → i < 400 → ¬ M W 1 ≤ nI i → M (W + 1) i ≠ 10001 := by
    intro s
    induction s with
    | zero => intro k f hk _ i a b; omega
    | succ s ih =>
      intro k f hk h i a b c
      have h' : B_Law_looksAt_2 W 1 M (H_Law_looksAt_2 W 1 M (f + 1 + s)) (nI k) = some 0 := h
      have ih' := ih (k + 1) f (by omega)
      generalize H_Law_looksAt_2 W 1 M (f + 1 + s) = H at h' ih'
      unfold B_Law_looksAt_2 at h'
      by_cases w : M W 1 ≤ nI k
      · exfalso
        refine c ?_
        rw [i_le] at w ⊢
        rw [nI_toInt (by omega)] at w ⊢
        omega
      rw [if_neg w, if_neg (by rw [show (400 : Int32) = nI 400 from rfl, nI_leI (by omega) (by omega)]; omega), if_neg (nI_in (by omega) (by omega)), nI_clamp (by omega), nmI_e, nI_1] at h'
      by_cases z : M (W + 1) k = 10000 + 1
      · rw [if_pos z] at h'
        exact absurd (Option.some.inj h') (by decide)
      rw [if_neg z] at h'
      by_cases y : i = k
      · rw [y]
        exact fun q => z (q.trans (by decide))
      · exact ih' h' i (by omega) b c
  unfold F_Law_looksAt at h
  obtain ⟨g, hg⟩ := FU_k (1 + 400) (by omega)
  rw [hg, ← Nat.add_assoc] at h
  exact fun i hi => key 400 0 g (by omega) h i (Nat.zero_le _) hi
end HT
section HL
variable {ld lv nf nd ng ne : Nat} {M : gM}
theorem potS_heat (hL : Lnd ld lv nf nd ng ne M) (h0 : F_Law_looksAt (ld + 9) 1 M = some 0) (kind sum h h' many day : Int32) : potS M lv kind sum h' many day = potS M lv kind sum h many day := by
  obtain ⟨X, x1, _⟩ := c_potForce hL (kind := kind) (sum := sum) (heat := h) (many := many) (day := day)
  obtain ⟨Y, y1, _⟩ := c_potForce hL (kind := kind) (sum := sum) (heat := h') (many := many) (day := day)
  have hl := look_0 h0
  unfold F_Land_potForce at x1 y1
  cases q : F_Law_isTold (ld + 9) M with
  | none => rw [q] at x1; cases x1
  | some r2 =>
    rw [q, bI_s] at x1 y1
    by_cases w : r2 = 0
    · rw [if_pos w] at x1 y1
      exact (Prod.mk.inj (Option.some.inj (y1.symm.trans x1))).1
    rw [if_neg w, show F_Law_let (ld + 9) 0 sum M = some (uM M (ld + 9 + 2) 0 sum) from let_e (j := 0) (by decide), bI_s, show F_Law_let (ld + 9) 1 _ _ = some (uM _ (ld + 9 + 2) 1 _) from let_e (j := 1) (by decide), bI_s, show F_Law_let (ld + 9) 2 _ _ = some (uM _ (ld + 9 + 2) 2 _) from let_e (j := 2) (by decide), bI_s, show F_Law_let (ld + 9) 3 _ _ = some (uM _ (ld + 9 + 2) 3 _) from let_e (j := 3) (by decide), bI_s, show F_Law_let (ld + 9) 4 _ _ = some (uM _ (ld + 9 + 2) 4 _) from let_e (j := 4) (by decide), bI_s] at x1 y1
    have e0 : Eo (pH (ld + 9)) (uM (uM M (ld + 9 + 2) 0 sum) (ld + 9 + 2) 1 h) (uM (uM M (ld + 9 + 2) 0 sum) (ld + 9 + 2) 1 h') := fun c j z => by
      rw [uM_diff z, uM_diff z]
    have hR := val_H (W := ld + 9) hl FU 0 0 0 _ _ (fun c j z => by
      rw [uM_diff (by omega), uM_diff (by omega), uM_diff (by omega), uM_diff (by omega), uM_diff (by omega)]) (((e0.uu (a := ld + 9 + 2) (i := 2) (x := kind)).uu (a := ld + 9 + 2) (i := 3) (x := many)).uu (a := ld + 9 + 2) (i := 4) (x := day))
    have hR' : RO (pH (ld + 9)) (F_Law_value (ld + 9) (uM (uM (uM (uM (uM M (ld + 9 + 2) 0 sum) (ld + 9 + 2) 1 h) (ld + 9 + 2) 2 kind) (ld + 9 + 2) 3 many) (ld + 9 + 2) 4 day)) (F_Law_value (ld + 9) (uM (uM (uM (uM (uM M (ld + 9 + 2) 0 sum) (ld + 9 + 2) 1 h') (ld + 9 + 2) 2 kind) (ld + 9 + 2) 3 many) (ld + 9 + 2) 4 day)) := hR
    generalize F_Law_value (ld + 9) (uM (uM (uM (uM (uM M (ld + 9 + 2) 0 sum) (ld + 9 + 2) 1 h) (ld + 9 + 2) 2 kind) (ld + 9 + 2) 3 many) (ld + 9 + 2) 4 day) = o at x1 hR'
    generalize F_Law_value (ld + 9) (uM (uM (uM (uM (uM M (ld + 9 + 2) 0 sum) (ld + 9 + 2) 1 h') (ld + 9 + 2) 2 kind) (ld + 9 + 2) 3 many) (ld + 9 + 2) 4 day) = o' at y1 hR'
    match o, o', hR' with
    | none, none, _ => cases x1
    | some (r, A), some (r', A'), hR' =>
      rw [bI2_s] at x1 y1
      obtain rfl : r = r' := hR'.1
      unfold F_Main_within at x1 y1
      rw [bI_s] at x1 y1
      exact ((Prod.mk.inj (Option.some.inj y1)).1.symm.trans (Prod.mk.inj (Option.some.inj x1)).1)
end HL
end PAR57
