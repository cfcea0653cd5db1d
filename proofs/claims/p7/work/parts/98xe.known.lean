/-! a way laid, and held against what is known: both halves -/
section PAR49
theorem way_c : ∀ v, v < 13 → 0 < v → (v ≤ 6 → nI v - 1 = nI (wF v)) ∧ (6 < v → (nI v - 1) - 6 = nI (wF v)) := by decide +kernel
theorem man_2 : ∀ m, m < 7 → 1 ≤ m → ((2 : Int32) ≤ nI m ↔ (1 : Int32) ≤ nI m + -1) ∧ (1 : Int32) ≤ nI m + 0 ∧ (1 : Int32) ≤ nI m + 1 := by decide +kernel
def kP (M : gM) (lv nf d v : Nat) (day : Int32) (i : Nat) : Bool := decide (wFo M lv nf d v (M 441 i) (M 442 i) day = M 443 i)
def allK (p : Nat → Bool) : Nat → Nat → Bool
  | 0, _ => true
  | s + 1, i => p i && allK p s (i + 1)
section KN
variable {D Q q ld lv nf nd ng ne : Nat} {M M' M1 Mc Mb : gM} {L : gL} {r : Nat → Int32}
theorem c_layT (hL : Lnd ld lv nf nd ng ne M) {d v c : Nat} {v5 : Int32} (hd : d < nd) (hv : v < 13) (hc : c ≤ 64) (ec : M 383 7 = nI c) (wf : v ≠ 0 → wF v < nf ∧ v5 = nI (wF v)) (h1 : 1 ≤ wMan M lv nf d v) : ∃ X, J_Told_lay_79 ld (nI d) (wD v) v5 (wMan M lv nf d v) M = some (1, X) ∧ (∀ x y, ¬ (387 ≤ x ∧ x ≤ 389) → X x y = M x y) ∧ (∀ y, y < c → X 387 y = M 387 y ∧ X 388 y = M 388 y) ∧ (∀ y, y < 3 * c → X 389 y = M 389 y) ∧ X 387 c = nI d ∧ X 388 c = wMan M lv nf d v ∧ ∀ j, j < 3 → X 389 (3 * c + j) = wSum M lv nf d v j := by
  obtain ⟨g, hg⟩ := FU_k (1 + 3) (by omega)
  obtain ⟨X, z1, z2, z3⟩ := c_laySums hL hd hv hc wf 3 0 g (uM (uM M 387 c (nI d)) 388 c (wMan M lv nf d v)) (by omega) (fun x y w => by rw [uM_diff (by omega), uM_diff (by omega)]) (by rw [uM_diff (by omega), uM_diff (by omega)]; exact ec) (fun j hj => absurd hj (Nat.not_lt_zero _))
  have c1 : H_Told_lay_115 ld (nI d) (wD v) v5 FU 0 (uM (uM M 387 c (nI d)) 388 c (wMan M lv nf d v)) = some (1, X) := by rw [hg, ← Nat.add_assoc]; exact z1
  have e7 : uM M 387 c (nI d) 383 7 = nI c := by rw [uM_diff (by omega)]; exact ec
  refine ⟨X, ?_, fun x y w => ?_, fun y hy => ⟨?_, ?_⟩, fun y hy => ?_, ?_, ?_, z3⟩
  · unfold J_Told_lay_79
    rw [if_pos h1, ec, s_put (by omega) (by decide), bI_s, e7, s_put (by omega) (by decide), bI_s]
    exact c1
  · rw [z2 x y (by omega), uM_diff (by omega), uM_diff (by omega)]
  · rw [z2 387 y (by omega), uM_diff (by omega), uM_diff (by omega)]
  · rw [z2 388 y (by omega), uM_diff (by omega), uM_diff (by omega)]
  · rw [z2 389 y (by omega), uM_diff (by omega), uM_diff (by omega)]
  · rw [z2 387 c (by omega), uM_diff (by omega), uM_same]
  · rw [z2 388 c (by omega), uM_same]
theorem c_lay (hL : Lnd ld lv nf nd ng ne M) {d v c : Nat} (hd : d < nd) (hv : v < 13) (hc : c ≤ 64) (ec : M 383 7 = nI c) : ∃ X, F_Told_lay ld (nI d) (nI v) M = some (if wOk M lv nf d v = true then 1 else 0, X) ∧ (∀ x y, ¬ (387 ≤ x ∧ x ≤ 389) → X x y = M x y) ∧ (∀ y, y < c → X 387 y = M 387 y ∧ X 388 y = M 388 y) ∧ (∀ y, y < 3 * c → X 389 y = M 389 y) ∧ (wOk M lv nf d v = true → X 387 c = nI d ∧ X 388 c = wMan M lv nf d v ∧ ∀ j, j < 3 → X 389 (3 * c + j) = wSum M lv nf d v j) := by
  have h6 := hL.nf6
  obtain ⟨m, hm1, hm6, em⟩ := man_in hL hd
  obtain ⟨b1, b2, b3⟩ := man_2 m (by omega) hm1
  have no : F_Told_lay ld (nI d) (nI v) M = some (0, M) → wOk M lv nf d v = false → ∃ X, F_Told_lay ld (nI d) (nI v) M = some (if wOk M lv nf d v = true then 1 else 0, X) ∧ (∀ x y, ¬ (387 ≤ x ∧ x ≤ 389) → X x y = M x y) ∧ (∀ y, y < c → X 387 y = M 387 y ∧ X 388 y = M 388 y) ∧ (∀ y, y < 3 * c → X 389 y = M 389 y) ∧ (wOk M lv nf d v = true → X 387 c = nI d ∧ X 388 c = wMan M lv nf d v ∧ ∀ j, j < 3 → X 389 (3 * c + j) = wSum M lv nf d v j) := fun e w => ⟨M, by rw [e, w]; rfl, fun _ _ _ => rfl, fun _ _ => ⟨rfl, rfl⟩, fun _ _ => rfl, fun z => by rw [w] at z; cases z⟩
  have yes : ∀ v5, F_Told_lay ld (nI d) (nI v) M = J_Told_lay_79 ld (nI d) (wD v) v5 (wMan M lv nf d v) M → wOk M lv nf d v = true → (v ≠ 0 → wF v < nf ∧ v5 = nI (wF v)) → 1 ≤ wMan M lv nf d v → ∃ X, F_Told_lay ld (nI d) (nI v) M = some (if wOk M lv nf d v = true then 1 else 0, X) ∧ (∀ x y, ¬ (387 ≤ x ∧ x ≤ 389) → X x y = M x y) ∧ (∀ y, y < c → X 387 y = M 387 y ∧ X 388 y = M 388 y) ∧ (∀ y, y < 3 * c → X 389 y = M 389 y) ∧ (wOk M lv nf d v = true → X 387 c = nI d ∧ X 388 c = wMan M lv nf d v ∧ ∀ j, j < 3 → X 389 (3 * c + j) = wSum M lv nf d v j) := fun v5 e w wf h1 => by
    obtain ⟨X, z1, z2, z3, z4, z5⟩ := c_layT hL hd hv hc ec wf h1
    exact ⟨X, by rw [e, z1, w]; rfl, z2, z3, z4, fun _ => z5⟩
  by_cases v0 : v = 0
  · have d0 : wD v = 0 := by unfold wD; rw [if_pos v0]
    refine yes ((nI v - 1) - 6) ?_ (wOk_t (Or.inl v0)) (fun z => absurd v0 z) (by unfold wMan; rw [d0, em]; exact b2)
    unfold F_Told_lay J_Told_lay_19 J_Told_lay_38 J_Told_lay_64 wMan
    rw [d0, if_pos (show nI v = 0 by rw [v0]; rfl), if_pos (show (0 : Int32) ≤ 0 by decide), c_manyIn hL hd, bI_s, nmI_e, if_pos rfl, if_pos (show (0 : Int32) ≤ 0 by decide)]
  obtain ⟨t1, t2, t3, t4⟩ := way_v v hv (by omega)
  obtain ⟨c1, c2⟩ := way_c v hv (by omega)
  by_cases v6 : v ≤ 6
  · have d1 : wD v = 1 := by unfold wD; rw [if_neg v0, if_pos v6]
    have e0 : F_Told_lay ld (nI d) (nI v) M = (if nI nf ≤ nI (wF v) then some (0, M) else J_Told_lay_79 ld (nI d) (wD v) (nI (wF v)) (wMan M lv nf d v) M) := by
      unfold F_Told_lay J_Told_lay_19 J_Told_lay_38 J_Told_lay_64 wMan
      rw [d1, if_neg t4, if_neg (fun z => by rw [t3] at z; omega), if_neg (show ¬ (1 : Int32) ≤ 0 by decide), c_manyIn hL hd, bI_s, nmI_e, if_neg (show ¬ (1 : Int32) = 0 by decide), hL.cf, c1 v6, if_pos (show (0 : Int32) ≤ 1 by decide)]
    by_cases wf : wF v < nf
    · exact yes (nI (wF v)) (by rw [e0, if_neg (by rw [nI_leI (by omega) (by omega)]; omega)]) (wOk_t (Or.inr ⟨wf, Or.inl v6⟩)) (fun _ => ⟨wf, rfl⟩) (by unfold wMan; rw [d1, em]; exact b3)
    · exact no (by rw [e0, if_pos (by rw [nI_leI (by omega) (by omega)]; omega)]) (wOk_f (fun z => by omega))
  · have d1 : wD v = -1 := by unfold wD; rw [if_neg v0, if_neg v6]
    have e0 : F_Told_lay ld (nI d) (nI v) M = (if nI nf ≤ nI (wF v) then some (0, M) else bI (F_Land_inDish ld (nI d) (nI (wF v)) M) (fun r24 => if r24 = 0 then some (0, M) else J_Told_lay_79 ld (nI d) (wD v) (nI (wF v)) (wMan M lv nf d v) M)) := by
      unfold F_Told_lay J_Told_lay_19 J_Told_lay_38 J_Told_lay_64 wMan
      rw [d1, if_neg t4, if_pos (by rw [t3]; omega), if_pos (show (-1 : Int32) ≤ 0 by decide), c_manyIn hL hd, bI_s, nmI_e, if_neg (show ¬ (-1 : Int32) = 0 by decide), hL.cf, c2 (by omega), if_neg (show ¬ (0 : Int32) ≤ -1 by decide)]
    by_cases wf : wF v < nf
    rotate_left
    · exact no (by rw [e0, if_pos (by rw [nI_leI (by omega) (by omega)]; omega)]) (wOk_f (fun z => by omega))
    rw [if_neg (by rw [nI_leI (by omega) (by omega)]; omega), c_inDish hL hd t2, bI_s] at e0
    by_cases w0 : M 417 (6 * (5 * lv + d) + wF v) = 0
    · exact no (by rw [e0, if_pos w0]) (wOk_f (fun z => by
        rcases z with z | ⟨_, z | ⟨z, _⟩⟩
        · omega
        · omega
        · exact z w0))
    rw [if_neg w0] at e0
    by_cases w2 : 2 ≤ manS M lv nf d
    · exact yes (nI (wF v)) e0 (wOk_t (Or.inr ⟨wf, Or.inr ⟨w0, w2⟩⟩)) (fun _ => ⟨wf, rfl⟩) (by unfold wMan; rw [d1, em]; rw [em] at w2; exact b1.mp w2)
    · refine no ?_ (wOk_f (fun z => by
        rcases z with z | ⟨_, z | ⟨_, z⟩⟩
        · omega
        · omega
        · exact w2 z))
      rw [e0]
      unfold J_Told_lay_79 wMan
      rw [d1, em, if_neg (fun z => w2 (by rw [em]; exact b1.mpr z))]
/-- the class holds a row against what is known -/
theorem c_known (hL : Lnd ld lv nf nd ng ne M) (hT : Td M) {d v c k : Nat} {day : Int32} (hc : c ≤ 64) (ec : M 383 7 = nI c) (hk : ∃ n, n ≤ 20 ∧ M 383 3 = nI n ∧ k ≤ n) (e8 : M 388 c = wMan M lv nf d v) (e9 : ∀ j, j < 3 → M 389 (3 * c + j) = wSum M lv nf d v j) :
    ∀ (s i f : Nat) (N : gM), i + s = k → Kl C0 M zL N zL → ∃ X, H_Told_isAsKnown_3 ld day (nI k) (f + 1 + s) (nI i) N = some (if allK (kP M lv nf d v day) s i = true then 1 else 0, X) ∧ Kl C0 M zL X zL := by
  obtain ⟨n, hn, en, hkn⟩ := hk
  obtain ⟨n', hn', en', _, ht⟩ := hT
  have nn : n' = n := by
    have := en'.symm.trans en
    have := congrArg (fun x : Int32 => x.toInt.toNat) this
    simpa [nI_tn (show n' < 2 ^ 31 by omega), nI_tn (show n < 2 ^ 31 by omega)] using this
  intro s
  induction s with
  | zero =>
    intro i f N hi kN
    obtain rfl : i = k := by omega
    refine ⟨N, ?_, kN⟩
    show B_Told_isAsKnown_3 ld day (nI i) (H_Told_isAsKnown_3 ld day (nI i) f) (nI i) N = _
    unfold B_Told_isAsKnown_3
    rw [if_pos (by rw [nI_leI (by omega) (by omega)]; omega)]
    rfl
  | succ s ih =>
    intro i f N hi kN
    have hN := hL.k0 kN
    obtain ⟨a, b, w, ha, hb, hw, a1, a2, b1, b2, w1, w2⟩ := ht i (by omega)
    have fr : ∀ x y, 64 ≤ x → x ≠ 390 → N x y = M x y := fun x y p q => kN.m (C0_M p q)
    obtain ⟨X, y1, y2⟩ := c_potForce hN (kind := nI a) (sum := wSum M lv nf d v a) (heat := nI b) (many := wMan M lv nf d v) (day := day)
    have fX : ∀ x y, 64 ≤ x → x ≠ 390 → X x y = N x y := fun x y p q => y2.m (C0_M p q)
    have ef : F_Told_forceOf ld day (N 383 7) (nI a) (nI b) N = some (potS M lv (nI a) (wSum M lv nf d v a) (nI b) (wMan M lv nf d v) day, X) := by
      unfold F_Told_forceOf
      rw [fr 383 7 (by decide) (by decide), ec, show (3 : Int32) = nI 3 from rfl, nI_mul, nI_add, s_at (by omega) (by decide), bI_s, s_at (by omega) (by decide), bI_s, fr 389 _ (by decide) (by decide), Nat.mul_comm c 3, e9 a (by omega), fr 388 _ (by decide) (by decide), e8, y1, bI2_s, potS_k (k0_M kN)]
    have hp : kP M lv nf d v day i = decide (potS M lv (nI a) (wSum M lv nf d v a) (nI b) (wMan M lv nf d v) day = nI w) := by
      unfold kP wFo
      rw [a2, b2, w2, nI_tn (by omega)]
    have e0 : H_Told_isAsKnown_3 ld day (nI k) (f + 1 + (s + 1)) (nI i) N = (if potS M lv (nI a) (wSum M lv nf d v a) (nI b) (wMan M lv nf d v) day = nI w then H_Told_isAsKnown_3 ld day (nI k) (f + 1 + s) (nI (i + 1)) X else some (0, X)) := by
      show B_Told_isAsKnown_3 ld day (nI k) (H_Told_isAsKnown_3 ld day (nI k) (f + 1 + s)) (nI i) N = _
      unfold B_Told_isAsKnown_3
      rw [if_neg (by rw [nI_leI (by omega) (by omega)]; omega), s_at (by omega) (by decide), bI_s, s_at (by omega) (by decide), bI_s, fr 384 _ (by decide) (by decide), fr 385 _ (by decide) (by decide), a1, b1, ef, bI2_s, s_at (by omega) (by decide), bI_s, fX 386 _ (by decide) (by decide), fr 386 _ (by decide) (by decide), w1, nmI_e, nI_1]
    rw [e0]
    show ∃ X_1, _ = some (if (kP M lv nf d v day i && allK (kP M lv nf d v day) s (i + 1)) = true then 1 else 0, X_1) ∧ _
    rw [hp]
    by_cases z : potS M lv (nI a) (wSum M lv nf d v a) (nI b) (wMan M lv nf d v) day = nI w
    · rw [if_pos z, decide_eq_true z, Bool.true_and]
      exact ih (i + 1) f X (by omega) (kN.trans y2)
    · rw [if_neg z, decide_eq_false z, Bool.false_and]
      exact ⟨X, rfl, kN.trans y2⟩
/-- the model holds its pot against what is known -/
theorem m_known (hL : Lnd ld lv nf nd ng ne M) (hT : Td M) {d v k : Nat} {day : Int32} (hv : v < 13) (hk : ∃ n, n ≤ 20 ∧ M 401 64 = nI n ∧ k ≤ n) (hw : wOk M lv nf d v = true) (hp : ∀ i, i < 6 → M 438 i = if v ≠ 0 ∧ i = wF v then potD M lv nf d i + wD v else potD M lv nf d i) (e35 : M 437 35 = day) :
    ∀ (s i f : Nat) (N : gM), i + s = k → Eo mV M N → ∃ X, H_Mod_isAsKnown_2 (nI k) (f + 1 + s) (nI i) N = some (if allK (kP M lv nf d v day) s i = true then 1 else 0, X) ∧ Eo mV M X := by
  obtain ⟨n, hn, en, hkn⟩ := hk
  obtain ⟨n', hn', _, en', ht⟩ := hT
  have nn : n' = n := by
    have := en'.symm.trans en
    have := congrArg (fun x : Int32 => x.toInt.toNat) this
    simpa [nI_tn (show n' < 2 ^ 31 by omega), nI_tn (show n < 2 ^ 31 by omega)] using this
  intro s
  induction s with
  | zero =>
    intro i f N hi kN
    obtain rfl : i = k := by omega
    refine ⟨N, ?_, kN⟩
    show B_Mod_isAsKnown_2 (nI i) (H_Mod_isAsKnown_2 (nI i) f) (nI i) N = _
    unfold B_Mod_isAsKnown_2
    rw [if_pos (by rw [nI_leI (by omega) (by omega)]; omega)]
    rfl
  | succ s ih =>
    intro i f N hi kN
    have hN := hL.kV kN
    have mN := mV_M kN
    obtain ⟨a, b, w, ha, hb, hw', a1, a2, b1, b2, w1, w2⟩ := ht i (by omega)
    have fr : ∀ x y, x ≠ 434 → x ≠ 435 → x ≠ 401 → N x y = M x y := fun x y p q p2 => kN x y (by unfold mV; omega)
    obtain ⟨X, y1, y2⟩ := m_wayForce hN (d := d) (v := v) (j := a) (heat := nI b) hv (by rw [wOk_k mN]; exact hw) (fun i hi => by rw [fr 438 i (by decide) (by decide) (by decide), hp i hi, potD_k mN]) (by omega)
    have fX : ∀ x y, x ≠ 434 → x ≠ 435 → x ≠ 401 → X x y = N x y := fun x y p q p2 => y2 x y (by unfold mV; omega)
    rw [wFo_k mN, fr 437 35 (by decide) (by decide) (by decide), e35] at y1
    have hpp : kP M lv nf d v day i = decide (wFo M lv nf d v (nI a) (nI b) day = nI w) := by
      unfold kP
      rw [a2, b2, w2]
    have gi : ¬ (nI i < 0 ∨ 20 ≤ (nI i).toNatClampNeg) := nI_in (by omega) (by omega)
    have gc : (nI i).toNatClampNeg = i := nI_clamp (by omega)
    have e0 : H_Mod_isAsKnown_2 (nI k) (f + 1 + (s + 1)) (nI i) N = (if wFo M lv nf d v (nI a) (nI b) day = nI w then H_Mod_isAsKnown_2 (nI k) (f + 1 + s) (nI (i + 1)) X else some (0, X)) := by
      show B_Mod_isAsKnown_2 (nI k) (H_Mod_isAsKnown_2 (nI k) (f + 1 + s)) (nI i) N = _
      unfold B_Mod_isAsKnown_2
      rw [if_neg (by rw [nI_leI (by omega) (by omega)]; omega), if_neg gi, if_neg gi, gc, fr 441 _ (by decide) (by decide) (by decide), fr 442 _ (by decide) (by decide) (by decide), a2, b2, y1, bI2_s, if_neg (not_or.mpr ⟨nI_pos (by omega), by omega⟩), fX 443 _ (by decide) (by decide) (by decide), fr 443 _ (by decide) (by decide) (by decide), w2, nmI_e, nI_1]
    rw [e0]
    show ∃ X_1, _ = some (if (kP M lv nf d v day i && allK (kP M lv nf d v day) s (i + 1)) = true then 1 else 0, X_1) ∧ _
    rw [hpp]
    by_cases z : wFo M lv nf d v (nI a) (nI b) day = nI w
    · rw [if_pos z, decide_eq_true z, Bool.true_and]
      exact ih (i + 1) f X (by omega) (kN.tr y2)
    · rw [if_neg z, decide_eq_false z, Bool.false_and]
      exact ⟨X, rfl, kN.tr y2⟩
end KN
end PAR49
