/-! the calls, first half: both come to an end, what holds between calls is kept -/
section PAR23
/-- the cells of all states -/
def sC (c j : Nat) : Prop := (64 ≤ c ∧ c < 71) ∨ c = 78 ∨ (80 ≤ c ∧ c < 360) ∨ (362 ≤ c ∧ c < 383) ∨ c = 436 ∨ c = 440 ∨ c = 446 ∨ (c = 445 ∧ j < 3) ∨ (c = 401 ∧ j = 57)
def sV (c j : Nat) : Prop := sC c j ∨ (12 ≤ c ∧ c < 64)
theorem sV_n {c j : Nat} (h : sV c j) : (12 ≤ c ∧ c < 360) ∨ (362 ≤ c ∧ c < 383) ∨ c = 436 ∨ c = 440 ∨ c = 446 ∨ c = 445 ∨ (c = 401 ∧ j = 57) := by unfold sV sC at h; omega
theorem st64 : isSt 64 := (by decide : (64 : Nat) ∈ lSt)
theorem stP {v : Nat} (h : v < 40) : isSt (80 + 7 * v) := (by decide +kernel : ∀ v, v < 40 → (80 + 7 * v) ∈ lSt) v h
theorem stS {s : Nat} (h : s < 3) : isSt (362 + 7 * s) := (by decide +kernel : ∀ v, v < 3 → (362 + 7 * v) ∈ lSt) s h
def CSt (c j : Nat) : Bool := C0 c j || (decide (64 ≤ c) && decide (c < 360)) || (decide (362 ≤ c) && decide (c < 383))
theorem gl_CSt {c j : Nat} (h : (gl c j || gt c j) = true) : CSt c j = false := by
  obtain ⟨h1, h2⟩ := gl_num h
  unfold CSt C0
  rw [h1]
  simp only [Bool.false_and, Bool.false_or, Bool.or_eq_false_iff, Bool.and_eq_false_iff, decide_eq_false_iff_not]
  omega
theorem CX_CSt {X : Nat} (hX : isSt X) : ∀ c j, CX X c j = true → CSt c j = true := fun c j h => by
  have h2 := (by decide +kernel : ∀ X ∈ lSt, (64 ≤ X ∧ X + 7 ≤ 360) ∨ (362 ≤ X ∧ X + 7 ≤ 383)) X hX
  unfold CX at h
  unfold CSt
  cases e : C0 c j with
  | true => rfl
  | false =>
    rw [e] at h
    simp only [Bool.false_or, Bool.and_eq_true, decide_eq_true_eq, Bool.or_eq_true] at h ⊢
    omega
section GG
variable {ld : Nat} {M M' : gM} {L : gL}
theorem G0.kSt (h : G0 ld M L) (k : Kl CSt M zL M' zL) : G0 ld M' L := h.keep (fun c j q => k.m (gl_CSt q)) (by rw [k.m (show CSt 401 57 = false from rfl)]; exact h.inv.undos)
theorem G0.kCX {X : Nat} (hX : isSt X) (h : G0 ld M L) (k : Kl (CX X) M zL M' zL) : G0 ld M' L := h.kSt (k.mono (CX_CSt hX))
theorem G0.u57 (h : G0 ld M L) : ∃ u, u ≤ 40 ∧ M 401 57 = nI u := by
  have := h.inv.undos
  exact ⟨(M 401 57).toInt.toNat, by omega, i_nI (by omega)⟩
theorem G0.rec (h : G0 ld M L) : ∃ M', F_Mod_records M = some M' ∧ G0 ld M' L := by
  obtain ⟨u, hu, hM⟩ := h.u57
  obtain ⟨M', v, sh, e1, e2, e3, e4, e5, e6, e7⟩ := s_records hu hM
  refine ⟨M', e1, h.keep (fun c j q => e7 c j (by have := (gl_num q).2; omega)) ?_⟩
  rw [e3, nI_toInt (by omega)]
  omega
theorem tf_Past_keep : ∃ M', F_Past_keep 64 M = some M' ∧ Kl CSt M zL M' zL := by
  unfold F_Past_keep
  by_cases h0 : M 78 1 < 0
  · rw [if_pos h0]; exact ⟨M, rfl, Kl.rf⟩
  rw [if_neg h0]
  by_cases h1 : 40 ≤ M 78 1
  · rw [if_pos h1]; exact ⟨M, rfl, Kl.rf⟩
  rw [if_neg h1]
  obtain ⟨v, hv, e⟩ := nI_of h0
  rw [e, show (40 : Int32) = nI 40 from rfl, nI_leI (by omega) hv] at h1
  rw [e, nI_clamp hv, if_neg (nI_inc (by omega) hv), if_neg (nI_inc (by omega) hv)]
  obtain ⟨M1, e1, k1⟩ := tf_State_copyFrom (X0 := 80 + 7 * v) (X1 := 64) (M := M) (stP (by omega)) st64
  rw [e1, bI_s]
  have k2 := k1.mono (CX_CSt (stP (v := v) (by omega)))
  have k3 : ∀ s1 : Int32, ∃ M', J_Past_keep_67 64 s1 M1 = some M' ∧ Kl CSt M zL M' zL := fun s1 => by
    unfold J_Past_keep_67
    exact ⟨_, rfl, (k2.wM rfl rfl).wM rfl rfl⟩
  by_cases h2 : 40 ≤ M1 78 1 + 1
  · rw [if_pos h2]; exact k3 _
  · rw [if_neg h2]; exact k3 _
theorem gc_cook (h : G0 ld M L) (a : Int32) : ∃ r M1, F_Main_cook ld a M = some (r, M1) ∧ G0 ld M1 L := by
  unfold F_Main_cook
  obtain ⟨x, f1, _⟩ := tf_Main_isOne (p1 := a) (p2 := M ld 1)
  rw [f1, bI_s]
  by_cases hx : x = 0
  · rw [if_pos hx]; exact ⟨_, _, rfl, h⟩
  rw [if_neg hx]
  obtain ⟨y, f2, _⟩ := tf_State_inStore (X0 := 64) (Ld1 := ld) (p2 := a) (M := M) st64 h.la
  rw [f2, bI_s]
  by_cases hy : y = 0
  · rw [if_pos hy]; exact ⟨_, _, rfl, h⟩
  rw [if_neg hy]
  obtain ⟨Ma, f3, k3⟩ := tf_Past_keep (M := M)
  obtain ⟨z, Mb, f4, _, k4⟩ := tf_State_cookOne (X0 := 64) (Ld1 := ld) (p2 := a) (M := Ma) st64 h.la
  rw [f3, bI_s, f4, bI2_s]
  exact ⟨_, _, rfl, (h.kSt k3).kCX st64 k4⟩
theorem gm_cook (h : G0 ld M L) (a : Int32) : ∃ r M1, F_Mod_cook a M = some (r, M1) ∧ G0 ld M1 L := by
  unfold F_Mod_cook
  obtain ⟨x, f1, hx⟩ := tf_Mod_isDish (p0 := a) h.inv
  rw [f1, bI_s]
  rcases hx with ⟨hx, _⟩ | ⟨hx, hx2⟩
  · rw [if_pos hx]; exact ⟨_, _, rfl, h⟩
  rw [if_neg (by rw [hx]; decide)]
  have hd := h.inv.dishes (M 401 18).toNatClampNeg
  obtain ⟨Ma, f2, k2⟩ := tf_Mod_copies h.inv
  have ha := h.kM1 k2
  obtain ⟨y, Mb, f3, _, k3⟩ := tf_Mod_isInStore (p0 := a) ha.inv ⟨hx2.1, by omega⟩
  have hb := ha.kM1 k3
  rw [f2, bI_s, f3, bI2_s]
  by_cases hy : y = 0
  · rw [if_pos hy]; exact ⟨_, _, rfl, hb⟩
  rw [if_neg hy]
  obtain ⟨z, Mc, f4, _, k4⟩ := tf_Mod_cooks (p0 := a) hb.inv (by
    rw [k3.m (show MS1 401 18 = false from rfl), k3.m (show MS1 415 _ = false from rfl), k2.m (show MS1 401 18 = false from rfl), k2.m (show MS1 415 _ = false from rfl)]
    exact hx2)
  obtain ⟨Md, f5, hd⟩ := (hb.kM1 k4).rec
  rw [f4, bI2_s, f5, bI_s]
  exact ⟨_, _, rfl, hd⟩
theorem gc_eat (h : G0 ld M L) (a : Int32) : ∃ r M1, F_Main_eat ld a M = some (r, M1) ∧ G0 ld M1 L := by
  unfold F_Main_eat
  obtain ⟨x, f1, _⟩ := tf_Main_isOne (p1 := a) (p2 := M ld 2)
  rw [f1, bI_s]
  by_cases hx : x = 0
  · rw [if_pos hx]; exact ⟨_, _, rfl, h⟩
  rw [if_neg hx]
  by_cases hy : 0 ≤ M 64 3
  · rw [if_pos hy]
    obtain ⟨Ma, f3, k3⟩ := tf_Past_keep (M := M)
    have ha := h.kSt k3
    obtain ⟨Mb, f4, k4⟩ := tf_State_eatServed (X0 := 64) (p1 := a) (M := Ma) st64
    have hb := ha.kCX st64 k4
    obtain ⟨z, Mc, f5, _, k5⟩ := tf_State_freeOf (X0 := 64) (Ld1 := ld) (p2 := a) (p3 := 0) (M := Mb) st64 h.la
    rw [f3, bI_s, f4, bI_s, f5, bI2_s]
    exact ⟨_, _, rfl, hb.kC0 k5⟩
  · rw [if_neg hy]; exact ⟨_, _, rfl, h⟩
theorem fl_congr {M : gM} {a o n : Nat} {v w : Nat → Int32} (h : ∀ j, j < n → v j = w j) : fl M a o n v = fl M a o n w := by
  funext c j
  rw [fl_at, fl_at]
  by_cases q : c = a ∧ o ≤ j ∧ j < o + n
  · rw [if_pos q, if_pos q]; exact h _ (by omega)
  · rw [if_neg q, if_neg q]
theorem eat_loop {g : Nat} (hg : g < 4) : ∀ (d k f : Nat) (M : gM), k + d = 3 → H_Mod_eat_45 (nI g) (f + 1 + d) (nI k) M = J_Mod_eat_78 (nI g) (fl M 437 (19 + 3 * g + k) d (fun j => M 437 (12 + (k + j)))) := by
  intro d
  induction d with
  | zero =>
    intro k f M h
    show B_Mod_eat_45 (nI g) _ (nI k) M = _
    unfold B_Mod_eat_45
    rw [show (3 : Int32) = nI 3 from rfl, if_pos (by rw [nI_leI (by omega) (by omega)]; omega), fl_0]
  | succ d ih =>
    intro k f M h
    show B_Mod_eat_45 (nI g) (H_Mod_eat_45 (nI g) (f + 1 + d)) (nI k) M = _
    unfold B_Mod_eat_45
    rw [show (3 : Int32) = nI 3 from rfl, show (12 : Int32) = nI 12 from rfl, show (19 : Int32) = nI 19 from rfl, if_neg (by rw [nI_leI (by omega) (by omega)]; omega), nI_mul, nI_add, nI_add, nI_add, if_neg (nI_in (by omega) (by omega)), if_neg (nI_in (by omega) (by omega)), nI_clamp (by omega), nI_clamp (by omega), nmM_e, nmI_e, nI_1, ih (k + 1) f _ (by omega)]
    refine congrArg (J_Mod_eat_78 (nI g)) ?_
    rw [show 19 + 3 * g + (k + 1) = 19 + 3 * g + k + 1 by omega]
    refine (fl_congr (w := fun j => (fun j => M 437 (12 + (k + j))) (j + 1)) (fun j hj => ?_)).trans ?_
    · show uM M 437 _ _ 437 _ = M 437 _
      rw [uM_diff (by omega), show k + 1 + j = k + (j + 1) by omega]
    exact fl_cons (v := fun j => M 437 (12 + (k + j))) rfl
theorem G0.k437 (h : G0 ld M L) (e : Eo (fun c _ => c = 437) M M') : G0 ld M' L := h.keep (fun c j q => e c j (by have := (gl_num q).2; omega)) (by rw [e 401 57 (by omega)]; exact h.inv.undos)
theorem gm_eat (h : G0 ld M L) (a : Int32) : ∃ r M1, F_Mod_eat a M = some (r, M1) ∧ G0 ld M1 L := by
  unfold F_Mod_eat
  obtain ⟨x, f1, hx⟩ := tf_Mod_isGuest (p0 := a) h.inv
  rw [f1, bI_s]
  rcases hx with ⟨hx, _⟩ | ⟨hx, hx2⟩
  · rw [if_pos hx]; exact ⟨_, _, rfl, h⟩
  rw [if_neg (by rw [hx]; decide)]
  have hd := h.inv.guests (M 401 18).toNatClampNeg
  obtain ⟨Ma, f2, k2⟩ := tf_Mod_copies h.inv
  have ha := h.kM1 k2
  rw [f2, bI_s]
  by_cases hy : 0 ≤ Ma 437 11
  · rw [if_pos hy]
    obtain ⟨g, hg, rfl⟩ : ∃ g, g < 4 ∧ a = nI g := ⟨a.toInt.toNat, by omega, i_nI hx2.1⟩
    rw [show (15 : Int32) = nI 15 from rfl, nI_add, nI_clamp (by omega), if_neg (nI_inc (by omega) (by omega)), nmM_e]
    obtain ⟨q, hq⟩ := FU_k (1 + 3) (by omega)
    rw [hq, ← Nat.add_assoc, show (H_Mod_eat_45 (nI g) (q + 1 + 3) 0 : gM → Option (Int32 × gM)) = H_Mod_eat_45 (nI g) (q + 1 + 3) (nI 0) from rfl, eat_loop hg 3 0 _ _ (by omega)]
    unfold J_Mod_eat_78
    rw [show (31 : Int32) = nI 31 from rfl, nI_add, nI_clamp (by omega), if_neg (nI_inc (by omega) (by omega)), if_neg (nI_inc (by omega) (by omega)), nmM_e]
    have hb : G0 ld (uM (fl (uM Ma 437 (15 + g) (Ma 437 35)) 437 (19 + 3 * g + 0) 3 (fun j => uM Ma 437 (15 + g) (Ma 437 35) 437 (12 + (0 + j)))) 437 (31 + g) (fl (uM Ma 437 (15 + g) (Ma 437 35)) 437 (19 + 3 * g + 0) 3 (fun j => uM Ma 437 (15 + g) (Ma 437 35) 437 (12 + (0 + j))) 437 (31 + g) + 1)) L := ha.k437 (fun c j w => by rw [uM_diff (by omega), fl_out (by omega), uM_diff (by omega)])
    obtain ⟨Mc, f3, hc⟩ := hb.rec
    obtain ⟨z, Md, f4, _, k4⟩ := tf_Mod_freeBits (p0 := nI g) hc.inv (by rw [nI_toInt (by omega)]; omega)
    rw [f3, bI_s, f4, bI2_s]
    exact ⟨_, _, rfl, hc.kM0 k4⟩
  · rw [if_neg hy]; exact ⟨_, _, rfl, ha⟩
theorem gc_days (h : G0 ld M L) (a : Int32) : ∃ r M1, F_Main_days ld a M = some (r, M1) ∧ G0 ld M1 L := by
  unfold F_Main_days
  by_cases h0 : a < 0
  · rw [if_pos h0]; exact ⟨_, _, rfl, h⟩
  rw [if_neg h0]
  by_cases h1 : a ≤ 60
  · rw [if_pos h1]
    by_cases h2 : a ≤ 0
    · rw [if_pos h2]; exact ⟨_, _, rfl, h⟩
    · rw [if_neg h2]
      obtain ⟨Ma, f3, k3⟩ := tf_Past_keep (M := M)
      obtain ⟨Mb, f4, k4⟩ := tf_State_passDays (X0 := 64) (Ld1 := ld) (p2 := a) (M := Ma) st64 h.la
      rw [f3, bI_s, f4, bI_s]
      exact ⟨_, _, rfl, (h.kSt k3).kCX st64 k4⟩
  · rw [if_neg h1]; exact ⟨_, _, rfl, h⟩
theorem gm_days (h : G0 ld M L) (a : Int32) : ∃ r M1, F_Mod_days a M = some (r, M1) ∧ G0 ld M1 L := by
  unfold F_Mod_days
  obtain ⟨x, f1, hx⟩ := tf_Mod_in (p0 := a) (p1 := 0) (p2 := 60)
  rw [f1, bI_s]
  by_cases h0 : x = 0
  · rw [if_pos h0]; exact ⟨_, _, rfl, h⟩
  rw [if_neg h0]
  by_cases h1 : a = 0
  · rw [if_pos h1]; exact ⟨_, _, rfl, h⟩
  rw [if_neg h1]
  obtain ⟨Ma, f2, k2⟩ := tf_Mod_copies h.inv
  have ha := h.kM1 k2
  obtain ⟨Mb, f3, k3⟩ := tf_Mod_goes (p0 := a) ha.inv
  obtain ⟨Mc, f4, hc⟩ := (ha.kM1 k3).rec
  rw [f2, bI_s, f3, bI_s, f4, bI_s]
  exact ⟨_, _, rfl, hc⟩
theorem gc_undo (h : G0 ld M L) : ∃ r M1, F_Main_undo M = some (r, M1) ∧ G0 ld M1 L := by
  unfold F_Main_undo F_Past_takeBack
  have key : ∀ s0 : Int32, ¬ s0 < 0 → ∃ r M1, bI2 (J_Past_takeBack_18 64 s0 M) (fun r2 M3 => (if r2 = 0 ∨ r2 = 1 then some (r2, M3) else none)) = some (r, M1) ∧ G0 ld M1 L := fun s0 h0 => by
    unfold J_Past_takeBack_18
    by_cases h1 : M 78 2 = 0
    · rw [if_pos h1, bI2_s, if_pos (Or.inl rfl)]; exact ⟨_, _, rfl, h⟩
    rw [if_neg h1]
    by_cases h2 : 40 ≤ s0
    · rw [if_pos h2, bI2_s, if_pos (Or.inl rfl)]; exact ⟨_, _, rfl, h⟩
    rw [if_neg h2]
    obtain ⟨v, hv, rfl⟩ := nI_of h0
    rw [show (40 : Int32) = nI 40 from rfl, nI_leI (by omega) hv] at h2
    rw [nI_clamp hv, if_neg (nI_inc (by omega) hv), if_neg (nI_inc (by omega) hv)]
    obtain ⟨M1, e1, k1⟩ := tf_State_copyFrom (X0 := 64) (X1 := 80 + 7 * v) (M := M) st64 (stP (by omega))
    rw [e1, bI_s, nmM_e, nmM_e, bI2_s, if_pos (Or.inr rfl)]
    exact ⟨_, _, rfl, h.kSt (((k1.mono (CX_CSt st64)).wM rfl rfl).wM rfl rfl)⟩
  by_cases h0 : M 78 1 ≤ 0
  · rw [if_pos h0]; exact key 39 (by decide)
  · rw [if_neg h0]
    refine key _ ?_
    rw [i_le, Int32.toInt_zero] at h0
    rw [i_lt, Int32.toInt_zero, i_subE (x := M 78 1) (y := 1) (a := (M 78 1).toInt) (b := 1) rfl (by decide) (by have := i_b (M 78 1); omega)]
    omega
theorem gm_undo (h : G0 ld M L) : ∃ r M1, F_Mod_undo M = some (r, M1) ∧ G0 ld M1 L := by
  obtain ⟨u, hu, hM⟩ := h.u57
  by_cases h0 : u = 0
  · unfold F_Mod_undo
    rw [hM, h0, if_pos (show nI 0 = 0 from rfl)]
    exact ⟨_, _, rfl, h⟩
  · obtain ⟨v, rfl⟩ : ∃ v, u = v + 1 := ⟨u - 1, by omega⟩
    obtain ⟨M', e1, e2, e3, e4⟩ := s_undo (u := v) (by omega) hM
    refine ⟨_, _, e1, h.keep (fun c j q => e4 c j (by have := (gl_num q).2; omega)) ?_⟩
    rw [e2, nI_toInt (by omega)]
    omega
theorem sl_or {q s : Nat} (hq : q < 8) (hs : s < 3) : (nI q ||| (1 <<< (nI s &&& 31))) = nI (q ||| 2 ^ s) ∧ (q ||| 2 ^ s) < 8 ∧ ∀ t, t < 3 → (q ||| 2 ^ s).testBit t = (t == s || q.testBit t) :=
  (by decide +kernel : ∀ q, q < 8 → ∀ s, s < 3 → (nI q ||| (1 <<< (nI s &&& 31))) = nI (q ||| 2 ^ s) ∧ (q ||| 2 ^ s) < 8 ∧ ∀ t, t < 3 → (q ||| 2 ^ s).testBit t = (t == s || q.testBit t)) q hq s hs
theorem sl_bit {q s : Nat} (hq : q < 8) (hs : s < 3) : F_Main_hasBit (nI q) (nI s) = some (if q.testBit s then 1 else 0) :=
  (by decide +kernel : ∀ q, q < 8 → ∀ s, s < 3 → F_Main_hasBit (nI q) (nI s) = some (if q.testBit s then 1 else 0)) q hq s hs
/-- hold: of three slots -/
theorem g_hold (h : G0 ld M L) (a : Int32) : ∃ r M1 r' M2, F_Main_hold a M = some (r, M1) ∧ F_Mod_hold a M1 = some (r', M2) ∧ G0 ld M2 L ∧ r = r' := by
  by_cases hs : ∃ s, s < 3 ∧ a = nI s
  · obtain ⟨s, hs, rfl⟩ := hs
    obtain ⟨hT, hld, hWc, hWm, hI, hD, h11, hTd, ⟨q, hq, hq1, hq2⟩⟩ := id h
    obtain ⟨M1, e1, k1⟩ := tf_State_copyFrom (X0 := 362 + 7 * s) (X1 := 64) (M := M) (stS hs) st64
    have k2 := k1.mono (CX_CSt (stS hs))
    have e360 : M1 360 1 = nI q := (k2.m (show CSt 360 1 = false from rfl)).trans hq1
    obtain ⟨o1, o2, o3⟩ := sl_or hq hs
    have c1 : F_Main_hold (nI s) M = some (1, uM M1 360 1 (nI (q ||| 2 ^ s))) := by
      unfold F_Main_hold F_Slots_keep
      rw [if_neg (nI_pos (by omega)), if_neg (by rw [show (3 : Int32) = nI 3 from rfl, nI_leI (by omega) (by omega)]; omega), nI_clamp (by omega), if_neg (nI_inc (by omega) (by omega)), if_neg (nI_inc (by omega) (by omega)), e1, bI_s, e360, o1, nmM_e, bI2_s, if_pos (Or.inr rfl)]
    obtain ⟨M2, f1, f2, f3, f4⟩ := s_hold (M := uM M1 360 1 (nI (q ||| 2 ^ s))) hs
    refine ⟨_, _, _, _, c1, f1, ?_, rfl⟩
    have ha := h.kSt k2
    obtain ⟨ba, na, ta1, ta2⟩ := ha.1
    obtain ⟨hld, hWc, hWm, hI, ⟨lv, hlv, h18, hD⟩, h11, hTd, hSl⟩ := ha.2
    have fr : ∀ c j, ¬ (c = 446 ∨ c = 445 ∨ (c = 360 ∧ j = 1)) → M2 c j = M1 c j := fun c j w => by rw [f4 c j (by omega), uM_diff (by omega)]
    refine ⟨⟨ba, na, ta1.keep (fr 1 1 (by omega)) (fun j => fr 2 j (by omega)), ta2.keep (fr 401 2 (by omega)) (fun j => fr 402 j (by omega))⟩, hld, hWc, hWm, hI.keep2 (fr 401 18 (by omega)) (fr 401 64 (by omega)) (fun c j x y => fr c j (by omega)) (fun i => fr 441 i (by omega)) (by rw [fr 401 57 (by omega)]; exact hI.undos), ⟨lv, hlv, (fr 401 18 (by omega)).trans h18, ?_⟩, by rw [fr 0 11 (by omega), fr 401 17 (by omega)]; exact h11, hTd.keep2 (fr 383 3 (by omega)) (fr 401 64 (by omega)) (fun c j x => fr c j (by omega)), ⟨q ||| 2 ^ s, o2, by rw [f4 360 1 (by omega), uM_same], fun t ht => ?_⟩⟩
    · have hl2 := La_cases hld
      exact hD.keepR (fun c j x y => fr c j (by omega)) (fun w hw j => ⟨fr _ j (by omega), fr _ j (by omega)⟩) (fun c j x => fr c j (by have := sideC_r x; omega))
    · rw [o3 t ht]
      by_cases hts : t = s
      · rw [hts, f2, if_pos (by simp)]
      · rw [f4 445 t (by omega), uM_diff (by omega), k2.m (show CSt 445 t = false from rfl), hq2 t ht]
        have e : (t == s) = false := by simpa using hts
        rw [e, Bool.false_or]
  · have c1 : F_Main_hold a M = some (0, M) := by
      unfold F_Main_hold F_Slots_keep
      by_cases h0 : a < 0
      · rw [if_pos h0, bI2_s, if_pos (Or.inl rfl)]
      · rw [if_neg h0, if_pos, bI2_s, if_pos (Or.inl rfl)]
        obtain ⟨k, hk, rfl⟩ := nI_of h0
        rw [show (3 : Int32) = nI 3 from rfl, nI_leI (by omega) hk]
        refine Nat.le_of_not_lt (fun w => hs ⟨k, w, rfl⟩)
    have c2 : F_Mod_hold a M = some (0, M) := by
      unfold F_Mod_hold
      rcases in_cases a (a := 0) (b := 2) (by decide) (by decide) with ⟨w, _⟩ | ⟨k, _, w, e, _⟩
      · rw [show F_Mod_in a 0 2 = F_Mod_in a (nI 0) (nI 2) from rfl, w, bI_s, if_pos rfl]
      · exact absurd ⟨k, by omega, e⟩ hs
    exact ⟨_, _, _, _, c1, c2, h, rfl⟩
theorem g_restore (h : G0 ld M L) (a : Int32) : ∃ r M1 r' M2, F_Main_restore a M = some (r, M1) ∧ F_Mod_restore a M1 = some (r', M2) ∧ G0 ld M2 L ∧ r = r' := by
  by_cases hs : ∃ s, s < 3 ∧ a = nI s
  · obtain ⟨s, hs, rfl⟩ := hs
    obtain ⟨hT, hld, hWc, hWm, hI, hD, h11, hTd, ⟨q, hq, hq1, hq2⟩⟩ := id h
    by_cases hb : q.testBit s = true
    · obtain ⟨M1, e1, k1⟩ := tf_State_copyFrom (X0 := 64) (X1 := 362 + 7 * s) (M := M) st64 (stS hs)
      have k2 := ((k1.mono (CX_CSt st64)).wM (M2 := uM M1 78 1 0) (show CSt 78 1 = true from rfl) rfl).wM (M2 := uM (uM M1 78 1 0) 78 2 0) (show CSt 78 2 = true from rfl) rfl
      have c1 : F_Main_restore (nI s) M = some (1, uM (uM M1 78 1 0) 78 2 0) := by
        unfold F_Main_restore F_Slots_bring F_Past_clear
        rw [if_neg (nI_pos (by omega)), if_neg (by rw [show (3 : Int32) = nI 3 from rfl, nI_leI (by omega) (by omega)]; omega), nI_clamp (by omega), if_neg (nI_inc (by omega) (by omega)), hq1, sl_bit hq hs, bI_s, if_pos hb, if_neg (show ¬ (1 : Int32) = 0 by decide), if_neg (nI_inc (by omega) (by omega)), e1, bI_s, bI2_s, if_neg (show ¬ (1 : Int32) = 0 by decide), nmM_e, nmM_e, bI_s]
      have ha := h.kSt k2
      obtain ⟨M2, f1, f2, f3, f4⟩ := s_restore (M := uM (uM M1 78 1 0) 78 2 0) hs (by rw [k2.m (show CSt 445 s = false from rfl), hq2 s hs, if_pos hb]; decide)
      exact ⟨_, _, _, _, c1, f1, ha.keep (fun c j w => f4 c j (by have := (gl_num w).2; omega)) (by rw [f2]; decide), rfl⟩
    · have hb' : ¬ (q.testBit s = true) := hb
      have c1 : F_Main_restore (nI s) M = some (0, M) := by
        unfold F_Main_restore F_Slots_bring
        rw [if_neg (nI_pos (by omega)), if_neg (by rw [show (3 : Int32) = nI 3 from rfl, nI_leI (by omega) (by omega)]; omega), if_neg (by rw [nI_clamp (by omega)]; exact nI_inc (by omega) (by omega)), hq1, sl_bit hq hs, bI_s, if_neg hb', if_pos rfl, bI2_s, if_pos rfl]
      exact ⟨_, _, _, _, c1, s_restore0 hs (by rw [hq2 s hs, if_neg hb']), h, rfl⟩
  · have c1 : F_Main_restore a M = some (0, M) := by
      unfold F_Main_restore F_Slots_bring
      by_cases h0 : a < 0
      · rw [if_pos h0, bI2_s, if_pos rfl]
      · rw [if_neg h0, if_pos, bI2_s, if_pos rfl]
        obtain ⟨k, hk, rfl⟩ := nI_of h0
        rw [show (3 : Int32) = nI 3 from rfl, nI_leI (by omega) hk]
        refine Nat.le_of_not_lt (fun w => hs ⟨k, w, rfl⟩)
    have c2 : F_Mod_restore a M = some (0, M) := by
      unfold F_Mod_restore
      rcases in_cases a (a := 0) (b := 2) (by decide) (by decide) with ⟨w, _⟩ | ⟨k, _, w, e, _⟩
      · rw [show F_Mod_in a 0 2 = F_Mod_in a (nI 0) (nI 2) from rfl, w, bI_s, if_pos rfl]
      · exact absurd ⟨k, by omega, e⟩ hs
    exact ⟨_, _, _, _, c1, c2, h, rfl⟩
theorem g_place (h : G0 ld M L) : ∃ r r', F_Main_place M = some r ∧ F_Mod_place M = some r' ∧ G0 ld M L ∧ r = r' := ⟨_, _, rfl, rfl, h, h.2.2.2.2.2.2.1⟩
theorem g_feed (h : G0 ld M L) (a b c d e : Int32) : ∃ r M1 r' M2, F_Main_feed a b c d e M = some (r, M1) ∧ F_Mod_feed a b c d e M1 = some (r', M2) ∧ G0 ld M2 L ∧ r = r' ∧ ∀ x j, sV x j → M2 x j = M x j := by
  obtain ⟨⟨q, t, hT, hQ⟩, hr⟩ := id h
  by_cases ht : t + 20 ≤ 2000
  · have c1 := s_Main_feed (a := a) (b := b) (c := c) (d := d) (e := e) hT.1 ht
    have tf : ∀ x j, x ≠ 1 → x ≠ 2 → tw4 e (t + 16) (tw4 d (t + 12) (tw4 c (t + 8) (tw4 b (t + 4) (tw4 a t M)))) x j = M x j := fun x j u v => by
      rw [tw4_o (by omega) (by omega), tw4_o (by omega) (by omega), tw4_o (by omega) (by omega), tw4_o (by omega) (by omega), tw4_o (by omega) (by omega)]
    have hT2 := ((((hT.w a (by omega)).w b (by omega)).w c (by omega)).w d (by omega)).w e (by omega)
    have hQ1 : Tq q t (tw4 e (t + 16) (tw4 d (t + 12) (tw4 c (t + 8) (tw4 b (t + 4) (tw4 a t M))))) := hQ.keep (tf 401 2 (by decide) (by decide)) (fun j => tf 402 j (by decide) (by decide))
    have c2 := s_Mod_feed (a := a) (b := b) (c := c) (d := d) (e := e) hQ1.1 ht
    have hQ2 := ((((hQ1.w a).w b).w c).w d).w e
    have mf : ∀ (M0 : gM) x j, x ≠ 402 → ¬ (x = 401 ∧ j = 2) → mp4 e (t + 16) (mp4 d (t + 12) (mp4 c (t + 8) (mp4 b (t + 4) (mp4 a t M0)))) x j = M0 x j := fun M0 x j u v => by
      rw [mp4_o (by omega) (by omega), mp4_o (by omega) (by omega), mp4_o (by omega) (by omega), mp4_o (by omega) (by omega), mp4_o (by omega) (by omega)]
    refine ⟨_, _, _, _, c1, c2, ⟨⟨_, _, hT2.keep (mf _ 1 1 (by decide) (by decide)) (fun j => mf _ 2 j (by decide) (by omega)), hQ2⟩, hr.keep (fun x j w => ?_) ?_⟩, rfl, fun x j w => by
      have := sV_n w
      rw [mf _ x j (by omega) (by omega), tf x j (by omega) (by omega)]⟩
    · have hw := (gl_num (c := x) (j := j) (by rw [w]; rfl)).2
      have hx : x ≠ 1 ∧ x ≠ 2 ∧ x ≠ 402 ∧ ¬ (x = 401 ∧ j = 2) := by
        refine ⟨?_, ?_, ?_, ?_⟩
        · rintro rfl; exact absurd w (by simp [gl])
        · rintro rfl; exact absurd w (by simp [gl])
        · rintro rfl; exact absurd w (by simp [gl])
        · rintro ⟨rfl, rfl⟩; exact absurd w (by decide)
      rw [mf _ x j hx.2.2.1 hx.2.2.2, tf x j hx.1 hx.2.1]
    · rw [mf _ 401 57 (by decide) (by decide), tf 401 57 (by decide) (by decide)]; exact h.inv.undos
  · exact ⟨_, _, _, _, s_Main_feed' hT.1 hT.2.1 ht, s_Mod_feed' hQ.1 hT.2.1 ht, h, rfl, fun _ _ _ => rfl⟩
theorem g_back (h : G0 ld M L) (a : Int32) : ∃ r M1 r' M2, F_Main_back a M = some (r, M1) ∧ F_Mod_back a M1 = some (r', M2) ∧ G0 ld M2 L ∧ r = r' ∧ ∀ x j, sV x j → M2 x j = M x j := by
  obtain ⟨⟨q, t, hT, hQ⟩, hr⟩ := id h
  have ht := hT.2.1
  unfold F_Main_back F_Mod_back
  rw [hT.1]
  by_cases h0 : a < 0
  · rw [if_pos h0]
    refine ⟨_, _, _, _, rfl, ?_, h, rfl, fun _ _ _ => rfl⟩
    rw [if_pos h0]
  rw [if_neg h0]
  obtain ⟨k, hk, rfl⟩ := nI_of h0
  by_cases h1 : k ≤ t
  · rw [if_pos (by rw [nI_leI (by omega) (by omega)]; exact h1), nI_sub h1, nmM_e]
    have e2 : uM M 1 1 (nI (t - k)) 401 2 = nI t := (uM_diff (by omega)).trans hQ.1
    refine ⟨_, _, nI (t - k), uM (uM M 1 1 (nI (t - k))) 401 2 (nI (t - k)), rfl, ?_, ⟨⟨q, t - k, ⟨?_, by omega, fun j hj => ?_⟩, ⟨uM_same, fun j hj => ?_⟩⟩, hr.keep (fun x j w => ?_) ?_⟩, uM_same, fun x j w => by
      have := sV_n w
      rw [uM_diff (by omega), uM_diff (by omega)]⟩
    · rw [if_neg h0, e2, if_pos (by rw [nI_leI (by omega) (by omega)]; exact h1), nI_sub h1, nmM_e, uM_same]
    · rw [uM_diff (by omega), uM_same]
    · rw [uM_diff (by omega), uM_diff (by omega)]; exact hT.2.2 j (by omega)
    · rw [uM_diff (by omega), uM_diff (by omega)]; exact hQ.2 j (by omega)
    · have hx : ¬ (x = 1 ∧ j = 1) ∧ ¬ (x = 401 ∧ j = 2) := by
        refine ⟨?_, ?_⟩
        · rintro ⟨rfl, rfl⟩; exact absurd w (by decide)
        · rintro ⟨rfl, rfl⟩; exact absurd w (by decide)
      rw [uM_diff hx.2, uM_diff hx.1]
    · rw [uM_diff (by omega), uM_diff (by omega)]; exact h.inv.undos
  · have e : ¬ nI k ≤ nI t := by rw [nI_leI (by omega) (by omega)]; exact h1
    rw [if_neg e]
    refine ⟨_, _, _, _, rfl, ?_, h, rfl, fun _ _ _ => rfl⟩
    rw [if_neg h0, hQ.1, if_neg e]
theorem Gr.told (hr : Gr ld M L) {M' : gM} (e : ∀ c j, gl c j = true → ¬ (c = 383 ∨ (384 ≤ c ∧ c ≤ 386) ∨ (c = 401 ∧ j = 64) ∨ (441 ≤ c ∧ c ≤ 443)) → M' c j = M c j) (h57 : M' 401 57 = M 401 57) (hT : Td M') : Gr ld M' L := by
  obtain ⟨h1, h2, h3, h4, ⟨lv, h5, h6, h7⟩, h8, h9, h10⟩ := hr
  have h18 : M' 401 18 = nI lv := (e 401 18 rfl (by omega)).trans h6
  have hD : Dl ld lv M' := h7.keepR (fun c j a b => e c j (gl_Lc h1 a b) (by have := La_cases h1; omega)) (fun w hw j => ⟨e _ _ (gl_Lw h1 hw).1 (by have := La_cases h1; omega), e _ _ (gl_Lw h1 hw).2 (by have := La_cases h1; omega)⟩) (fun c j q => e c j (gl_M (sideC_r q).1 (sideC_r q).2) (by have := sideC_r q; omega))
  have hC : Cb M' := by
    have e2 : ∀ c j, 411 ≤ c → c ≤ 432 → M' c j = M c j := fun c j a b => e c j (gl_M a b) (by omega)
    have hc := h4.cb
    exact ⟨fun i => by rw [e2 411 i (by omega) (by omega)]; exact hc.1 i, fun i => by rw [e2 415 i (by omega) (by omega)]; exact hc.2.1 i, fun i => by rw [e2 418 i (by omega) (by omega)]; exact hc.2.2.1 i, fun i => by rw [e2 420 i (by omega) (by omega)]; exact hc.2.2.2 i⟩
  exact ⟨h1, h2, h3, Inv_of h5 h18 hD hC (by rw [h57]; exact h4.undos) hT, ⟨lv, h5, h18, hD⟩, by rw [e 0 11 rfl (by omega), e 401 17 rfl (by omega)]; exact h8, hT, h10.keep2 (e 360 1 rfl (by omega)) (fun j => e 445 j rfl (by omega))⟩
theorem g_forget (h : G0 ld M L) : ∃ r M1 r' M2, F_Main_forget M = some (r, M1) ∧ F_Mod_forget M1 = some (r', M2) ∧ G0 ld M2 L ∧ r = r' ∧ ∀ x j, sV x j → M2 x j = M x j := by
  obtain ⟨⟨q, t, hT, hQ⟩, hr⟩ := id h
  obtain ⟨k, h1, h2, h3, h4⟩ := hr.2.2.2.2.2.2.1
  unfold F_Main_forget F_Mod_forget F_Told_clear
  rw [h2, nmI_e, nmM_e, bI_s]
  refine ⟨_, _, _, _, rfl, rfl, ⟨⟨q, t, hT.keep ?_ (fun j => ?_), hQ.keep ?_ (fun j => ?_)⟩, hr.told (fun c j _ w => ?_) ?_ ⟨0, by omega, ?_, uM_same, fun i hi => absurd hi (Nat.not_lt_zero _)⟩⟩, ?_, fun x j w => by
    have := sV_n w
    rw [uM_diff (by omega), uM_diff (by omega)]⟩
  · rw [uM_diff (by omega), uM_diff (by omega)]
  · rw [uM_diff (by omega), uM_diff (by omega)]
  · rw [uM_diff (by omega), uM_diff (by omega)]
  · rw [uM_diff (by omega), uM_diff (by omega)]
  · rw [uM_diff (by omega), uM_diff (by omega)]
  · rw [uM_diff (by omega), uM_diff (by omega)]
  · rw [uM_diff (by omega), uM_same]; rfl
  · rw [uM_diff (by omega), h3]
theorem one_in0 (p : Int32) {n : Nat} (hn : n < 2 ^ 29) : (F_Main_isOne p (nI (n + 1)) = some 0 ∧ F_Mod_in p 0 (nI n) = some 0) ∨ ∃ k, k ≤ n ∧ p = nI k ∧ F_Main_isOne p (nI (n + 1)) = some 1 ∧ F_Mod_in p 0 (nI n) = some 1 := by
  have e : nI (n + 1) - 1 = nI n := by rw [show (1 : Int32) = nI 1 from rfl, nI_sub (by omega), Nat.add_sub_cancel]
  rcases one_c2 p (n := n + 1) (by omega) with h | ⟨k, h1, h2, h3, h4⟩
  · rw [e] at h; exact Or.inl h
  · rw [e] at h4; exact Or.inr ⟨k, by omega, h2, h3, h4⟩
theorem g_tell (h : G0 ld M L) (a b c : Int32) : ∃ r M1 r' M2, F_Main_tell a b c M = some (r, M1) ∧ F_Mod_tell a b c M1 = some (r', M2) ∧ G0 ld M2 L ∧ r = r' ∧ ∀ x j, sV x j → M2 x j = M x j := by
  obtain ⟨⟨q, t, hT, hQ⟩, hr⟩ := id h
  obtain ⟨k, h1, h2, h3, h4⟩ := hr.2.2.2.2.2.2.1
  have bad : F_Main_tell a b c M = some (-1, M) → F_Mod_tell a b c M = some (-1, M) → ∃ r M1 r' M2, F_Main_tell a b c M = some (r, M1) ∧ F_Mod_tell a b c M1 = some (r', M2) ∧ G0 ld M2 L ∧ r = r' ∧ ∀ x j, sV x j → M2 x j = M x j := fun x y => ⟨_, _, _, _, x, y, h, rfl, fun _ _ _ => rfl⟩
  have e3 : (3 : Int32) = nI (2 + 1) := rfl
  have e10 : (10 : Int32) = nI (9 + 1) := rfl
  have e100 : (100 : Int32) = nI (99 + 1) := rfl
  have m20 : k = 20 → F_Mod_tell a b c M = some (-1, M) := fun e => by
    unfold F_Mod_tell
    rw [h3, e, if_pos (show nI 20 = 20 from rfl)]
  have n20 : k ≠ 20 → ¬ nI k = 20 := fun e w => e ((nI_eq (by omega) (by decide)).mp (w.trans (show (20 : Int32) = nI 20 from rfl)))
  rcases one_in0 a (n := 2) (by decide) with ⟨a1, a2⟩ | ⟨x, a0, rfl, a1, a2⟩
  · refine bad ?_ ?_
    · unfold F_Main_tell
      rw [e3, a1, bI_s, if_pos rfl]
    · by_cases e : k = 20
      · exact m20 e
      · unfold F_Mod_tell
        rw [h3, if_neg (n20 e), show (2 : Int32) = nI 2 from rfl, a2, bI_s, if_pos rfl]
  rcases one_in0 b (n := 9) (by decide) with ⟨b1, b2⟩ | ⟨y, b0, rfl, b1, b2⟩
  · refine bad ?_ ?_
    · unfold F_Main_tell
      rw [e3, a1, bI_s, if_neg (by decide), e10, b1, bI_s, if_pos rfl]
    · by_cases e : k = 20
      · exact m20 e
      · unfold F_Mod_tell
        rw [h3, if_neg (n20 e), show (2 : Int32) = nI 2 from rfl, a2, bI_s, if_neg (by decide), show (9 : Int32) = nI 9 from rfl, b2, bI_s, if_pos rfl]
  rcases one_in0 c (n := 99) (by decide) with ⟨c1, c2⟩ | ⟨z, c0, rfl, c1, c2⟩
  · refine bad ?_ ?_
    · unfold F_Main_tell
      rw [e3, a1, bI_s, if_neg (by decide), e10, b1, bI_s, if_neg (by decide), e100, c1, bI_s, if_pos rfl]
    · by_cases e : k = 20
      · exact m20 e
      · unfold F_Mod_tell
        rw [h3, if_neg (n20 e), show (2 : Int32) = nI 2 from rfl, a2, bI_s, if_neg (by decide), show (9 : Int32) = nI 9 from rfl, b2, bI_s, if_neg (by decide), show (99 : Int32) = nI 99 from rfl, c2, bI_s, if_pos rfl]
  by_cases e : k = 20
  · refine bad ?_ (m20 e)
    unfold F_Main_tell F_Told_add
    rw [e3, a1, bI_s, if_neg (by decide), e10, b1, bI_s, if_neg (by decide), e100, c1, bI_s, if_neg (by decide), h2, if_neg (by rw [e]; decide), bI2_s]
  have hk : k < 20 := by omega
  have k1 : F_Main_tell (nI x) (nI y) (nI z) M = some (nI k, uM (uM (uM (uM M 384 k (nI x)) 385 k (nI y)) 386 k (nI z)) 383 3 (nI (k + 1))) := by
    unfold F_Main_tell F_Told_add
    rw [e3, a1, bI_s, if_neg (by decide), e10, b1, bI_s, if_neg (by decide), e100, c1, bI_s, if_neg (by decide), h2, if_pos (by rw [show (20 : Int32) = nI 20 from rfl, nI_ltI (by omega) (by omega)]; exact hk), s_put hk (by decide), bI_s, uM_diff (by omega), h2, s_put hk (by decide), bI_s, uM_diff (by omega), uM_diff (by omega), h2, s_put hk (by decide), bI_s, uM_diff (by omega), uM_diff (by omega), uM_diff (by omega), h2, nI_1, nmM_e, uM_same, show (1 : Int32) = nI 1 from rfl, nI_sub (by omega), Nat.add_sub_cancel, bI2_s]
  have fr : ∀ c j, ¬ (c = 383 ∨ (384 ≤ c ∧ c ≤ 386)) → uM (uM (uM (uM M 384 k (nI x)) 385 k (nI y)) 386 k (nI z)) 383 3 (nI (k + 1)) c j = M c j := fun c j w => by
    rw [uM_diff (by omega), uM_diff (by omega), uM_diff (by omega), uM_diff (by omega)]
  have q3 := (fr 401 64 (by omega)).trans h3
  generalize hM1 : uM (uM (uM (uM M 384 k (nI x)) 385 k (nI y)) 386 k (nI z)) 383 3 (nI (k + 1)) = M1 at k1 fr q3
  have k2 : F_Mod_tell (nI x) (nI y) (nI z) M1 = some (nI k, uM (uM (uM (uM M1 441 k (nI x)) 442 k (nI y)) 443 k (nI z)) 401 64 (nI (k + 1))) := by
    unfold F_Mod_tell
    rw [q3, if_neg (n20 e), show (2 : Int32) = nI 2 from rfl, a2, bI_s, if_neg (by decide), show (9 : Int32) = nI 9 from rfl, b2, bI_s, if_neg (by decide), show (99 : Int32) = nI 99 from rfl, c2, bI_s, if_neg (by decide), nI_clamp (by omega), if_neg (nI_inc hk (by omega)), nmM_e, uM_diff (by omega), q3, nI_clamp (by omega), if_neg (nI_inc hk (by omega)), nmM_e, uM_diff (by omega), uM_diff (by omega), q3, nI_clamp (by omega), if_neg (nI_inc hk (by omega)), nmM_e, uM_diff (by omega), uM_diff (by omega), uM_diff (by omega), q3, nI_1, nmM_e, uM_same, show (1 : Int32) = nI 1 from rfl, nI_sub (by omega), Nat.add_sub_cancel]
  have fr2 : ∀ c j, ¬ ((441 ≤ c ∧ c ≤ 443) ∨ (c = 401 ∧ j = 64)) → uM (uM (uM (uM M1 441 k (nI x)) 442 k (nI y)) 443 k (nI z)) 401 64 (nI (k + 1)) c j = M1 c j := fun c j w => by
    rw [uM_diff (by omega), uM_diff (by omega), uM_diff (by omega), uM_diff (by omega)]
  refine ⟨_, _, _, _, k1, k2, ⟨⟨q, t, hT.keep ((fr2 _ _ (by omega)).trans (fr _ _ (by omega))) (fun j => (fr2 _ _ (by omega)).trans (fr _ _ (by omega))), hQ.keep ((fr2 _ _ (by omega)).trans (fr _ _ (by omega))) (fun j => (fr2 _ _ (by omega)).trans (fr _ _ (by omega)))⟩, hr.told (fun c j _ w => (fr2 _ _ (by omega)).trans (fr _ _ (by omega))) ((fr2 _ _ (by omega)).trans (fr _ _ (by omega))) ⟨k + 1, by omega, ?_, uM_same, fun i hi => ?_⟩⟩, rfl, fun x j w => by
    have := sV_n w
    exact (fr2 _ _ (by omega)).trans (fr _ _ (by omega))⟩
  · rw [fr2 383 3 (by omega), ← hM1, uM_same]
  · by_cases hik : i = k
    · refine ⟨x, y, z, a0, b0, c0, ?_, ?_, ?_, ?_, ?_, ?_⟩
      · rw [hik, fr2 384 k (by omega), ← hM1, uM_diff (by omega), uM_diff (by omega), uM_diff (by omega), uM_same]
      · rw [hik, uM_diff (by omega), uM_diff (by omega), uM_diff (by omega), uM_same]
      · rw [hik, fr2 385 k (by omega), ← hM1, uM_diff (by omega), uM_diff (by omega), uM_same]
      · rw [hik, uM_diff (by omega), uM_diff (by omega), uM_same]
      · rw [hik, fr2 386 k (by omega), ← hM1, uM_diff (by omega), uM_same]
      · rw [hik, uM_diff (by omega), uM_same]
    · obtain ⟨f, g, w, y1, y2, y3, y4, y5, y6, y7, y8, y9⟩ := h4 i (by omega)
      have z1 : ∀ c, (384 ≤ c ∧ c ≤ 386) → M1 c i = M c i := fun c hc => by
        rw [← hM1, uM_diff (by omega), uM_diff (by omega), uM_diff (by omega), uM_diff (by omega)]
      have z2 : ∀ c, (441 ≤ c ∧ c ≤ 443) → uM (uM (uM (uM M1 441 k (nI x)) 442 k (nI y)) 443 k (nI z)) 401 64 (nI (k + 1)) c i = M1 c i := fun c hc => by
        rw [uM_diff (by omega), uM_diff (by omega), uM_diff (by omega), uM_diff (by omega)]
      exact ⟨f, g, w, y1, y2, y3, by rw [fr2 384 i (by omega), z1 384 (by omega)]; exact y4, by rw [z2 441 (by omega), fr 441 i (by omega)]; exact y5, by rw [fr2 385 i (by omega), z1 385 (by omega)]; exact y6, by rw [z2 442 (by omega), fr 442 i (by omega)]; exact y7, by rw [fr2 386 i (by omega), z1 386 (by omega)]; exact y8, by rw [z2 443 (by omega), fr 443 i (by omega)]; exact y9⟩
theorem g_amount (h : G0 ld M L) (a b : Int32) : ∃ r r', F_Main_amount ld a b M = some r ∧ F_Mod_amount a b M = some r' ∧ G0 ld M L ∧ r = r' := by
  obtain ⟨hT, hld, hWc, hWm, hI, ⟨lv, hlv, h18, ⟨nf, nd, ng, ne, cc, ii, ⟨⟨f1, f2, f3⟩, ⟨s1, s2, s3⟩, _⟩, ⟨_, d2, _⟩, _⟩⟩, _⟩ := id h
  unfold F_Main_amount F_Mod_amount F_Mod_isDish F_Mod_isFood F_Land_inDish
  rw [h18, nI_clamp (by omega), if_neg (nI_inc (by omega) (by omega)), if_neg (nI_inc (by omega) (by omega)), s1, s2, f1, f2]
  rcases one_c2 a (n := nd) (by omega) with ⟨a1, a2⟩ | ⟨x, a0, rfl, a1, a2⟩
  · rw [a1, a2, bI_s, if_pos rfl, bI_s, if_pos (Or.inl rfl), bI_s, if_pos rfl]
    exact ⟨_, _, rfl, rfl, h, rfl⟩
  rw [a1, a2, bI_s, if_neg (show ¬ (1 : Int32) = 0 by decide), bI_s, if_pos (Or.inr rfl), bI_s, if_neg (show ¬ (1 : Int32) = 0 by decide)]
  rcases one_c2 b (n := nf) (by omega) with ⟨b1, b2⟩ | ⟨y, b0, rfl, b1, b2⟩
  · rw [b1, b2, bI_s, if_pos rfl, bI_s, if_pos (Or.inl rfl), bI_s, if_pos rfl]
    exact ⟨_, _, rfl, rfl, h, rfl⟩
  rw [b1, b2, bI_s, if_neg (show ¬ (1 : Int32) = 0 by decide), bI_s, if_pos (Or.inr rfl), bI_s, if_neg (show ¬ (1 : Int32) = 0 by decide), show (6 : Int32) = nI 6 from rfl, show (5 : Int32) = nI 5 from rfl, nI_mul, nI_add, nI_mul, nI_add, nI_mul, nI_add, s_at (by omega) (by decide), bI_s, bI_s, if_neg (nI_in (by omega) (by omega)), nI_clamp (by omega)]
  refine ⟨_, _, rfl, rfl, h, ?_⟩
  obtain ⟨_, A, w2, _⟩ := d2.1 x a0
  rw [Nat.mul_comm x 6, (w2 y (by omega)).1, (w2 y (by omega)).2.1]
end GG

theorem g_food {ld : Nat} {M : gM} {L : gL} (h : G0 ld M L) (a b : Int32) : ∃ r r', F_Main_food ld a b M = some r ∧ F_Mod_food a b M = some r' ∧ G0 ld M L := by
  obtain ⟨r, e1, -⟩ := tf_Main_food (p1 := a) (p2 := b) (M := M) h.la
  obtain ⟨r', e2, -⟩ := tf_Mod_food (p0 := a) (p1 := b) h.inv
  exact ⟨r, r', e1, e2, h⟩
theorem g_count {ld : Nat} {M : gM} {L : gL} (h : G0 ld M L) (a : Int32) : ∃ r r', F_Main_count ld a M = some r ∧ F_Mod_count a M = some r' ∧ G0 ld M L := by
  obtain ⟨r, e1, -⟩ := tf_Main_count (p1 := a) (M := M) h.la
  obtain ⟨r', e2, -⟩ := tf_Mod_count (p0 := a) h.inv
  exact ⟨r, r', e1, e2, h⟩
theorem g_dish {ld : Nat} {M : gM} {L : gL} (h : G0 ld M L) (a b : Int32) : ∃ r M1 r' M2, F_Main_dish ld a b M = some (r, M1) ∧ F_Mod_dish a b M1 = some (r', M2) ∧ G0 ld M2 L := by
  obtain ⟨r, M1, e1, -, k1⟩ := tf_Main_dish (p1 := a) (p2 := b) (M := M) h.la
  have h1 := h.kC0 k1
  obtain ⟨r', M2, e2, -, k2⟩ := tf_Mod_dish (p0 := a) (p1 := b) h1.inv
  exact ⟨r, M1, r', M2, e1, e2, h1.kM1 k2⟩
theorem g_guest {ld : Nat} {M : gM} {L : gL} (h : G0 ld M L) (a b : Int32) : ∃ r M1 r' M2, F_Main_guest ld a b M = some (r, M1) ∧ F_Mod_guest a b M1 = some (r', M2) ∧ G0 ld M2 L := by
  obtain ⟨r, M1, e1, -, k1⟩ := tf_Main_guest (p1 := a) (p2 := b) (M := M) h.la
  have h1 := h.kC0 k1
  obtain ⟨r', M2, e2, -, k2⟩ := tf_Mod_guest (p0 := a) (p1 := b) h1.inv
  exact ⟨r, M1, r', M2, e1, e2, h1.kM1 k2⟩
theorem g_deed {ld : Nat} {M : gM} {L : gL} (h : G0 ld M L) (a b : Int32) : ∃ r M1 r' M2, F_Main_deed ld a b M = some (r, M1) ∧ F_Mod_deed a b M1 = some (r', M2) ∧ G0 ld M2 L := by
  obtain ⟨r, M1, e1, -, k1⟩ := tf_Main_deed (p1 := a) (p2 := b) (M := M) h.la
  have h1 := h.kC0 k1
  obtain ⟨r', M2, e2, -, k2⟩ := tf_Mod_deed (p0 := a) (p1 := b) h1.inv
  exact ⟨r, M1, r', M2, e1, e2, h1.kM1 k2⟩
theorem g_pot {ld : Nat} {M : gM} {L : gL} (h : G0 ld M L) (a b c d : Int32) : ∃ r M1 r' M2, F_Main_pot ld a b c d M = some (r, M1) ∧ F_Mod_pot a b c d M1 = some (r', M2) ∧ G0 ld M2 L := by
  obtain ⟨r, M1, e1, -, k1⟩ := tf_Main_pot (p1 := a) (p2 := b) (p3 := c) (p4 := d) (M := M) h.la
  have h1 := h.kC1 k1
  obtain ⟨r', M2, e2, -, k2⟩ := tf_Mod_pot (p0 := a) (p1 := b) (p2 := c) (p3 := d) h1.inv
  exact ⟨r, M1, r', M2, e1, e2, h1.kM1 k2⟩
theorem g_pinch {ld : Nat} {M : gM} {L : gL} (h : G0 ld M L) (a b : Int32) : ∃ r M1 r' M2, F_Main_pinch ld a b M = some (r, M1) ∧ F_Mod_pinch a b M1 = some (r', M2) ∧ G0 ld M2 L := by
  obtain ⟨r, M1, e1, -, k1⟩ := tf_Main_pinch (p1 := a) (p2 := b) (M := M) h.la
  have h1 := h.kC0 k1
  obtain ⟨r', M2, e2, -, k2⟩ := tf_Mod_pinch (p0 := a) (p1 := b) h1.inv
  exact ⟨r, M1, r', M2, e1, e2, h1.kM1 k2⟩
theorem g_freest {ld : Nat} {M : gM} {L : gL} (h : G0 ld M L) (a b : Int32) : ∃ r M1 r' M2, F_Main_freest ld a b M = some (r, M1) ∧ F_Mod_freest a b M1 = some (r', M2) ∧ G0 ld M2 L := by
  obtain ⟨r, M1, e1, -, k1⟩ := tf_Main_freest (p1 := a) (p2 := b) (M := M) h.la
  have h1 := h.kC0 k1
  obtain ⟨r', M2, e2, -, k2⟩ := tf_Mod_freest (p0 := a) (p1 := b) h1.inv
  exact ⟨r, M1, r', M2, e1, e2, h1.kM1 k2⟩
theorem g_supper {ld : Nat} {M : gM} {L : gL} (h : G0 ld M L) : ∃ r M1 r' M2, F_Main_supper ld M = some (r, M1) ∧ F_Mod_supper M1 = some (r', M2) ∧ G0 ld M2 L := by
  obtain ⟨r, M1, e1, -, k1⟩ := tf_Main_supper (M := M) h.la
  have h1 := h.kC0 k1
  obtain ⟨r', M2, e2, -, k2⟩ := tf_Mod_supper h1.inv
  exact ⟨r, M1, r', M2, e1, e2, h1.kM1 k2⟩
theorem g_feud {ld : Nat} {M : gM} {L : gL} (h : G0 ld M L) (a b c : Int32) : ∃ r M1 r' M2, F_Main_feud ld a b c M = some (r, M1) ∧ F_Mod_feud a b c M1 = some (r', M2) ∧ G0 ld M2 L := by
  obtain ⟨r, M1, e1, -, k1⟩ := tf_Main_feud (p1 := a) (p2 := b) (p3 := c) (M := M) h.la
  have h1 := h.kC0 k1
  obtain ⟨r', M2, e2, -, k2⟩ := tf_Mod_feud (p0 := a) (p1 := b) (p2 := c) h1.inv
  exact ⟨r, M1, r', M2, e1, e2, h1.kM1 k2⟩
theorem g_menu {ld : Nat} {M : gM} {L : gL} (h : G0 ld M L) (a b c d : Int32) : ∃ r M1 r' M2, F_Main_menu ld a b c d M = some (r, M1) ∧ F_Mod_menu a b c d M1 = some (r', M2) ∧ G0 ld M2 L := by
  obtain ⟨r, M1, e1, -, k1⟩ := tf_Main_menu (p1 := a) (p2 := b) (p3 := c) (p4 := d) (M := M) h.la
  have h1 := h.kC1 k1
  obtain ⟨r', M2, e2, -, k2⟩ := tf_Mod_menu (p0 := a) (p1 := b) (p2 := c) (p3 := d) h1.inv
  exact ⟨r, M1, r', M2, e1, e2, h1.kM1 k2⟩
theorem g_often {ld : Nat} {M : gM} {L : gL} (h : G0 ld M L) (a : Int32) : ∃ r M1 r' M2, F_Main_often ld a M = some (r, M1) ∧ F_Mod_often a M1 = some (r', M2) ∧ G0 ld M2 L := by
  obtain ⟨r, M1, e1, -, k1⟩ := tf_Main_often (p1 := a) (M := M) h.la
  have h1 := h.kC1 k1
  obtain ⟨r', M2, e2, -, k2⟩ := tf_Mod_often (p0 := a) h1.inv
  exact ⟨r, M1, r', M2, e1, e2, h1.kM1 k2⟩
theorem g_hunger {ld : Nat} {M : gM} {L : gL} (h : G0 ld M L) (a b : Int32) : ∃ r M1 r' M2, F_Main_hunger ld a b M = some (r, M1) ∧ F_Mod_hunger a b M1 = some (r', M2) ∧ G0 ld M2 L := by
  obtain ⟨r, M1, e1, -, k1⟩ := tf_Main_hunger (p1 := a) (p2 := b) (M := M) h.la
  have h1 := h.kC0 k1
  obtain ⟨r', M2, e2, -, k2⟩ := tf_Mod_hunger (p0 := a) (p1 := b) h1.inv
  exact ⟨r, M1, r', M2, e1, e2, h1.kM1 k2⟩
theorem g_stockIn {ld : Nat} {M : gM} {L : gL} (h : G0 ld M L) (a b : Int32) : ∃ r M1 r' M2, F_Main_stockIn ld a b M = some (r, M1) ∧ F_Mod_stockIn a b M1 = some (r', M2) ∧ G0 ld M2 L := by
  obtain ⟨r, M1, e1, -, k1⟩ := tf_Main_stockIn (p1 := a) (p2 := b) (M := M) h.la
  have h1 := h.kC1 k1
  obtain ⟨r', M2, e2, -, k2⟩ := tf_Mod_stockIn (p0 := a) (p1 := b) h1.inv
  exact ⟨r, M1, r', M2, e1, e2, h1.kM1 k2⟩
theorem g_boundIn {ld : Nat} {M : gM} {L : gL} (h : G0 ld M L) (a b c : Int32) : ∃ r M1 r' M2, F_Main_boundIn ld a b c M = some (r, M1) ∧ F_Mod_boundIn a b c M1 = some (r', M2) ∧ G0 ld M2 L := by
  obtain ⟨r, M1, e1, -, k1⟩ := tf_Main_boundIn (p1 := a) (p2 := b) (p3 := c) (M := M) h.la
  have h1 := h.kC0 k1
  obtain ⟨r', M2, e2, -, k2⟩ := tf_Mod_boundIn (p0 := a) (p1 := b) (p2 := c) h1.inv
  exact ⟨r, M1, r', M2, e1, e2, h1.kM1 k2⟩
theorem g_year {ld : Nat} {M : gM} {L : gL} (h : G0 ld M L) (a b c d : Int32) : ∃ r M1 r' M2, F_Main_year ld a b c d M = some (r, M1) ∧ F_Mod_year a b c d M1 = some (r', M2) ∧ G0 ld M2 L := by
  obtain ⟨r, M1, e1, -, k1⟩ := tf_Main_year (p1 := a) (p2 := b) (p3 := c) (p4 := d) (M := M) h.la
  have h1 := h.kC0 k1
  obtain ⟨r', M2, e2, -, k2⟩ := tf_Mod_year (p0 := a) (p1 := b) (p2 := c) (p3 := d) h1.inv
  exact ⟨r, M1, r', M2, e1, e2, h1.kM1 k2⟩
theorem g_blame {ld : Nat} {M : gM} {L : gL} (h : G0 ld M L) (a : Int32) : ∃ r M1 r' M2, F_Main_blame ld a M = some (r, M1) ∧ F_Mod_blame a M1 = some (r', M2) ∧ G0 ld M2 L := by
  obtain ⟨r, M1, e1, -, k1⟩ := tf_Main_blame (p1 := a) (M := M) h.la
  have h1 := h.kC1 k1
  obtain ⟨r', M2, e2, -, k2⟩ := tf_Mod_blame (p0 := a) h1.inv
  exact ⟨r, M1, r', M2, e1, e2, h1.kM1 k2⟩
theorem g_sure {ld : Nat} {M : gM} {L : gL} (h : G0 ld M L) (a : Int32) : ∃ r M1 r' M2, F_Main_sure ld a M = some (r, M1) ∧ F_Mod_sure a M1 = some (r', M2) ∧ G0 ld M2 L := by
  obtain ⟨r, M1, e1, -, k1⟩ := tf_Main_sure (p1 := a) (M := M) h.la
  have h1 := h.kC1 k1
  obtain ⟨r', M2, e2, -, k2⟩ := tf_Mod_sure (p0 := a) h1.inv
  exact ⟨r, M1, r', M2, e1, e2, h1.kM1 k2⟩
theorem g_taste {ld : Nat} {M : gM} {L : gL} (h : G0 ld M L) (a : Int32) : ∃ r M1 r' M2, F_Main_taste ld a M = some (r, M1) ∧ F_Mod_taste a M1 = some (r', M2) ∧ G0 ld M2 L := by
  obtain ⟨r, M1, e1, -, k1⟩ := tf_Main_taste (p1 := a) (M := M) h.la
  have h1 := h.kC1 k1
  obtain ⟨r', M2, e2, -, k2⟩ := tf_Mod_taste (p0 := a) h1.inv
  exact ⟨r, M1, r', M2, e1, e2, h1.kM1 k2⟩
theorem g_cook {ld : Nat} {M : gM} {L : gL} (h : G0 ld M L) (a : Int32) : ∃ r M1 r' M2, F_Main_cook ld a M = some (r, M1) ∧ F_Mod_cook a M1 = some (r', M2) ∧ G0 ld M2 L := by
  obtain ⟨r, M1, e1, h1⟩ := gc_cook h a
  obtain ⟨r', M2, e2, h2⟩ := gm_cook h1 a
  exact ⟨r, M1, r', M2, e1, e2, h2⟩
theorem g_eat {ld : Nat} {M : gM} {L : gL} (h : G0 ld M L) (a : Int32) : ∃ r M1 r' M2, F_Main_eat ld a M = some (r, M1) ∧ F_Mod_eat a M1 = some (r', M2) ∧ G0 ld M2 L := by
  obtain ⟨r, M1, e1, h1⟩ := gc_eat h a
  obtain ⟨r', M2, e2, h2⟩ := gm_eat h1 a
  exact ⟨r, M1, r', M2, e1, e2, h2⟩
theorem g_days {ld : Nat} {M : gM} {L : gL} (h : G0 ld M L) (a : Int32) : ∃ r M1 r' M2, F_Main_days ld a M = some (r, M1) ∧ F_Mod_days a M1 = some (r', M2) ∧ G0 ld M2 L := by
  obtain ⟨r, M1, e1, h1⟩ := gc_days h a
  obtain ⟨r', M2, e2, h2⟩ := gm_days h1 a
  exact ⟨r, M1, r', M2, e1, e2, h2⟩
theorem g_undo {ld : Nat} {M : gM} {L : gL} (h : G0 ld M L) : ∃ r M1 r' M2, F_Main_undo M = some (r, M1) ∧ F_Mod_undo M1 = some (r', M2) ∧ G0 ld M2 L := by
  obtain ⟨r, M1, e1, h1⟩ := gc_undo h
  obtain ⟨r', M2, e2, h2⟩ := gm_undo h1
  exact ⟨r, M1, r', M2, e1, e2, h2⟩
end PAR23
