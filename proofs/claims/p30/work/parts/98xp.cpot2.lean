/-! pot, by the class: the search -/
section PAR60
section CQ
variable {D Q q ld lv nf nd ng ne : Nat} {M M' M1 Mc Mb : gM} {L : gL} {r : Nat → Int32}
/-- the best so far, in the class's places; hs heats are tried -/
def CpS (M : gM) (lv nf hs : Nat) (o : Option (Nat × Nat)) (N : gM) : Prop := match o with
  | none => N 391 9 = 0
  | some (w, h) => N 391 9 = 1 ∧ N 391 6 = pPr M lv nf w ∧ N 391 7 = nI (sd7 6 w) ∧ N 391 8 = nI h ∧ h < hs ∧ ∀ f, f < 6 → N 395 f = nI (d7 w (5 - f))
theorem CpS.k {hs : Nat} {o : Option (Nat × Nat)} {N N' : gM} (h : CpS M lv nf hs o N) (e : ∀ c j, (c = 391 ∧ 6 ≤ j ∧ j ≤ 9) ∨ c = 395 → N' c j = N c j) : CpS M lv nf hs o N' := by
  match o, h with
  | none, h => exact (e 391 9 (by omega)).trans h
  | some (w, x), h => exact ⟨(e 391 9 (by omega)).trans h.1, (e 391 6 (by omega)).trans h.2.1, (e 391 7 (by omega)).trans h.2.2.1, (e 391 8 (by omega)).trans h.2.2.2.1, h.2.2.2.2.1, fun f hf => (e 395 f (by omega)).trans (h.2.2.2.2.2 f hf)⟩
def gT7 (c j : Nat) : Prop := C0 c j = true ∨ (c = 391 ∧ 6 ≤ j ∧ j ≤ 9) ∨ c = 395
theorem gT7_0 {M M' : gM} (k : Kl C0 M zL M' zL) : Eo gT7 M M' := fun x y z => k.m (by
  cases q : C0 x y with
  | false => rfl
  | true => exact absurd (Or.inl q) z)
theorem gT7_gP : ∀ c j, gT7 c j → gPp c j := fun c j h => by
  rcases h with h | h | h
  · exact Or.inl h
  · exact Or.inr (by omega)
  · exact Or.inr (by omega)
theorem gT7_n {x y : Nat} (h1 : 64 ≤ x) (h2 : x ≠ 390) (h3 : ¬ ((x = 391 ∧ 6 ≤ y ∧ y ≤ 9) ∨ x = 395)) : ¬ gT7 x y := fun h => by
  rcases h with h | h
  · rw [C0_M h1 h2] at h; cases h
  · exact h3 h
/-- a new best -/
theorem c_take7 {hs w h : Nat} (hh : h < hs) {N : gM} (e4 : N 391 4 = pPr M lv nf w) (e3 : N 391 3 = nI (sd7 6 w)) (hr : Row7 w N) : ∃ X, J_PotSearch_tryHeats_121 ld (nI h) N = some X ∧ CpS M lv nf hs (some (w, h)) X ∧ Eo gT7 N X := by
  unfold J_PotSearch_tryHeats_121
  rw [nmM_e, nmM_e, nmM_e, nmM_e, s_copyRow (by decide) (by decide), bI_s]
  refine ⟨_, rfl, ⟨?_, ?_, ?_, ?_, hh, fun f hf => ?_⟩, fun c j z => ?_⟩
  · rw [fl_out (by omega), uM_diff (by omega), uM_diff (by omega), uM_diff (by omega), uM_same]
  · rw [fl_out (by omega), uM_diff (by omega), uM_diff (by omega), uM_same, uM_diff (by omega)]; exact e4
  · rw [fl_out (by omega), uM_diff (by omega), uM_same, uM_diff (by omega), uM_diff (by omega)]; exact e3
  · rw [fl_out (by omega), uM_same]
  · rw [fl_in (by omega), Nat.sub_zero, uM_diff (by omega), uM_diff (by omega), uM_diff (by omega), uM_diff (by omega)]; exact hr f hf
  · have z1 : ¬ (c = 391 ∧ 6 ≤ j ∧ j ≤ 9) := fun y => z (Or.inr (Or.inl y))
    have z2 : ¬ c = 395 := fun y => z (Or.inr (Or.inr y))
    rw [fl_out (by omega), uM_diff (by omega), uM_diff (by omega), uM_diff (by omega), uM_diff (by omega)]
/-- the heats, one by one -/
theorem c_heats7 (hL : Lnd ld lv nf nd ng ne M) {w below : Nat} {day : Int32} {ls : Nat → Int32} (hls : ∀ j, j < 3 → ∃ l, l ≤ 99 ∧ ls j = nI l) {N0 : gM} (e0 : Eo gPp M N0) (e2 : ∀ j, j < 3 → N0 392 j = ls j) (e3 : N0 391 3 = nI (sd7 6 w)) (e4 : ∀ j, j < 3 → N0 394 j = pSm M lv nf w j) (hb : below ≤ 10) : ∃ X, J_PotSearch_tryHeats_98 ld day (nI below) N0 = (match fs7 (pEn M lv nf day ls w) below 0 with
    | none => some X
    | some h => J_PotSearch_tryHeats_121 ld (nI h) X) ∧ Kl C0 N0 zL X zL := by
  have key : ∀ (s h f : Nat) (N : gM), h + s = below → Kl C0 N0 zL N zL → ∃ X, H_PotSearch_tryHeats_103 ld day (nI below) (f + 1 + s) (nI h) N = (match fs7 (pEn M lv nf day ls w) s h with
      | none => some X
      | some h => J_PotSearch_tryHeats_121 ld (nI h) X) ∧ Kl C0 N0 zL X zL := by
    intro s
    induction s with
    | zero =>
      intro h f N hh kN
      obtain rfl : h = below := by omega
      refine ⟨N, ?_, kN⟩
      show B_PotSearch_tryHeats_103 ld day (nI h) (H_PotSearch_tryHeats_103 ld day (nI h) f) (nI h) N = some N
      generalize H_PotSearch_tryHeats_103 ld day (nI h) f = H
      unfold B_PotSearch_tryHeats_103
      rw [if_pos (by rw [nI_leI (by omega) (by omega)]; omega)]
    | succ s ih =>
      intro h f N hh kN
      have fr : ∀ c j, 391 ≤ c → c ≤ 395 → N c j = N0 c j := fun c j a b => kN.m (C0_M (by omega) (by omega))
      obtain ⟨X, y1, y2⟩ := c_isEnough hL (w := w) (h := h) (day := day) hls (e0.tr (gPp_0 kN)) (fun j hj => (fr 392 j (by omega) (by omega)).trans (e2 j hj)) ((fr 391 3 (by omega) (by omega)).trans e3) (fun j hj => (fr 394 j (by omega) (by omega)).trans (e4 j hj))
      have ih' := ih (h + 1) f X (by omega) (kN.trans y2)
      show ∃ X, B_PotSearch_tryHeats_103 ld day (nI below) (H_PotSearch_tryHeats_103 ld day (nI below) (f + 1 + s)) (nI h) N = (match (if pEn M lv nf day ls w h = true then some h else fs7 (pEn M lv nf day ls w) s (h + 1)) with
        | none => some X
        | some h => J_PotSearch_tryHeats_121 ld (nI h) X) ∧ _
      generalize H_PotSearch_tryHeats_103 ld day (nI below) (f + 1 + s) = H at ih' ⊢
      unfold B_PotSearch_tryHeats_103
      rw [if_neg (by rw [nI_leI (by omega) (by omega)]; omega), y1, bI2_s, nmI_e, nI_1]
      by_cases z : pEn M lv nf day ls w h = true
      · rw [if_pos z, if_neg (fun u => b32_0.mp u z)]
        exact ⟨X, rfl, kN.trans y2⟩
      · rw [if_neg z, if_pos (b32_0.mpr z)]
        exact ih'
  unfold J_PotSearch_tryHeats_98
  obtain ⟨f, hf⟩ := FU_k (1 + below) (by omega)
  rw [hf, ← Nat.add_assoc]
  exact key below 0 f N0 (by omega) Kl.rf
/-- the heats that the class tries are enough -/
theorem fs7_hs {p : Nat → Bool} {hs : Nat} (hh : hs = 10 ∨ (hs = 1 ∧ ∀ h, p h = p 0)) : fs7 p hs 0 = fs7 p 10 0 := by
  rcases hh with h | ⟨h, e⟩
  · rw [h]
  · rw [h]
    have := (fs7_more (p := p) (b := 9) 1 0)
    cases q : fs7 p 1 0 with
    | some x => exact (this.1 x q).symm
    | none =>
      refine ((this.2 q).trans (fs7_no 9 1 (fun x a b => ?_))).symm
      rw [e x]
      intro z
      have q' : (if p 0 = true then some 0 else none) = none := q
      rw [if_pos z] at q'
      cases q'
theorem fs7_cut {p : Nat → Bool} {h0 : Nat} (hb : h0 ≤ 10) : (∀ x, fs7 p h0 0 = some x → x < h0 ∧ fs7 p 10 0 = some x) ∧ (fs7 p h0 0 = none → ∀ x, fs7 p 10 0 = some x → h0 ≤ x) := by
  have m := fs7_more (p := p) (b := 10 - h0) h0 0
  rw [show h0 + (10 - h0) = 10 by omega] at m
  refine ⟨fun x e => ⟨?_, m.1 x e⟩, fun e x e2 => ?_⟩
  · have := fs7_in h0 0 x e
    omega
  · rw [m.2 e] at e2
    have := fs7_in _ _ x e2
    omega
theorem b01_n {x : Int32} (h : x = 0) : b01 x = 0 := by unfold b01; rw [if_pos h]
theorem b01_1 {x : Int32} (h : x = 1) : b01 x = 1 := by unfold b01; rw [h]; decide
/-- a way weighed is held against the best -/
theorem c_tryHeats (hL : Lnd ld lv nf nd ng ne M) {w hs : Nat} {day : Int32} {ls : Nat → Int32} (hls : ∀ j, j < 3 → ∃ l, l ≤ 99 ∧ ls j = nI l) (hh : hs = 10 ∨ (hs = 1 ∧ ∀ w h, pEn M lv nf day ls w h = pEn M lv nf day ls w 0)) {N0 : gM} (e0 : Eo gPp M N0) (e2 : ∀ j, j < 3 → N0 392 j = ls j) (e3 : N0 391 3 = nI (sd7 6 w)) (e4 : ∀ j, j < 3 → N0 394 j = pSm M lv nf w j) (e5 : N0 391 4 = pPr M lv nf w) (e10 : N0 391 10 = nI hs) (hr : Row7 w N0) (hs6 : sd7 6 w ≤ 6) {o : Option (Nat × Nat)} (hC : CpS M lv nf hs o N0) (ho : ∀ w0 h0, o = some (w0, h0) → sd7 6 w0 ≤ 6) : ∃ X, F_PotSearch_tryHeats ld day N0 = some X ∧ Eo gT7 N0 X ∧ CpS M lv nf hs (up7 (pEn M lv nf day ls) (pPr M lv nf) o w) X := by
  have hs10 : hs ≤ 10 := by rcases hh with h | h <;> omega
  have hsp : fs7 (pEn M lv nf day ls w) hs 0 = fs7 (pEn M lv nf day ls w) 10 0 := fs7_hs (by
    rcases hh with h | ⟨h, e⟩
    · exact Or.inl h
    · exact Or.inr ⟨h, e w⟩)
  have back : ∀ {X : gM}, Kl C0 N0 zL X zL → X 391 4 = pPr M lv nf w ∧ X 391 3 = nI (sd7 6 w) ∧ Row7 w X ∧ ∀ o, CpS M lv nf hs o N0 → CpS M lv nf hs o X := fun {X} k => by
    have fr : ∀ c j, 391 ≤ c → c ≤ 395 → X c j = N0 c j := fun c j a b => k.m (C0_M (by omega) (by omega))
    exact ⟨(fr 391 4 (by omega) (by omega)).trans e5, (fr 391 3 (by omega) (by omega)).trans e3, fun f hf => (fr 393 f (by omega) (by omega)).trans (hr f hf), fun o h => h.k (fun c j z => fr c j (by omega) (by omega))⟩
  -- all heats
  have full : ∀ o', (∀ h, fs7 (pEn M lv nf day ls w) 10 0 = some h → o' = some (w, h)) → (fs7 (pEn M lv nf day ls w) 10 0 = none → o' = o) → ∃ X, J_PotSearch_tryHeats_98 ld day (M := N0) (s0 := N0 391 10) = some X ∧ Eo gT7 N0 X ∧ CpS M lv nf hs o' X := fun o' h1 h2 => by
    obtain ⟨X, y1, y2⟩ := c_heats7 hL (w := w) (below := hs) (day := day) hls e0 e2 e3 e4 hs10
    rw [e10, y1]
    obtain ⟨b1, b2, b3, b4⟩ := back y2
    cases q : fs7 (pEn M lv nf day ls w) hs 0 with
    | none =>
      rw [hsp] at q
      exact ⟨X, rfl, gT7_0 y2, by rw [h2 q]; exact b4 o hC⟩
    | some h =>
      have l := fs7_in _ _ _ q
      rw [hsp] at q
      obtain ⟨Y, z1, z2, z3⟩ := c_take7 (ld := ld) (hs := hs) (w := w) (h := h) (by omega) b1 b2 b3
      exact ⟨Y, z1, (gT7_0 y2).tr z3, by rw [h1 h q]; exact z2⟩
  match o, hC, ho, full with
  | none, hC, ho, full =>
    have hC' : N0 391 9 = 0 := hC
    unfold F_PotSearch_tryHeats J_PotSearch_tryHeats_41 J_PotSearch_tryHeats_74 J_PotSearch_tryHeats_75
    rw [b01_n hC', if_pos rfl, if_pos rfl, if_pos rfl]
    exact full _ (fun h e => up7_f e) (fun e => up7_n e)
  | some (w0, h0), hC, ho, full =>
    obtain ⟨c9, c6, c7, c8, c10, c5⟩ := id hC
    have s6 := ho w0 h0 rfl
    have stay : ∀ X : gM, Kl C0 N0 zL X zL → up7 (pEn M lv nf day ls) (pPr M lv nf) (some (w0, h0)) w = some (w0, h0) → some X = some X ∧ Eo gT7 N0 X ∧ CpS M lv nf hs (up7 (pEn M lv nf day ls) (pPr M lv nf) (some (w0, h0)) w) X := fun X k e => ⟨rfl, gT7_0 k, by rw [e]; exact (back k).2.2.2 _ hC⟩
    unfold F_PotSearch_tryHeats
    rw [b01_1 c9, if_neg (by decide), c6, e5]
    by_cases p1 : pPr M lv nf w0 < pPr M lv nf w
    · rw [if_pos p1]
      refine ⟨N0, stay N0 Kl.rf ?_⟩
      cases q : fs7 (pEn M lv nf day ls w) 10 0 with
      | none => exact up7_n q
      | some h =>
        rw [i_lt] at p1
        rw [up7_s q, if_neg (by rw [i_lt]; omega), if_neg (fun z => by rw [z] at p1; omega)]
    rw [if_neg p1]
    by_cases p2 : pPr M lv nf w = pPr M lv nf w0
    rotate_left
    · have p3 : pPr M lv nf w < pPr M lv nf w0 := by
        rw [i_lt] at p1 ⊢
        have : (pPr M lv nf w).toInt ≠ (pPr M lv nf w0).toInt := fun z => p2 (Int32.toInt_inj.mp z)
        omega
      rw [if_neg p2]
      unfold J_PotSearch_tryHeats_41 J_PotSearch_tryHeats_74 J_PotSearch_tryHeats_75
      rw [b01_1 c9, if_neg (by decide), c6, e5, if_neg p2, if_pos rfl]
      exact full _ (fun h e => by rw [up7_s e, if_pos p3]) (fun e => up7_n e)
    have p3 : ¬ pPr M lv nf w < pPr M lv nf w0 := by rw [i_lt, p2]; omega
    rw [if_pos p2, e3, c7]
    by_cases m1 : sd7 6 w0 < sd7 6 w
    · rw [if_neg (by rw [nI_leI (by omega) (by omega)]; omega)]
      refine ⟨N0, stay N0 Kl.rf ?_⟩
      cases q : fs7 (pEn M lv nf day ls w) 10 0 with
      | none => exact up7_n q
      | some h => rw [up7_s q, if_neg p3, if_pos p2, if_neg (by omega), if_neg (by omega)]
    rw [if_pos (by rw [nI_leI (by omega) (by omega)]; omega)]
    unfold J_PotSearch_tryHeats_41
    rw [b01_1 c9, if_neg (by decide), c6, e5, if_pos p2, e3, c7]
    by_cases m2 : sd7 6 w = sd7 6 w0
    rotate_left
    · rw [if_neg (fun z => m2 ((nI_eq (by omega) (by omega)).mp z))]
      unfold J_PotSearch_tryHeats_74 J_PotSearch_tryHeats_75
      rw [if_pos rfl]
      exact full _ (fun h e => by rw [up7_s e, if_neg p3, if_pos p2, if_pos (by omega)]) (fun e => up7_n e)
    rw [if_pos (by rw [m2])]
    unfold J_PotSearch_tryHeats_75
    rw [if_neg (by decide), e10, c8, if_neg (by rw [nI_ltI (by omega) (by omega)]; omega)]
    obtain ⟨X, y1, y2⟩ := c_heats7 hL (w := w) (below := h0) (day := day) hls e0 e2 e3 e4 (by omega)
    obtain ⟨b1, b2, b3, b4⟩ := back y2
    obtain ⟨k1, k2⟩ := fs7_cut (p := pEn M lv nf day ls w) (h0 := h0) (by omega)
    rw [y1]
    cases q : fs7 (pEn M lv nf day ls w) h0 0 with
    | none =>
      refine ⟨X, stay X y2 ?_⟩
      cases q2 : fs7 (pEn M lv nf day ls w) 10 0 with
      | none => exact up7_n q2
      | some h =>
        have := k2 q h q2
        rw [up7_s q2, if_neg p3, if_pos p2, if_neg (by omega), if_pos m2, if_neg (by omega)]
    | some h =>
      obtain ⟨l1, l2⟩ := k1 h q
      obtain ⟨Y, z1, z2, z3⟩ := c_take7 (ld := ld) (hs := hs) (w := w) (h := h) (by omega) b1 b2 b3
      exact ⟨Y, z1, (gT7_0 y2).tr z3, by rw [up7_s l2, if_neg p3, if_pos p2, if_neg (by omega), if_pos m2, if_pos l1]; exact z2⟩
/-- the step to the next pot -/
theorem c_stepDown {st : Nat → Nat} (hst : ∀ j, st j ≤ 99) {W : Nat} (hW : W < q7 6) (hp : pot7 st W) (h0 : W ≠ 0) {N : gM} (h66 : ∀ x, x < 6 → N 66 x = nI (st (5 - x))) (hr : Row7 W N) (e3 : N 391 3 = nI (sd7 6 W)) : ∃ X W', F_PotSearch_stepDown 64 N = some X ∧ Eo gF7 N X ∧ W' < W ∧ pot7 st W' ∧ (∀ w, W' < w → w < W → ¬ pot7 st w) ∧ Row7 W' X := by
  have key : ∀ (j k f : Nat), j + k = 6 → W % q7 k = 0 → ∃ X W', H_PotSearch_stepDown_2 64 N (f + 1 + j) (nI j + -1) = some X ∧ Eo gF7 N X ∧ W' < W ∧ pot7 st W' ∧ (∀ w, W' < w → w < W → ¬ pot7 st w) ∧ Row7 W' X := by
    intro j
    induction j with
    | zero =>
      intro k f hj hz
      obtain rfl : k = 6 := by omega
      rw [Nat.mod_eq_of_lt hW] at hz
      exact absurd hz h0
    | succ j ih =>
      intro k f hj hz
      have d6 := d7_6 W k
      have s6 := hp.2
      have xj : N 393 j = nI (d7 W k) := by rw [hr j (by omega), show 5 - j = k by omega]
      have e0 : H_PotSearch_stepDown_2 64 N (f + 1 + (j + 1)) (nI (j + 1) + -1) = (if d7 W k = 0 then H_PotSearch_stepDown_2 64 N (f + 1 + j) (nI j + -1) else J_PotSearch_stepDown_19 64 (nI j) (nI (d7 W k)) N) := by
        rw [nI_m1]
        show B_PotSearch_stepDown_2 64 N (H_PotSearch_stepDown_2 64 N (f + 1 + j)) (nI j) = _
        generalize H_PotSearch_stepDown_2 64 N (f + 1 + j) = H
        unfold B_PotSearch_stepDown_2
        rw [if_neg (nI_pos (by omega)), s_at (by omega) (by decide), bI_s, xj, nmI_e]
        by_cases z : d7 W k = 0
        · rw [if_pos z, if_pos (by rw [z]; decide)]
        · rw [if_neg z, if_neg (by rw [show (0 : Int32) = nI 0 from rfl, nI_leI (by omega) (by omega)]; omega)]
      rw [e0]
      by_cases z : d7 W k = 0
      · rw [if_pos z]
        exact ih (k + 1) f (by omega) (by rw [q7_mod, hz, z]; rfl)
      rw [if_neg z]
      obtain ⟨W', w0, w1, w2, w3, w4, w5, w6⟩ := step7 hW hp (by omega) hz (by omega)
      obtain ⟨g, hg⟩ := FU_k (1 + k) (by omega)
      obtain ⟨X, y1, y2, y3, y4⟩ := c_fill hst k (7 - sd7 6 W) g (uM N 393 j (nI (d7 W k - 1))) (by omega) (by omega) (fun x hx => by rw [uM_diff (by omega)]; exact h66 x hx)
      refine ⟨X, W', ?_, (Eo.rf.u (show gF7 393 j from rfl)).tr y2, w2, w3, w4, fun x hx => ?_⟩
      · unfold J_PotSearch_stepDown_19
        rw [show nI (d7 W k) - 1 = nI (d7 W k - 1) by rw [show (1 : Int32) = nI 1 from rfl, nI_sub (by omega)], s_put (by omega) (by decide), bI_s, uM_diff (show ¬ ((391 : Nat) = 393 ∧ 3 = j) by omega), e3, nI_1, show (6 : Int32) - nI (sd7 6 W) + 1 = nI (7 - sd7 6 W) by rw [show (6 : Int32) = nI 6 from rfl, nI_sub s6, nI_1, show 6 - sd7 6 W + 1 = 7 - sd7 6 W by omega]]
        unfold F_PotSearch_fillFrom
        rw [hg, ← Nat.add_assoc, show j + 1 = 6 - k by omega, y1, bI_s]
      · by_cases a : x < 6 - k
        · rw [y3 x a]
          by_cases b : x = j
          · have := w5 0 (by omega)
            rw [if_pos rfl, Nat.add_zero] at this
            rw [b, uM_same, show 5 - j = k by omega, this]
          · have := w5 (5 - x - k) (by omega)
            rw [if_neg (by omega), show k + (5 - x - k) = 5 - x by omega] at this
            rw [uM_diff (by omega), hr x hx, this]
        · rw [y4 x (by omega) hx, w6 (5 - x) (by omega)]
  unfold F_PotSearch_stepDown
  obtain ⟨f, hf⟩ := FU_k (1 + 6) (by omega)
  rw [hf, ← Nat.add_assoc, show (5 : Int32) = nI 6 + -1 by decide]
  exact key 6 0 f (by omega) (Nat.mod_one W)
end CQ
end PAR60
