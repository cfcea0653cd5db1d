/-! the model: dishes, bounds, lots -/
section PAR33
theorem sm_z {g : Nat → Int32} {n : Nat} : ∀ r, (∀ k, n ≤ k → k < n + r → g k = 0) → sm g (n + r) = sm g n
  | 0, _ => rfl
  | r + 1, h => by
    show sm g (n + r) + g (n + r) = sm g n
    rw [sm_z r (fun k a b => h k a (by omega)), h (n + r) (by omega) (by omega), Int32.add_zero]
theorem i_ac (a b c : Int32) : a + b + c = a + c + b := by rw [Int32.add_assoc, Int32.add_comm b c, ← Int32.add_assoc]
theorem sm_u {g g' : Nat → Int32} {x : Nat} {e : Int32} (h1 : g' x = g x + e) (h2 : ∀ k, k ≠ x → g' k = g k) : ∀ n, sm g' n = if x < n then sm g n + e else sm g n
  | 0 => rfl
  | n + 1 => by
    show sm g' n + g' n = _
    rw [sm_u h1 h2 n]
    by_cases q : x = n
    · subst q
      rw [if_neg (by omega), if_pos (by omega), h1, ← Int32.add_assoc]
      rfl
    · rw [h2 n (fun w => q w.symm)]
      by_cases w : x < n
      · rw [if_pos w, if_pos (by omega), i_ac]; rfl
      · rw [if_neg w, if_neg (by omega)]; rfl
section MOD
variable {ld lv nf nd ng ne : Nat} {M M' : gM}
/-- what a dish puts in the pot -/
def potD (M : gM) (lv nf d f : Nat) : Int32 := if f < nf then M 417 (6 * (5 * lv + d) + f) else 0
theorem m_fillL (h : Lnd ld lv nf nd ng ne M) {d : Nat} (hd : d < nd) : ∀ (r k f : Nat) (N : gM), k + r = 6 → (∀ c j, c ≠ 438 → N c j = M c j) → H_Mod_fillsPot_2 (nI d) (f + 1 + r) (nI k) N = some (fl N 438 k r (fun j => potD M lv nf d (k + j))) := by
  have h6 := h.nf6
  have h5 := h.nd5
  have h1 := h.l1
  intro r
  induction r with
  | zero =>
    intro k f N hk hN
    show B_Mod_fillsPot_2 (nI d) (H_Mod_fillsPot_2 (nI d) f) (nI k) N = _
    unfold B_Mod_fillsPot_2
    rw [show (6 : Int32) = nI 6 from rfl, if_pos (by rw [nI_leI (by omega) (by omega)]; omega), fl_0]
  | succ r ih =>
    intro k f N hk hN
    show B_Mod_fillsPot_2 (nI d) (H_Mod_fillsPot_2 (nI d) (f + 1 + r)) (nI k) N = _
    unfold B_Mod_fillsPot_2 J_Mod_fillsPot_48
    rw [show (6 : Int32) = nI 6 from rfl, show (5 : Int32) = nI 5 from rfl, if_neg (by rw [nI_leI (by omega) (by omega)]; omega), hN 401 18 (by decide), h.l18, if_neg (nI_in (by omega) (by omega)), nI_clamp (by omega), hN 411 _ (by decide), h.mf]
    have fin : ∀ x : Int32, x = potD M lv nf d k → (if (nI k : Int32) < 0 ∨ 6 ≤ (nI k : Int32).toNatClampNeg then none else nmM (uM N 438 (nI k : Int32).toNatClampNeg x) (fun M5 => nmI (nI k + 1) (fun x6 => H_Mod_fillsPot_2 (nI d) (f + 1 + r) x6 M5))) = some (fl N 438 k (r + 1) (fun j => potD M lv nf d (k + j))) := fun x hx => by
      rw [if_neg (nI_in (by omega) (by omega)), nI_clamp (by omega), nmM_e, nmI_e, nI_1, ih (k + 1) f _ (by omega) (fun c j hc => by rw [uM_diff (by omega)]; exact hN c j hc)]
      refine congrArg some ?_
      have e : (fun j => potD M lv nf d (k + 1 + j)) = fun j => (fun j => potD M lv nf d (k + j)) (j + 1) := by
        funext j
        show potD M lv nf d (k + 1 + j) = potD M lv nf d (k + (j + 1))
        congr 1
        omega
      rw [e]
      exact fl_cons (v := fun j => potD M lv nf d (k + j)) hx
    by_cases q : k < nf
    · rw [if_neg (by rw [nI_leI (by omega) (by omega)]; omega), nI_mul, nI_add, nI_mul, nI_add, if_neg (nI_in (by omega) (by omega))]
      refine fin _ ?_
      rw [nI_clamp (by omega), hN 417 _ (by decide)]
      unfold potD
      rw [if_pos q]
    · rw [if_pos (by rw [nI_leI (by omega) (by omega)]; omega)]
      refine fin _ ?_
      unfold potD
      rw [if_neg q]
theorem m_fillsPot (h : Lnd ld lv nf nd ng ne M) {d : Nat} (hd : d < nd) : F_Mod_fillsPot (nI d) M = some (fl M 438 0 6 (potD M lv nf d)) := by
  unfold F_Mod_fillsPot
  obtain ⟨g, hg⟩ := FU_k (1 + 6) (by omega)
  rw [hg, ← Nat.add_assoc]
  refine (m_fillL h hd 6 0 g M (by omega) (fun _ _ _ => rfl)).trans ?_
  simp only [Nat.zero_add]
theorem m_potMany : F_Mod_potMany M = some (sm (M 438) 6) := by
  have key : ∀ (r k f : Nat), k + r = 6 → H_Mod_potMany_4 M (f + 1 + r) (sm (M 438) k) (nI k) = some (sm (M 438) 6) := by
    intro r
    induction r with
    | zero =>
      intro k f hk
      obtain rfl : k = 6 := by omega
      show B_Mod_potMany_4 M (H_Mod_potMany_4 M f) _ (nI 6) = _
      unfold B_Mod_potMany_4
      rw [if_pos (by decide)]
    | succ r ih =>
      intro k f hk
      show B_Mod_potMany_4 M (H_Mod_potMany_4 M (f + 1 + r)) _ (nI k) = _
      unfold B_Mod_potMany_4
      rw [show (6 : Int32) = nI 6 from rfl, if_neg (by rw [nI_leI (by omega) (by omega)]; omega), if_neg (nI_in (by omega) (by omega)), nI_clamp (by omega), nmI_e, nmI_e, nI_1]
      exact ih (k + 1) f (by omega)
  unfold F_Mod_potMany
  obtain ⟨g, hg⟩ := FU_k (1 + 6) (by omega)
  rw [hg, ← Nat.add_assoc]
  exact key 6 0 g (by omega)
theorem m_potPrice (h : Lnd ld lv nf nd ng ne M) : F_Mod_potPrice M = some (sm (fun f => M 438 f * M 413 (6 * lv + f)) nf) := by
  have h6 := h.nf6
  have h1 := h.l1
  have key : ∀ (r k f : Nat), k + r = nf → H_Mod_potPrice_4 M (f + 1 + r) (sm (fun f => M 438 f * M 413 (6 * lv + f)) k) (nI k) = some (sm (fun f => M 438 f * M 413 (6 * lv + f)) nf) := by
    intro r
    induction r with
    | zero =>
      intro k f hk
      obtain rfl : k = nf := by omega
      show B_Mod_potPrice_4 M (H_Mod_potPrice_4 M f) _ (nI k) = _
      unfold B_Mod_potPrice_4
      rw [h.l18, if_neg (nI_in (by omega) (by omega)), nI_clamp (by omega), h.mf, if_pos (by rw [nI_leI (by omega) (by omega)]; omega)]
    | succ r ih =>
      intro k f hk
      show B_Mod_potPrice_4 M (H_Mod_potPrice_4 M (f + 1 + r)) _ (nI k) = _
      unfold B_Mod_potPrice_4
      rw [h.l18, if_neg (nI_in (by omega) (by omega)), nI_clamp (by omega), h.mf, if_neg (by rw [nI_leI (by omega) (by omega)]; omega), if_neg (nI_in (by omega) (by omega)), show (6 : Int32) = nI 6 from rfl, nI_mul, nI_add, if_neg (nI_in (by omega) (by omega)), nI_clamp (by omega), nI_clamp (by omega), nmI_e, nmI_e, nI_1]
      exact ih (k + 1) f (by omega)
  unfold F_Mod_potPrice
  obtain ⟨g, hg⟩ := FU_k (1 + nf) (by omega)
  rw [hg, ← Nat.add_assoc]
  exact key nf 0 g (by omega)
theorem m_looks : F_Mod_looks M = some (uM (fl M 434 0 9 (fun _ => 0)) 434 4 (M 437 35)) := by
  have key : ∀ (r k f : Nat) (N : gM), k + r = 9 → H_Mod_looks_2 (f + 1 + r) (nI k) N = J_Mod_looks_21 (fl N 434 k r (fun _ => 0)) := by
    intro r
    induction r with
    | zero =>
      intro k f N hk
      show B_Mod_looks_2 _ (nI k) N = _
      unfold B_Mod_looks_2
      rw [show (9 : Int32) = nI 9 from rfl, if_pos (by rw [nI_leI (by omega) (by omega)]; omega), fl_0]
    | succ r ih =>
      intro k f N hk
      show B_Mod_looks_2 (H_Mod_looks_2 (f + 1 + r)) (nI k) N = _
      unfold B_Mod_looks_2
      rw [show (9 : Int32) = nI 9 from rfl, if_neg (by rw [nI_leI (by omega) (by omega)]; omega), if_neg (nI_in (by omega) (by omega)), nI_clamp (by omega), nmM_e, nmI_e, nI_1, ih (k + 1) f _ (by omega)]
      exact congrArg J_Mod_looks_21 (fl_cons (v := fun _ => 0) rfl)
  unfold F_Mod_looks
  obtain ⟨g, hg⟩ := FU_k (1 + 9) (by omega)
  rw [hg, ← Nat.add_assoc]
  refine (key 9 0 g M (by omega)).trans ?_
  unfold J_Mod_looks_21
  rw [nmM_e, fl_out (by omega)]
theorem Lnd.asks (h : Lnd ld lv nf nd ng ne M) {w : Nat} {p a b : Int32} {vs : Nat → Int32} (hw : w < 4) (hv : ∀ i, i < 9 → M 434 i = vs i) : ∃ M', F_Mod_asks (nI w) p a b M = some (hb a b (lawS M lv w vs p), M') ∧ Eo (fun c j => c = 435 ∨ (c = 401 ∧ j = 51)) M M' := by
  obtain ⟨M', e1, e2⟩ := m_asks (p := p) (a := a) (b := b) (vs := vs) h.l1 hw h.l18 h.2.2.2.2.2.1 hv
  rw [held_e, bI_s] at e1
  exact ⟨M', e1, e2⟩
theorem m_forceBy (h : Lnd ld lv nf nd ng ne M) {j : Nat} {heat : Int32} (hj : j < 3) : ∃ M', F_Mod_forceBy (nI j) heat M = some (potS M lv (nI j) (sm (fun f => M 438 f * M 414 (3 * (6 * lv + f) + j)) nf) heat (sm (M 438) 6) (M 437 35), M') ∧ Eo mV M M' := by
  have h6 := h.nf6
  have h1 := h.l1
  have key : ∀ (r k f : Nat), k + r = nf → H_Mod_forceBy_5 (nI j) heat M (f + 1 + r) (sm (fun f => M 438 f * M 414 (3 * (6 * lv + f) + j)) k) (nI k) = J_Mod_forceBy_55 (nI j) heat (sm (fun f => M 438 f * M 414 (3 * (6 * lv + f) + j)) nf) M := by
    intro r
    induction r with
    | zero =>
      intro k f hk
      obtain rfl : k = nf := by omega
      show B_Mod_forceBy_5 (nI j) heat M (H_Mod_forceBy_5 (nI j) heat M f) _ (nI k) = _
      unfold B_Mod_forceBy_5
      rw [h.l18, if_neg (nI_in (by omega) (by omega)), nI_clamp (by omega), h.mf, if_pos (by rw [nI_leI (by omega) (by omega)]; omega)]
    | succ r ih =>
      intro k f hk
      show B_Mod_forceBy_5 (nI j) heat M (H_Mod_forceBy_5 (nI j) heat M (f + 1 + r)) _ (nI k) = _
      unfold B_Mod_forceBy_5
      rw [h.l18, if_neg (nI_in (by omega) (by omega)), nI_clamp (by omega), h.mf, if_neg (by rw [nI_leI (by omega) (by omega)]; omega), if_neg (nI_in (by omega) (by omega)), show (6 : Int32) = nI 6 from rfl, show (3 : Int32) = nI 3 from rfl, nI_mul, nI_add, nI_mul, nI_add, if_neg (nI_in (by omega) (by omega)), nI_clamp (by omega), nI_clamp (by omega), nmI_e, nmI_e, nI_1]
      exact ih (k + 1) f (by omega)
  unfold F_Mod_forceBy
  obtain ⟨g, hg⟩ := FU_k (1 + nf) (by omega)
  rw [hg, ← Nat.add_assoc]
  have e0 := key nf 0 g (by omega)
  rw [show (0 : Int32) = nI 0 from rfl]
  rw [show sm (fun f => M 438 f * M 414 (3 * (6 * lv + f) + j)) 0 = nI 0 from rfl] at e0
  rw [e0]
  unfold J_Mod_forceBy_55
  generalize sm (fun f => M 438 f * M 414 (3 * (6 * lv + f) + j)) nf = s
  rw [m_looks, bI_s, nmM_e, nmM_e, nmM_e, m_potMany, bI_s, nmM_e]
  have f1 : Eo mV M (uM (uM (uM (uM (uM (fl M 434 0 9 (fun _ => 0)) 434 4 (M 437 35)) 434 0 s) 434 1 heat) 434 2 (nI j)) 434 3 (sm (uM (uM (uM (uM (fl M 434 0 9 (fun _ => 0)) 434 4 (M 437 35)) 434 0 s) 434 1 heat) 434 2 (nI j) 438) 6)) := fun c i q => by
    unfold mV at q
    rw [uM_diff (by omega), uM_diff (by omega), uM_diff (by omega), uM_diff (by omega), uM_diff (by omega), fl_out (by omega)]
  have es : sm (uM (uM (uM (uM (fl M 434 0 9 (fun _ => 0)) 434 4 (M 437 35)) 434 0 s) 434 1 heat) 434 2 (nI j) 438) 6 = sm (M 438) 6 := sm_c 6 (fun k _ => by rw [uM_diff (by omega), uM_diff (by omega), uM_diff (by omega), uM_diff (by omega), fl_out (by omega)])
  rw [es] at f1 ⊢
  generalize hN : uM (uM (uM (uM (uM (fl M 434 0 9 (fun _ => 0)) 434 4 (M 437 35)) 434 0 s) 434 1 heat) 434 2 (nI j)) 434 3 (sm (M 438) 6) = N at f1 ⊢
  have hv : ∀ i, i < 9 → N 434 i = v9 s heat (nI j) (sm (M 438) 6) (M 437 35) 0 0 0 0 i := fun i hi => by
    rw [← hN]
    rcases (show i = 0 ∨ i = 1 ∨ i = 2 ∨ i = 3 ∨ i = 4 ∨ i = 5 ∨ i = 6 ∨ i = 7 ∨ i = 8 by omega) with q | q | q | q | q | q | q | q | q <;> subst q
    · rw [uM_diff (by omega), uM_diff (by omega), uM_diff (by omega)]; exact uM_same
    · rw [uM_diff (by omega), uM_diff (by omega)]; exact uM_same
    · rw [uM_diff (by omega)]; exact uM_same
    · exact uM_same
    · rw [uM_diff (by omega), uM_diff (by omega), uM_diff (by omega), uM_diff (by omega)]; exact uM_same
    all_goals (rw [uM_diff (by omega), uM_diff (by omega), uM_diff (by omega), uM_diff (by omega), uM_diff (by omega)]; exact fl_in (by omega))
  obtain ⟨M', y1, y2⟩ := (h.kV f1).asks (w := 0) (p := s) (a := 0) (b := 99) (by decide) hv
  rw [show F_Mod_asks 0 s 0 99 N = _ from y1, bI2_s]
  refine ⟨M', ?_, f1.tr (y2.mono (fun c j q => by unfold mV; omega))⟩
  unfold potS
  rw [lawS_keep (fun c i a b => f1 c i (by unfold mV; omega))]
theorem m_boundBy (h : Lnd ld lv nf nd ng ne M) {g : Nat} {kind ate ago : Int32} (hg : g < 4) : ∃ M', F_Mod_boundBy (nI g) kind ate ago M = some (bndS M lv g kind ate ago (M 437 35), M') ∧ Eo mV M M' := by
  have h1 := h.l1
  unfold F_Mod_boundBy
  have e18 : uM (uM (uM (fl M 434 0 9 (fun _ => 0)) 434 4 (M 437 35)) 434 0 ate) 434 2 kind 401 18 = nI lv := by rw [uM_diff (by omega), uM_diff (by omega), uM_diff (by omega), fl_out (by omega)]; exact h.l18
  have e419 : uM (uM (uM (fl M 434 0 9 (fun _ => 0)) 434 4 (M 437 35)) 434 0 ate) 434 2 kind 419 (4 * lv + g) = M 419 (4 * lv + g) := by rw [uM_diff (by omega), uM_diff (by omega), uM_diff (by omega), fl_out (by omega)]
  rw [m_looks, bI_s, nmM_e, nmM_e, e18, show (4 : Int32) = nI 4 from rfl, nI_mul, nI_add, if_neg (nI_in (by omega) (by omega)), nI_clamp (by omega), e419, nmM_e, nmM_e]
  have f1 : Eo mV M (uM (uM (uM (uM (uM (fl M 434 0 9 (fun _ => 0)) 434 4 (M 437 35)) 434 0 ate) 434 2 kind) 434 5 (M 419 (4 * lv + g))) 434 6 ago) := fun c i q => by
    unfold mV at q
    rw [uM_diff (by omega), uM_diff (by omega), uM_diff (by omega), uM_diff (by omega), uM_diff (by omega), fl_out (by omega)]
  generalize hN : uM (uM (uM (uM (uM (fl M 434 0 9 (fun _ => 0)) 434 4 (M 437 35)) 434 0 ate) 434 2 kind) 434 5 (M 419 (4 * lv + g))) 434 6 ago = N at f1 ⊢
  have hv : ∀ i, i < 9 → N 434 i = v9 ate 0 kind 0 (M 437 35) (M 419 (4 * lv + g)) ago 0 0 i := fun i hi => by
    rw [← hN]
    rcases (show i = 0 ∨ i = 2 ∨ i = 4 ∨ i = 5 ∨ i = 6 ∨ i = 1 ∨ i = 3 ∨ i = 7 ∨ i = 8 by omega) with q | q | q | q | q | q | q | q | q <;> subst q
    · rw [uM_diff (by omega), uM_diff (by omega), uM_diff (by omega)]; exact uM_same
    · rw [uM_diff (by omega), uM_diff (by omega)]; exact uM_same
    · rw [uM_diff (by omega), uM_diff (by omega), uM_diff (by omega), uM_diff (by omega)]; exact uM_same
    · rw [uM_diff (by omega)]; exact uM_same
    · exact uM_same
    all_goals (rw [uM_diff (by omega), uM_diff (by omega), uM_diff (by omega), uM_diff (by omega), uM_diff (by omega)]; exact fl_in (by omega))
  obtain ⟨M', y1, y2⟩ := (h.kV f1).asks (w := 1) (p := ate - ago) (a := 0) (b := 99) (by decide) hv
  rw [show F_Mod_asks 1 (ate - ago) 0 99 N = _ from y1, bI2_s]
  refine ⟨M', ?_, f1.tr (y2.mono (fun c j q => by unfold mV; omega))⟩
  unfold bndS
  rw [lawS_keep (fun c i a b => f1 c i (by unfold mV; omega))]
/-- a dish in the pot -/
theorem potD_sum {d j : Nat} (e : ∀ f, f < 6 → M 438 f = potD M lv nf d f) (h6 : nf ≤ 6) : sm (fun f => M 438 f * M 414 (3 * (6 * lv + f) + j)) nf = sumS M lv nf d j := by
  unfold sumS
  exact sm_c nf (fun k hk => by rw [e k (by omega)]; unfold potD; rw [if_pos hk])
theorem potD_pri {d : Nat} (e : ∀ f, f < 6 → M 438 f = potD M lv nf d f) (h6 : nf ≤ 6) : sm (fun f => M 438 f * M 413 (6 * lv + f)) nf = priS M lv nf d := by
  unfold priS
  exact sm_c nf (fun k hk => by rw [e k (by omega)]; unfold potD; rw [if_pos hk])
theorem potD_man {d : Nat} (e : ∀ f, f < 6 → M 438 f = potD M lv nf d f) (h6 : nf ≤ 6) : sm (M 438) 6 = manS M lv nf d := by
  have e1 : sm (M 438) (nf + (6 - nf)) = sm (M 438) nf := sm_z (6 - nf) (fun k a b => by rw [e k (by omega)]; unfold potD; rw [if_neg (by omega)])
  rw [show nf + (6 - nf) = 6 by omega] at e1
  rw [e1]
  unfold manS
  exact sm_c nf (fun k hk => by rw [e k (by omega)]; unfold potD; rw [if_pos hk])
/-- the pot holds a dish, or a dish with one more of a food -/
def Pot (M : gM) (lv nf d : Nat) (more : Option Nat) : Prop := ∀ f, f < 6 → M 438 f = if more = some f then potD M lv nf d f + 1 else potD M lv nf d f
theorem Pot.force (h : Lnd ld lv nf nd ng ne M) {d j : Nat} {more : Option Nat} (hp : Pot M lv nf d more) (hm : ∀ f, more = some f → f < nf) (hj : j < 3) : ∃ M', F_Mod_forceBy (nI j) (M 416 (5 * lv + d)) M = some (disS M lv nf d more j (M 437 35), M') ∧ Eo mV M M' := by
  have h6 := h.nf6
  obtain ⟨M', e1, e2⟩ := m_forceBy h (j := j) (heat := M 416 (5 * lv + d)) hj
  refine ⟨M', ?_, e2⟩
  rw [e1]
  unfold disS
  match more, hm, hp with
  | none, _, hp =>
    have hp' : ∀ f, f < 6 → M 438 f = potD M lv nf d f := fun f hf => by rw [hp f hf, if_neg (by simp)]
    rw [potD_sum hp' h6, potD_man hp' h6]
  | some x, hm, hp =>
    have hx := hm x rfl
    have e3 : sm (fun f => M 438 f * M 414 (3 * (6 * lv + f) + j)) nf = sumS M lv nf d j + M 414 (3 * (6 * lv + x) + j) := by
      have e4 : sm (fun f => M 438 f * M 414 (3 * (6 * lv + f) + j)) nf = sm (fun f => if f = x then M 417 (6 * (5 * lv + d) + f) * M 414 (3 * (6 * lv + f) + j) + M 414 (3 * (6 * lv + f) + j) else M 417 (6 * (5 * lv + d) + f) * M 414 (3 * (6 * lv + f) + j)) nf := sm_c nf (fun k hk => by
        rw [hp k (by omega)]
        unfold potD
        rw [if_pos hk]
        by_cases q : k = x
        · rw [if_pos (by rw [q]), if_pos q, Int32.add_mul, Int32.one_mul]
        · rw [if_neg (fun w => q (Option.some.inj w).symm), if_neg q])
      rw [e4, sm_u (g := fun f => M 417 (6 * (5 * lv + d) + f) * M 414 (3 * (6 * lv + f) + j)) (x := x) (e := M 414 (3 * (6 * lv + x) + j)) (by rw [if_pos rfl]) (fun k hk => by rw [if_neg hk]) nf, if_pos hx]
      rfl
    have e5 : sm (M 438) 6 = manS M lv nf d + 1 := by
      have e6 : sm (M 438) 6 = sm (fun f => if f = x then potD M lv nf d f + 1 else potD M lv nf d f) 6 := sm_c 6 (fun k hk => by
        rw [hp k hk]
        by_cases q : k = x
        · rw [if_pos (by rw [q]), if_pos q]
        · rw [if_neg (fun w => q (Option.some.inj w).symm), if_neg q])
      rw [e6, sm_u (g := potD M lv nf d) (x := x) (e := 1) (by rw [if_pos rfl]) (fun k hk => by rw [if_neg hk]) 6, if_pos (by omega)]
      have e7 : sm (potD M lv nf d) (nf + (6 - nf)) = sm (potD M lv nf d) nf := sm_z (6 - nf) (fun k a b => by unfold potD; rw [if_neg (by omega)])
      rw [show nf + (6 - nf) = 6 by omega] at e7
      rw [e7]
      unfold manS
      rw [sm_c nf (fun k hk => by unfold potD; rw [if_pos hk])]
    rw [e3, e5]
/-- LOT -/
def mixS (h v : Int32) : Int32 := ((h ^^^ v) * 1103515245 + 12345) ^^^ ((((h ^^^ v) * 1103515245 + 12345).toUInt32 >>> ((15 : Int32).toUInt32 &&& Int32.toUInt32 31)).toInt32)
def lotS (n seed which : Int32) : Int32 := (((mixS (mixS seed 103) which).toUInt32 >>> ((1 : Int32).toUInt32 &&& Int32.toUInt32 31)).toInt32) - (((mixS (mixS seed 103) which).toUInt32 >>> ((1 : Int32).toUInt32 &&& Int32.toUInt32 31)).toInt32) / n * n
theorem c_lot {n seed which : Int32} (hn : ¬ n ≤ 0) : F_Land_lot n seed which = some (lotS n seed which) := by
  unfold F_Land_lot F_Land_stirred
  rw [nmI_e, bI_s, nmI_e, bI_s, if_neg hn, if_neg (fun q => hn (by rw [q]; decide))]
  rfl
theorem m_lotOf {n which : Int32} (hn : ¬ n = 0) : F_Mod_lotOf which n M = some (lotS n (M 401 54) which) := by
  unfold F_Mod_lotOf F_Mod_mixed
  rw [nmI_e, bI_s, nmI_e, bI_s, if_neg hn]
  rfl
theorem lotS_r {n : Nat} {seed which : Int32} (h0 : 0 < n) (hn : n < 2 ^ 31) : ∃ x, x < n ∧ lotS (nI n) seed which = nI x := by
  have hr := lot_rng (x := mixS (mixS seed 103) which) (n := nI n) (by rw [nI_toInt hn]; omega)
  have e : (nI n).toInt = (n : Int) := nI_toInt hn
  exact ⟨(lotS (nI n) seed which).toInt.toNat, by unfold lotS; omega, i_nI hr.1⟩
end MOD
end PAR33
