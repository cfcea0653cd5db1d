/-! the ways a dish may lie about: as it is, one more, one less -/
section PAR47
def wF (v : Nat) : Nat := if v ≤ 6 then v - 1 else v - 7
def wD (v : Nat) : Int32 := if v = 0 then 0 else if v ≤ 6 then 1 else -1
def wOk (M : gM) (lv nf d v : Nat) : Bool := decide (v = 0 ∨ (wF v < nf ∧ (v ≤ 6 ∨ (M 417 (6 * (5 * lv + d) + wF v) ≠ 0 ∧ 2 ≤ manS M lv nf d))))
def wMan (M : gM) (lv nf d v : Nat) : Int32 := manS M lv nf d + wD v
def wSum (M : gM) (lv nf d v j : Nat) : Int32 := sumS M lv nf d j + (if v = 0 then 0 else wD v * M 414 (3 * (6 * lv + wF v) + j))
theorem way_n : ∀ n, n < 65 → nI n / 13 = nI (n / 13) ∧ nI n - nI n / 13 * 13 = nI (n % 13) := by decide +kernel
theorem way_v : ∀ v, v < 13 → 0 < v → (nI v - 1) - (nI v - 1) / 6 * 6 = nI (wF v) ∧ wF v < 6 ∧ ((6 : Int32) < nI v ↔ 6 < v) ∧ ¬ nI v = 0 := by decide +kernel
section WY
variable {D Q q ld lv nf nd ng ne : Nat} {M M' M1 Mc Mb : gM} {L : gL} {r : Nat → Int32}
theorem man_in (h : Lnd ld lv nf nd ng ne M) {d : Nat} (hd : d < nd) : ∃ m, 1 ≤ m ∧ m ≤ 6 ∧ manS M lv nf d = nI m := by
  have h6 := h.nf6
  obtain ⟨_, A, hA, h1, h2⟩ := h.2.2.2.2.1.2.1.1 d hd
  refine ⟨A 0 + A 1 + A 2 + A 3 + A 4 + A 5, h1, h2, ?_⟩
  have e1 : sm (fun f => M 417 (6 * (5 * lv + d) + f)) (nf + (6 - nf)) = sm (fun f => M 417 (6 * (5 * lv + d) + f)) nf := sm_z (6 - nf) (fun k a b => by
    obtain ⟨_, z1, z2⟩ := hA k (by omega)
    show M 417 (6 * (5 * lv + d) + k) = 0
    rw [z1, show A k = 0 by omega]; rfl)
  rw [show nf + (6 - nf) = 6 by omega] at e1
  unfold manS
  rw [← e1]
  show (0 : Int32) + M 417 (6 * (5 * lv + d) + 0) + M 417 (6 * (5 * lv + d) + 1) + M 417 (6 * (5 * lv + d) + 2) + M 417 (6 * (5 * lv + d) + 3) + M 417 (6 * (5 * lv + d) + 4) + M 417 (6 * (5 * lv + d) + 5) = _
  rw [(hA 0 (by decide)).2.1, (hA 1 (by decide)).2.1, (hA 2 (by decide)).2.1, (hA 3 (by decide)).2.1, (hA 4 (by decide)).2.1, (hA 5 (by decide)).2.1, Int32.zero_add, nI_add, nI_add, nI_add, nI_add, nI_add]
theorem m_isFoodN (h : Lnd ld lv nf nd ng ne M) {f : Nat} (hf : f < 6) : F_Mod_isFood (nI f) M = some (if f < nf then 1 else 0) := by
  have h6 := h.nf6
  have h1 := h.l1
  unfold F_Mod_isFood
  rw [h.l18, if_neg (nI_in (by omega) (by omega)), nI_clamp (by omega), h.mf, one_in_eq _ (by omega)]
  unfold F_Main_isOne
  rw [if_neg (nI_pos (by omega))]
  by_cases w : f < nf
  · rw [if_neg (by rw [nI_leI (by omega) (by omega)]; omega), if_pos w, bI_s, if_pos (Or.inr rfl)]
  · rw [if_pos (by rw [nI_leI (by omega) (by omega)]; omega), if_neg w, bI_s, if_pos (Or.inl rfl)]
theorem wOk_f {d v : Nat} (h : ¬ (v = 0 ∨ (wF v < nf ∧ (v ≤ 6 ∨ (M 417 (6 * (5 * lv + d) + wF v) ≠ 0 ∧ 2 ≤ manS M lv nf d))))) : wOk M lv nf d v = false := decide_eq_false h
theorem wOk_t {d v : Nat} (h : v = 0 ∨ (wF v < nf ∧ (v ≤ 6 ∨ (M 417 (6 * (5 * lv + d) + wF v) ≠ 0 ∧ 2 ≤ manS M lv nf d)))) : wOk M lv nf d v = true := decide_eq_true h
/-- the model fills the pot with a way -/
theorem m_fillsWay (h : Lnd ld lv nf nd ng ne M) {d v : Nat} (hd : d < nd) (hv : v < 13) : ∃ A, F_Mod_fillsWay (nI (13 * d + v)) M = some (if wOk M lv nf d v = true then 1 else 0, A) ∧ (∀ c j, c ≠ 438 → A c j = M c j) ∧ (wOk M lv nf d v = true → ∀ i, i < 6 → A 438 i = if v ≠ 0 ∧ i = wF v then potD M lv nf d i + wD v else potD M lv nf d i) := by
  have h6 := h.nf6
  have h5 := h.nd5
  obtain ⟨n1, n2⟩ := way_n (13 * d + v) (by omega)
  rw [n1, show (13 * d + v) / 13 = d by omega, show (13 * d + v) % 13 = v by omega] at n2
  rw [show (13 * d + v) / 13 = d by omega] at n1
  unfold F_Mod_fillsWay
  rw [n1, m_fillsPot h hd, bI_s, nmI_e, n2]
  have f1 : ∀ c j, c ≠ 438 → fl M 438 0 6 (potD M lv nf d) c j = M c j := fun c j w => fl_out (by omega)
  have p1 : ∀ i, i < 6 → fl M 438 0 6 (potD M lv nf d) 438 i = potD M lv nf d i := fun i hi => by rw [fl_in (by omega), Nat.sub_zero]
  generalize fl M 438 0 6 (potD M lv nf d) = N at f1 p1 ⊢
  have hN : Lnd ld lv nf nd ng ne N := h.kQ (fun c j w => f1 c j (by unfold mQ at w; omega))
  by_cases v0 : v = 0
  · rw [v0, if_pos (show nI 0 = 0 from rfl), wOk_t (Or.inl rfl), if_pos rfl]
    exact ⟨N, rfl, f1, fun _ i hi => by rw [if_neg (fun z => z.1 rfl)]; exact p1 i hi⟩
  obtain ⟨t1, t2, t3, t4⟩ := way_v v hv (by omega)
  rw [if_neg t4, nmI_e, t1, m_isFoodN hN t2, bI_s]
  by_cases wf : wF v < nf
  rotate_left
  · rw [if_neg wf, if_pos rfl, wOk_f (fun z => by omega), if_neg (by decide)]
    exact ⟨N, rfl, f1, fun z => nomatch z⟩
  rw [if_pos wf, if_neg (by decide)]
  have gd : ¬ (nI (wF v) < 0 ∨ 6 ≤ (nI (wF v)).toNatClampNeg) := nI_in (by omega) (by omega)
  have gc : (nI (wF v)).toNatClampNeg = wF v := nI_clamp (by omega)
  have pw : N 438 (wF v) = M 417 (6 * (5 * lv + d) + wF v) := by
    rw [p1 _ t2]; unfold potD; rw [if_pos wf]
  by_cases v6 : v ≤ 6
  · rw [if_neg (fun z => by rw [t3] at z; omega), if_neg gd, if_neg gd, gc, nmM_e, wOk_t (Or.inr ⟨wf, Or.inl v6⟩), if_pos rfl]
    refine ⟨_, rfl, fun c j w => by rw [uM_diff (by omega)]; exact f1 c j w, fun _ i hi => ?_⟩
    by_cases wi : i = wF v
    · rw [if_pos ⟨v0, wi⟩, wi, uM_same, p1 _ t2]
      unfold wD
      rw [if_neg v0, if_pos v6]
    · rw [if_neg (fun z => wi z.2), uM_diff (by omega)]; exact p1 i hi
  rw [if_pos (by rw [t3]; omega), if_neg gd, gc, pw]
  by_cases w0 : M 417 (6 * (5 * lv + d) + wF v) = 0
  · rw [if_pos w0, wOk_f (fun z => by
      rcases z with z | ⟨_, z | ⟨z, _⟩⟩
      · omega
      · omega
      · exact z w0), if_neg (by decide)]
    exact ⟨N, rfl, f1, fun z => nomatch z⟩
  have hm : F_Mod_potMany N = some (manS M lv nf d) := by
    have pN : ∀ f, f < 6 → N 438 f = potD N lv nf d f := fun f hf => by
      rw [p1 f hf]; unfold potD; rw [f1 417 _ (by decide)]
    rw [m_potMany, potD_man pN h6, manS_k (fun c j a b => f1 c j (by omega))]
  rw [if_neg w0, hm, bI_s]
  by_cases w2 : 2 ≤ manS M lv nf d
  · have gd2 : ¬ (nI (wF v) < 0 ∨ 6 ≤ wF v) := not_or.mpr ⟨nI_pos (by omega), by omega⟩
    rw [if_pos w2, if_neg gd2, if_neg gd2, nmM_e, wOk_t (Or.inr ⟨wf, Or.inr ⟨w0, w2⟩⟩), if_pos rfl]
    refine ⟨_, rfl, fun c j w => by rw [uM_diff (by omega)]; exact f1 c j w, fun _ i hi => ?_⟩
    by_cases wi : i = wF v
    · rw [if_pos ⟨v0, wi⟩, wi, uM_same]
      unfold potD wD
      rw [if_pos wf, if_neg v0, if_neg v6, Int32.sub_eq_add_neg]
    · rw [if_neg (fun z => wi z.2), uM_diff (by omega)]; exact p1 i hi
  · rw [if_neg w2, wOk_f (fun z => by
      rcases z with z | ⟨_, z | ⟨_, z⟩⟩
      · omega
      · omega
      · exact w2 z), if_neg (by decide)]
    exact ⟨N, rfl, f1, fun z => nomatch z⟩
/-- the force of a way -/
def wFo (M : gM) (lv nf d v : Nat) (kind heat day : Int32) : Int32 := potS M lv kind (wSum M lv nf d v kind.toInt.toNat) heat (wMan M lv nf d v) day
theorem m_wayForce (h : Lnd ld lv nf nd ng ne M) {d v j : Nat} {heat : Int32} (hv : v < 13) (hw : wOk M lv nf d v = true) (hp : ∀ i, i < 6 → M 438 i = if v ≠ 0 ∧ i = wF v then potD M lv nf d i + wD v else potD M lv nf d i) (hj : j < 3) : ∃ M', F_Mod_forceBy (nI j) heat M = some (wFo M lv nf d v (nI j) heat (M 437 35), M') ∧ Eo mV M M' := by
  have h6 := h.nf6
  obtain ⟨M', e1, e2⟩ := m_forceBy h (j := j) (heat := heat) hj
  refine ⟨M', ?_, e2⟩
  rw [e1]
  unfold wFo
  rw [nI_tn (by omega)]
  have e3 : sm (potD M lv nf d) (nf + (6 - nf)) = sm (potD M lv nf d) nf := sm_z (6 - nf) (fun k a b => by unfold potD; rw [if_neg (by omega)])
  rw [show nf + (6 - nf) = 6 by omega] at e3
  have e4 : sm (potD M lv nf d) 6 = manS M lv nf d := by
    rw [e3]
    unfold manS
    exact sm_c nf (fun k hk => by unfold potD; rw [if_pos hk])
  have e5 : sm (fun f => potD M lv nf d f * M 414 (3 * (6 * lv + f) + j)) nf = sumS M lv nf d j := by
    unfold sumS
    exact sm_c nf (fun k hk => by unfold potD; rw [if_pos hk])
  by_cases v0 : v = 0
  · have p0 : ∀ i, i < 6 → M 438 i = potD M lv nf d i := fun i hi => by rw [hp i hi, if_neg (fun z => z.1 v0)]
    have a1 : sm (M 438) 6 = wMan M lv nf d v := by
      rw [sm_c 6 p0, e4]
      unfold wMan wD
      rw [if_pos v0, Int32.add_zero]
    have a2 : sm (fun f => M 438 f * M 414 (3 * (6 * lv + f) + j)) nf = wSum M lv nf d v j := by
      rw [sm_c nf (g' := fun f => potD M lv nf d f * M 414 (3 * (6 * lv + f) + j)) (fun k hk => by rw [p0 k (by omega)]), e5]
      unfold wSum
      rw [if_pos v0, Int32.add_zero]
    rw [a1, a2]
  · obtain ⟨t1, t2, t3, t4⟩ := way_v v hv (by omega)
    have wf : wF v < nf := by
      have := of_decide_eq_true hw
      rcases this with z | ⟨z, _⟩
      · exact absurd z v0
      · exact z
    have a1 : sm (M 438) 6 = wMan M lv nf d v := by
      rw [sm_c 6 (g' := fun i => if i = wF v then potD M lv nf d i + wD v else potD M lv nf d i) (fun k hk => by
        rw [hp k hk]
        by_cases w : k = wF v
        · rw [if_pos ⟨v0, w⟩, if_pos w]
        · rw [if_neg (fun z => w z.2), if_neg w])]
      rw [sm_u (g := potD M lv nf d) (x := wF v) (e := wD v) (by rw [if_pos rfl]) (fun k hk => by rw [if_neg hk]) 6, if_pos t2, e4]
      rfl
    have a2 : sm (fun f => M 438 f * M 414 (3 * (6 * lv + f) + j)) nf = wSum M lv nf d v j := by
      rw [sm_c nf (g' := fun f => if f = wF v then potD M lv nf d f * M 414 (3 * (6 * lv + f) + j) + wD v * M 414 (3 * (6 * lv + wF v) + j) else potD M lv nf d f * M 414 (3 * (6 * lv + f) + j)) (fun k hk => by
        rw [hp k (by omega)]
        by_cases w : k = wF v
        · rw [if_pos ⟨v0, w⟩, if_pos w, Int32.add_mul, w]
        · rw [if_neg (fun z => w z.2), if_neg w])]
      rw [sm_u (g := fun f => potD M lv nf d f * M 414 (3 * (6 * lv + f) + j)) (x := wF v) (e := wD v * M 414 (3 * (6 * lv + wF v) + j)) (by rw [if_pos rfl]) (fun k hk => by rw [if_neg hk]) nf, if_pos wf, e5]
      unfold wSum
      rw [if_neg v0]
    rw [a1, a2]
end WY
end PAR47
