/-! sure: the only dish among the ways kept -/
section PAR52
def sureS : List Nat → Int32
  | [] => -2
  | x :: t => if t.all (fun y => y / 13 == x / 13) = true then nI (x / 13) else -2
section SR
variable {D Q q ld lv nf nd ng ne : Nat} {M M' M1 Mc Mb : gM} {L : gL} {r : Nat → Int32}
theorem wl_pre (W : Nat → Bool) (n : Nat) : ∀ m, ∃ t, wl W (n + m) = wl W n ++ t
  | 0 => ⟨[], by rw [List.append_nil]; rfl⟩
  | m + 1 => by
    obtain ⟨t, e⟩ := wl_pre W n m
    show ∃ t, (if W (n + m) = true then wl W (n + m) ++ [n + m] else wl W (n + m)) = _
    by_cases w : W (n + m) = true
    · rw [if_pos w, e]; exact ⟨t ++ [n + m], by rw [List.append_assoc]⟩
    · rw [if_neg w, e]; exact ⟨t, rfl⟩
theorem wl_lt (W : Nat → Bool) : ∀ n x, x ∈ wl W n → x < n
  | 0, x, h => by cases h
  | n + 1, x, h => by
    have h' : x ∈ (if W n = true then wl W n ++ [n] else wl W n) := h
    by_cases w : W n = true
    · rw [if_pos w, List.mem_append] at h'
      rcases h' with h' | h'
      · have := wl_lt W n x h'; omega
      · rw [List.mem_singleton] at h'; omega
    · rw [if_neg w] at h'
      have := wl_lt W n x h'; omega
theorem c_only {l : List Nat} {N : gM} (hR : Rw M lv nf l N) (hl : l.length ≤ 65) (hx : ∀ x, x ∈ l → x < 65) : F_Told_onlyDish N = some (sureS l) := by
  unfold F_Told_onlyDish
  match l, hR, hl, hx with
  | [], hR, _, _ =>
    obtain ⟨g, hg⟩ := FU_k 1 (by omega)
    rw [hg]
    show B_Told_onlyDish_2 N (H_Told_onlyDish_2 N g) 1 = _
    unfold B_Told_onlyDish_2 J_Told_onlyDish_38
    rw [hR.1, if_pos (by decide), if_pos (by decide)]
    rfl
  | x :: t, hR, hl, hx =>
    have hx0 : x < 65 := hx x (List.mem_cons_self ..)
    have key : ∀ (rest p : List Nat) (f : Nat), t = p ++ rest → H_Told_onlyDish_2 N (f + 1 + rest.length) (nI (p.length + 1)) = some (if rest.all (fun y => y / 13 == x / 13) = true then nI (x / 13) else -2) := by
      intro rest
      induction rest with
      | nil =>
        intro p f ht
        have e1 : p.length = t.length := by rw [ht, List.append_nil]
        show B_Told_onlyDish_2 N (H_Told_onlyDish_2 N f) (nI (p.length + 1)) = _
        unfold B_Told_onlyDish_2 J_Told_onlyDish_38
        have hl2 : t.length + 1 ≤ 65 := hl
        rw [hR.1, if_pos (by rw [List.length_cons, nI_leI (by omega) (by omega)]; omega), if_neg (by rw [List.length_cons, show (0 : Int32) = nI 0 from rfl, nI_leI (by omega) (by omega)]; omega), show F_Main_at 387 65 0 N = some (N 387 0) from s_at (i := 0) (by decide) (by decide), bI_s, (hR.2 0 (by rw [List.length_cons]; omega)).1]
        rfl
      | cons y rest ih =>
        intro p f ht
        have hl2 : t.length + 1 ≤ 65 := hl
        have e1 : t.length = p.length + (rest.length + 1) := by rw [ht, List.length_append, List.length_cons]
        have eg : (x :: t).getD (p.length + 1) 0 = y := by
          rw [ht]
          simp only [List.getD_eq_getElem?_getD, List.getElem?_cons_succ, List.getElem?_append_right (Nat.le_refl _), Nat.sub_self, List.getElem?_cons_zero]
          rfl
        have hy : y < 65 := hx y (List.mem_cons_of_mem _ (by rw [ht]; exact List.mem_append_right _ (List.mem_cons_self ..)))
        have r1 : N 387 (p.length + 1) = nI (y / 13) := by rw [(hR.2 (p.length + 1) (by rw [List.length_cons]; omega)).1, eg]
        have r0 : N 387 0 = nI (x / 13) := (hR.2 0 (by rw [List.length_cons]; omega)).1
        have hn := ih (p ++ [y]) f (by rw [ht, List.append_assoc]; rfl)
        rw [List.length_append] at hn
        show B_Told_onlyDish_2 N (H_Told_onlyDish_2 N (f + 1 + rest.length)) (nI (p.length + 1)) = _
        unfold B_Told_onlyDish_2
        rw [hR.1, if_neg (by rw [List.length_cons, nI_leI (by omega) (by omega)]; omega), s_at (by omega) (by decide), bI_s, show F_Main_at 387 65 0 N = some (N 387 0) from s_at (i := 0) (by decide) (by decide), bI_s, r1, r0, nmI_e, nI_1, List.all_cons]
        by_cases w : y / 13 = x / 13
        · rw [if_pos (by rw [w]), show (y / 13 == x / 13) = true by rw [w]; exact beq_self_eq_true _, Bool.true_and]
          exact hn
        · rw [if_neg (fun z => w ((nI_eq (by omega) (by omega)).mp z)), show (y / 13 == x / 13) = false from beq_eq_false_iff_ne.mpr w, Bool.false_and, if_neg (by decide)]
    obtain ⟨g, hg⟩ := FU_k (1 + t.length) (by have : t.length + 1 ≤ 65 := hl; omega)
    rw [hg, ← Nat.add_assoc]
    exact key t [] g rfl
/-- what the model has found so far -/
def Sf (l : List Nat) (v : Int32) : Prop := (l = [] ∧ v = -1) ∨ ∃ x t, l = x :: t ∧ t.all (fun y => y / 13 == x / 13) = true ∧ x < 65 ∧ v = nI (x / 13)
theorem m_sure (hL : Lnd ld lv nf nd ng ne M) (hT : Td M) {k : Nat} {day : Int32} (hk : ∃ n, n ≤ 20 ∧ M 401 64 = nI n ∧ k ≤ n) (e35 : M 437 35 = day) : ∀ (s n f : Nat) (N : gM) (v : Int32), n + s = 13 * nd → Eo mP8 M N → Sf (wl (wK M lv nf k day) n) v → ∃ X, H_Mod_sure_22 (nI k) (f + 1 + s) v (nI n) N = some (sureS (wl (wK M lv nf k day) (13 * nd)), X) := by
  have h5 := hL.nd5
  have h1 := hL.l1
  intro s
  induction s with
  | zero =>
    intro n f N v hn eN hv
    obtain rfl : n = 13 * nd := by omega
    have hN := hL.kQ (mP8_Q eN)
    refine ⟨N, ?_⟩
    show B_Mod_sure_22 (nI k) (H_Mod_sure_22 (nI k) f) v (nI (13 * nd)) N = _
    unfold B_Mod_sure_22 J_Mod_sure_76
    rw [hN.l18, if_neg (nI_in (by omega) (by omega)), nI_clamp (by omega), hN.md, show (13 : Int32) = nI 13 from rfl, nI_mul, if_pos (by rw [nI_leI (by omega) (by omega)]; omega)]
    rcases hv with ⟨e, ev⟩ | ⟨x, t, e, ha, hx, ev⟩
    · rw [e, ev, if_neg (by decide)]; rfl
    · rw [e, ev, if_pos (nI_pos' (by omega))]
      show _ = some ((if t.all (fun y => y / 13 == x / 13) = true then nI (x / 13) else -2), N)
      rw [if_pos ha]
  | succ s ih =>
    intro n f N v hn eN hv
    have hN := hL.kQ (mP8_Q eN)
    obtain ⟨X, y1, y2⟩ := m_isWay hL hT hk e35 (n := n) (by omega) eN
    obtain ⟨n1, -⟩ := way_n n (by omega)
    have e0 : H_Mod_sure_22 (nI k) (f + 1 + (s + 1)) v (nI n) N = (if wK M lv nf k day n = true then (if v < 0 then H_Mod_sure_22 (nI k) (f + 1 + s) (nI (n / 13)) (nI (n + 1)) X else if v = nI (n / 13) then H_Mod_sure_22 (nI k) (f + 1 + s) (nI (n / 13)) (nI (n + 1)) X else some (-2, X)) else H_Mod_sure_22 (nI k) (f + 1 + s) v (nI (n + 1)) X) := by
      show B_Mod_sure_22 (nI k) (H_Mod_sure_22 (nI k) (f + 1 + s)) v (nI n) N = _
      generalize H_Mod_sure_22 (nI k) (f + 1 + s) = H
      unfold B_Mod_sure_22 J_Mod_sure_65 J_Mod_sure_70
      rw [hN.l18, if_neg (nI_in (by omega) (by omega)), nI_clamp (by omega), hN.md, show (13 : Int32) * nI nd = nI (13 * nd) from nI_mul .., if_neg (by rw [nI_leI (by omega) (by omega)]; omega), y1, bI2_s, n1, nmI_e, nmI_e, nmI_e, nI_1]
      by_cases w : wK M lv nf k day n = true
      · rw [if_pos w, if_neg (by decide), if_pos w]
      · rw [if_neg w, if_pos rfl, if_neg w]
    rw [e0]
    have hu : wl (wK M lv nf k day) (n + 1) = if wK M lv nf k day n = true then wl (wK M lv nf k day) n ++ [n] else wl (wK M lv nf k day) n := rfl
    by_cases w : wK M lv nf k day n = true
    rotate_left
    · rw [if_neg w] at hu ⊢
      exact ih (n + 1) f X v (by omega) y2 (by rw [hu]; exact hv)
    rw [if_pos w] at hu ⊢
    rcases hv with ⟨e, ev⟩ | ⟨x, t, e, ha, hx, ev⟩
    · rw [ev, if_pos (by decide)]
      exact ih (n + 1) f X (nI (n / 13)) (by omega) y2 (Or.inr ⟨n, [], by rw [hu, e]; rfl, rfl, by omega, rfl⟩)
    · rw [if_neg (by rw [ev]; exact nI_pos (by omega))]
      by_cases z : x / 13 = n / 13
      · rw [ev, if_pos (by rw [z])]
        refine ih (n + 1) f X (nI (n / 13)) (by omega) y2 (Or.inr ⟨x, t ++ [n], by rw [hu, e]; rfl, ?_, hx, by rw [z]⟩)
        rw [List.all_append, ha, List.all_cons, show (n / 13 == x / 13) = true by rw [z]; exact beq_self_eq_true _]
        rfl
      · rw [if_neg (by rw [ev]; exact fun q => z ((nI_eq (by omega) (by omega)).mp q))]
        refine ⟨X, ?_⟩
        obtain ⟨u, eu⟩ := wl_pre (wK M lv nf k day) (n + 1) s
        rw [show n + 1 + s = 13 * nd by omega, hu, e] at eu
        rw [eu]
        show _ = some ((if ((t ++ [n]) ++ u).all (fun y => y / 13 == x / 13) = true then nI (x / 13) else -2), X)
        rw [List.all_append, List.all_append, List.all_cons, show (n / 13 == x / 13) = false from beq_eq_false_iff_ne.mpr (fun q => z q.symm), Bool.false_and, Bool.and_false, Bool.false_and, if_neg (by decide)]
theorem v_sure (h : G1 q ld M L) (hq : q < 512) (a : Int32) : ∃ r M1 r' M2, F_Main_sure ld a M = some (r, M1) ∧ F_Mod_sure a M1 = some (r', M2) ∧ G1 (q + 1) ld M2 L ∧ r = r' := by
  obtain ⟨r, M1, e1, -, k1⟩ := tf_Main_sure (p1 := a) (M := M) h.1.la
  have g1 := h.1.kC1 k1
  obtain ⟨r', M2, e2, -, k2⟩ := tf_Mod_sure (p0 := a) g1.inv
  refine ⟨r, M1, r', M2, e1, e2, h.q2 (g1.kM1 k2) k1 k2, ?_⟩
  obtain ⟨lv, nf, nd, ng, ne, hL, hS⟩ := h.get
  obtain ⟨hL1, m1, Mc, x1, x2, x3, hLc, mc⟩ := cop hL k1
  have hT : Td M := h.1.2.2.2.2.2.2.2.1
  have hT1 : Td M1 := g1.2.2.2.2.2.2.2.1
  obtain ⟨n, t1, t2, t3, t4⟩ := id hT
  have h5 := hL.nd5
  unfold F_Main_sure at e1
  unfold F_Mod_sure at e2
  rw [t2, nI_1] at e1
  rw [m1 401 64 (by decide), t3] at e2
  rcases one_in0 a (n := n) (by omega) with ⟨d1, d2⟩ | ⟨k, hk, rfl, d1, d2⟩
  · rw [d1, bI_s, if_pos rfl] at e1
    rw [d2, bI_s, if_pos rfl] at e2
    exact pair_fin e1 e2 rfl
  obtain ⟨X, y1, y2, y3⟩ := c_gather hL hT (day := M 436 35) ⟨n, t1, t2, hk⟩
  have ln := wl_len (wK M lv nf k (M 436 35)) (13 * nd)
  have c0 := c_only y3 (by omega) (fun x hx => by have := wl_lt _ _ x hx; omega)
  rw [d1, bI_s, if_neg (by decide), hS.1.d0, y1, bI_s, c0, bI_s] at e1
  rw [d2, bI_s, if_neg (by decide), x1, bI_s] at e2
  obtain ⟨Mq, w1, w2, w3, w4⟩ := m_copies hL1
  have eMq : Mq = Mc := Option.some.inj (w1.symm.trans x1)
  rw [eMq] at w4
  have hTc : Td Mc := hT1.keep2 (w4 383 3 (by unfold mQ; omega)) (w4 401 64 (by unfold mQ; omega)) (fun c j w => w4 c j (by unfold mQ; omega))
  have c64 : Mc 401 64 = nI n := by rw [w4 401 64 (by unfold mQ; omega), m1 401 64 (by decide), t3]
  obtain ⟨f, hf⟩ := FU_k (1 + 13 * nd) (by omega)
  obtain ⟨Y, z1⟩ := m_sure hLc hTc (k := k) (day := M 436 35) ⟨n, t1, c64, hk⟩ (x2 35 (by omega)) (13 * nd) 0 f Mc (-1) (Nat.zero_add _) Eo.rf (Or.inl ⟨rfl, rfl⟩)
  have c2 : H_Mod_sure_22 (nI k) FU (-1) 0 Mc = some (sureS (wl (wK Mc lv nf k (M 436 35)) (13 * nd)), Y) := by rw [hf, ← Nat.add_assoc]; exact z1
  rw [c2] at e2
  have hW : wK Mc lv nf k (M 436 35) = wK M lv nf k (M 436 35) := funext fun n => by
    unfold wK
    rw [wOk_k mc, kP_k mc (fun c j a b => by rw [w4 c j (by unfold mQ; omega), m1 c j (by omega)])]
  rw [hW] at e2
  exact pair_fin e1 e2 rfl
end SR
end PAR52
