/-! the state: the class's and the model's row -/
section PAR34
/-- a class's state at X as a row r of the model tells it: the day D at most, Q meals at most -/
def St (D Q nf X : Nat) (r : Nat → Int32) (M : gM) : Prop :=
  (∃ day, day ≤ D ∧ M X 0 = nI day ∧ r 35 = nI day ∧ ∀ g, g < 4 → ∃ ml, ml ≤ Q ∧ M (X + 4) g = nI ml ∧ r (31 + g) = nI ml ∧ ((ml = 0 ∧ r (15 + g) = -2) ∨ (0 < ml ∧ ∃ e, e ≤ day ∧ M (X + 5) g = nI e ∧ r (15 + g) = nI e))) ∧
  M X 1 = r 36 ∧ M X 2 = r 37 ∧ M X 3 = r 11 ∧ (∀ j, j < 3 → M (X + 1) j = r (12 + j)) ∧
  (∀ f, f < 6 → ∃ x, x ≤ 99 ∧ M (X + 2) f = nI x ∧ r f = nI x ∧ (nf ≤ f → x = 0)) ∧ (∀ d, d < 5 → M (X + 3) d = r (6 + d)) ∧ (∀ i, i < 12 → M (X + 6) i = r (19 + i))
theorem St.cp {D Q D' Q' nf X X' : Nat} {r r' : Nat → Int32} {M M' : gM} (h : St D Q nf X r M) (hD : D ≤ D') (hQ : Q ≤ Q') (a0 : ∀ j, j < 4 → M' X' j = M X j) (a1 : ∀ j, j < 3 → M' (X' + 1) j = M (X + 1) j) (a2 : ∀ j, j < 6 → M' (X' + 2) j = M (X + 2) j) (a3 : ∀ j, j < 5 → M' (X' + 3) j = M (X + 3) j) (a4 : ∀ j, j < 4 → M' (X' + 4) j = M (X + 4) j) (a5 : ∀ j, j < 4 → M' (X' + 5) j = M (X + 5) j) (a6 : ∀ j, j < 12 → M' (X' + 6) j = M (X + 6) j) (b : ∀ k, k < 38 → r' k = r k) : St D' Q' nf X' r' M' := by
  obtain ⟨⟨day, d1, d2, d3, d4⟩, h1, h2, h3, h4, h5, h6, h7⟩ := h
  refine ⟨⟨day, by omega, by rw [a0 0 (by omega)]; exact d2, by rw [b 35 (by omega)]; exact d3, fun g hg => ?_⟩, by rw [a0 1 (by omega), b 36 (by omega)]; exact h1, by rw [a0 2 (by omega), b 37 (by omega)]; exact h2, by rw [a0 3 (by omega), b 11 (by omega)]; exact h3, fun j hj => by rw [a1 j hj, b _ (by omega)]; exact h4 j hj, fun f hf => ?_, fun d hd => by rw [a3 d hd, b _ (by omega)]; exact h6 d hd, fun i hi => by rw [a6 i hi, b _ (by omega)]; exact h7 i hi⟩
  · obtain ⟨ml, m1, m2, m3, m4⟩ := d4 g hg
    refine ⟨ml, by omega, by rw [a4 g hg]; exact m2, by rw [b _ (by omega)]; exact m3, ?_⟩
    rw [a5 g hg, b (15 + g) (by omega)]
    exact m4
  · rw [a2 f hf, b f (by omega)]
    exact h5 f hf
theorem St.mono {D Q D' Q' nf X : Nat} {r : Nat → Int32} {M : gM} (h : St D Q nf X r M) (hD : D ≤ D') (hQ : Q ≤ Q') : St D' Q' nf X r M := h.cp hD hQ (fun _ _ => rfl) (fun _ _ => rfl) (fun _ _ => rfl) (fun _ _ => rfl) (fun _ _ => rfl) (fun _ _ => rfl) (fun _ _ => rfl) (fun _ _ => rfl)
theorem St.keep {D Q nf X : Nat} {r r' : Nat → Int32} {M M' : gM} (h : St D Q nf X r M) (e : ∀ c j, X ≤ c → c < X + 7 → M' c j = M c j) (b : ∀ k, k < 38 → r' k = r k) : St D Q nf X r' M' := h.cp (Nat.le_refl _) (Nat.le_refl _) (fun _ _ => e _ _ (by omega) (by omega)) (fun _ _ => e _ _ (by omega) (by omega)) (fun _ _ => e _ _ (by omega) (by omega)) (fun _ _ => e _ _ (by omega) (by omega)) (fun _ _ => e _ _ (by omega) (by omega)) (fun _ _ => e _ _ (by omega) (by omega)) (fun _ _ => e _ _ (by omega) (by omega)) b
/-- by how much a guest is bound, so many days ahead -/
def bowS (M : gM) (lv : Nat) (r : Nat → Int32) (g j : Nat) (ahead : Int32) : Int32 := if 0 ≤ r (15 + g) then bndS M lv g (nI j) (r (19 + 3 * g + j)) (r 35 - r (15 + g) + ahead) (r 35 + ahead) else 0
def frS (M : gM) (lv : Nat) (b : Nat → Int32) : Nat → Int32
  | 0 => 0
  | e + 1 => if M 422 (6 * lv + e) ≤ b (M 421 (6 * lv + e)).toInt.toNat then frS M lv b e else frS M lv b e ||| (1 <<< (nI e &&& 31))
def frK (M : gM) (lv j : Nat) (b : Int32) : Nat → Int32
  | 0 => 0
  | e + 1 => if M 421 (6 * lv + e) = nI j then (if M 422 (6 * lv + e) ≤ b then frK M lv j b e else frK M lv j b e ||| (1 <<< (nI e &&& 31))) else frK M lv j b e
section STA
variable {D Q ld lv nf nd ng ne X : Nat} {M M' : gM} {r : Nat → Int32}
theorem bowS_k (e : ∀ c j, 411 ≤ c → c ≤ 432 → M' c j = M c j) {g j : Nat} {a : Int32} : bowS M' lv r g j a = bowS M lv r g j a := by unfold bowS; rw [bndS_k e]
theorem frS_k (e : ∀ c j, 411 ≤ c → c ≤ 432 → M' c j = M c j) {b : Nat → Int32} : ∀ n, frS M' lv b n = frS M lv b n
  | 0 => rfl
  | n + 1 => by unfold frS; rw [frS_k e n, e 421 _ (by decide) (by decide), e 422 _ (by decide) (by decide)]
theorem frK_k (e : ∀ c j, 411 ≤ c → c ≤ 432 → M' c j = M c j) {j : Nat} {b : Int32} : ∀ n, frK M' lv j b n = frK M lv j b n
  | 0 => rfl
  | n + 1 => by unfold frK; rw [frK_k e n, e 421 _ (by decide) (by decide), e 422 _ (by decide) (by decide)]
theorem frS_b {b b' : Nat → Int32} (h : ∀ j, j < 3 → b j = b' j) (hk : ∀ e, e < ne → ∃ x, x ≤ 2 ∧ M 421 (6 * lv + e) = nI x) : ∀ n, n ≤ ne → frS M lv b n = frS M lv b' n
  | 0, _ => rfl
  | n + 1, hn => by
    obtain ⟨x, hx, e⟩ := hk n (by omega)
    unfold frS
    rw [frS_b h hk n (by omega), e, nI_tn (by omega), h x (by omega)]
/-- what is free by the three forces, together -/
theorem fr3 (h : Lnd ld lv nf nd ng ne M) {b : Nat → Int32} : ∀ n, n ≤ ne → 0 ||| frK M lv 0 (b 0) n ||| frK M lv 1 (b 1) n ||| frK M lv 2 (b 2) n = frS M lv b n
  | 0, _ => (by decide : (0 : Int32) ||| 0 ||| 0 ||| 0 = 0)
  | n + 1, hn => by
    have ih := fr3 h (b := b) n (by omega)
    obtain ⟨x, hx, _, e⟩ := h.df (e := n) (by omega)
    unfold frK frS
    rw [← ih, e, nI_tn (by omega)]
    generalize frK M lv 0 (b 0) n = A
    generalize frK M lv 1 (b 1) n = B
    generalize frK M lv 2 (b 2) n = C
    generalize (1 : Int32) <<< (nI n &&& 31) = t
    rcases (show x = 0 ∨ x = 1 ∨ x = 2 by omega) with q | q | q <;> subst q
    · rw [if_pos rfl, if_neg (show ¬ nI 0 = nI 1 by decide), if_neg (show ¬ nI 0 = nI 2 by decide)]
      by_cases w : M 422 (6 * lv + n) ≤ b 0
      · rw [if_pos w, if_pos w]
      · rw [if_neg w, if_neg w, ← Int32.or_assoc, Int32.or_assoc (0 ||| A) t B, Int32.or_comm t B, ← Int32.or_assoc, Int32.or_assoc (0 ||| A ||| B) t C, Int32.or_comm t C, ← Int32.or_assoc]
    · rw [if_neg (show ¬ nI 1 = nI 0 by decide), if_pos rfl, if_neg (show ¬ nI 1 = nI 2 by decide)]
      by_cases w : M 422 (6 * lv + n) ≤ b 1
      · rw [if_pos w, if_pos w]
      · rw [if_neg w, if_neg w, ← Int32.or_assoc, Int32.or_assoc (0 ||| A ||| B) t C, Int32.or_comm t C, ← Int32.or_assoc]
    · rw [if_neg (show ¬ nI 2 = nI 0 by decide), if_neg (show ¬ nI 2 = nI 1 by decide), if_pos rfl]
      by_cases w : M 422 (6 * lv + n) ≤ b 2
      · rw [if_pos w, if_pos w]
      · rw [if_neg w, if_neg w, ← Int32.or_assoc]
theorem c_freeUnder (h : Lnd ld lv nf nd ng ne M) {j : Nat} {b : Int32} (hj : j < 3) : F_Land_freeUnder ld (nI j) b M = some (frK M lv j b ne) := by
  have h6 := h.ne6
  have key : ∀ (s k f : Nat), k + s = ne → H_Land_freeUnder_5 ld (nI j) b M (f + 1 + s) (frK M lv j b k) (nI k) = some (frK M lv j b ne) := by
    intro s
    induction s with
    | zero =>
      intro k f hk
      obtain rfl : k = ne := by omega
      show B_Land_freeUnder_5 ld (nI j) b M (H_Land_freeUnder_5 ld (nI j) b M f) _ (nI k) = _
      unfold B_Land_freeUnder_5
      rw [h.ce, if_pos (by rw [nI_leI (by omega) (by omega)]; omega)]
    | succ s ih =>
      intro k f hk
      show B_Land_freeUnder_5 ld (nI j) b M (H_Land_freeUnder_5 ld (nI j) b M (f + 1 + s)) _ (nI k) = _
      obtain ⟨x, hx, e1, e2⟩ := h.df (e := k) (by omega)
      have hn := ih (k + 1) f (by omega)
      have hu : frK M lv j b (k + 1) = if M 421 (6 * lv + k) = nI j then (if M 422 (6 * lv + k) ≤ b then frK M lv j b k else frK M lv j b k ||| (1 <<< (nI k &&& 31))) else frK M lv j b k := rfl
      rw [hu, e2] at hn
      unfold B_Land_freeUnder_5 J_Land_freeUnder_47
      rw [h.ce, if_neg (by rw [nI_leI (by omega) (by omega)]; omega), s_at (by omega) (by decide), bI_s, e1, s_at (by omega) (by decide), bI_s, h.dl (by omega), nmI_e, nI_1]
      by_cases w : nI x = nI j
      · rw [if_pos w] at hn ⊢
        by_cases w2 : M 422 (6 * lv + k) ≤ b
        · rw [if_pos w2] at hn ⊢; exact hn
        · rw [if_neg w2] at hn ⊢; rw [nmI_e, nmI_e]; exact hn
      · rw [if_neg w] at hn ⊢; exact hn
  unfold F_Land_freeUnder
  obtain ⟨g, hg⟩ := FU_k (1 + ne) (by omega)
  rw [hg, ← Nat.add_assoc]
  exact key ne 0 g (Nat.zero_add _)
theorem c_hasEaten (hS : St D Q nf X r M) (hD : D < 2 ^ 31) (hQ : Q < 2 ^ 31) {g : Nat} (hg : g < 4) : F_State_hasEaten X (nI g) M = some (if 0 ≤ r (15 + g) then 1 else 0) := by
  obtain ⟨⟨day, d1, d2, d3, d4⟩, _⟩ := hS
  obtain ⟨ml, m1, m2, m3, m4⟩ := d4 g hg
  unfold F_State_hasEaten
  rw [s_at hg (by decide), bI_s, m2]
  rcases m4 with ⟨m5, m6⟩ | ⟨m5, e, m6, m7, m8⟩
  · rw [m5, m6, if_pos (by decide), if_neg (by decide)]
  · rw [m8, if_neg (nI_nle m5 (by omega)), if_pos (nI_pos' (by omega))]
theorem c_boundOf (h : Lnd ld lv nf nd ng ne M) (hS : St D Q nf X r M) (hD : D < 2 ^ 31) (hQ : Q < 2 ^ 31) {g j : Nat} {ahead : Int32} (hg : g < ng) (hj : j < 3) : ∃ M', F_State_boundOf X ld (nI g) (nI j) ahead M = some (bowS M lv r g j ahead, M') ∧ Kl C0 M zL M' zL := by
  have h4 := h.ng4
  have hs := id hS
  obtain ⟨⟨day, d1, d2, d3, d4⟩, s1, s2, s3, s4, s5, s6, s7⟩ := hs
  obtain ⟨ml, m1, m2, m3, m4⟩ := d4 g (by omega)
  unfold F_State_boundOf bowS
  rw [c_hasEaten hS hD hQ (by omega), bI_s]
  by_cases q : 0 ≤ r (15 + g)
  · rw [if_pos q, if_pos q, if_neg (show ¬ (1 : Int32) = 0 by decide)]
    unfold F_State_agoOf
    have e5 : M (X + 5) g = r (15 + g) := by
      rcases m4 with ⟨_, m6⟩ | ⟨_, e, _, m7, m8⟩
      · rw [m6] at q; exact absurd q (by decide)
      · rw [m7, m8]
    rw [show (3 : Int32) = nI 3 from rfl, nI_mul, nI_add, s_at (by omega) (by decide), bI_s, s_at (by omega) (by decide), bI_s, bI_s, e5, Nat.mul_comm g 3, s7 _ (by omega), d2, ← d3, ← Nat.add_assoc]
    obtain ⟨M', y1, y2⟩ := c_boundBy h (g := g) (kind := nI j) (ate := r (19 + 3 * g + j)) (ago := r 35 - r (15 + g) + ahead) (day := r 35 + ahead) hg
    rw [y1, bI2_s]
    exact ⟨M', rfl, y2⟩
  · rw [if_neg q, if_neg q, if_pos rfl]
    exact ⟨M, rfl, Kl.rf⟩
theorem C0_M {c j : Nat} (h : 64 ≤ c) (h2 : c ≠ 390) : C0 c j = false := by
  have e : scrL.contains c = false := by
    cases q : scrL.contains c with
    | false => rfl
    | true =>
      have := (by decide +kernel : ∀ x ∈ scrL, x < 64 ∨ x = 390) c (by simpa using q)
      omega
  exact C0_f e
theorem St.k0 (hS : St D Q nf X r M) (hX : isSt X) (k : Kl C0 M zL M' zL) : St D Q nf X r M' := hS.keep (fun c j a b => k.m (C0_M (by have := (by decide +kernel : ∀ X ∈ lSt, 64 ≤ X ∧ X + 7 ≤ 383) X hX; omega) (by have := (by decide +kernel : ∀ X ∈ lSt, 64 ≤ X ∧ X + 7 ≤ 383) X hX; omega))) (fun _ _ => rfl)
theorem k0_M (k : Kl C0 M zL M' zL) : ∀ c j, 411 ≤ c → c ≤ 432 → M' c j = M c j := fun c j a b => k.m (C0_M (by omega) (by omega))
theorem c_freeOf (h : Lnd ld lv nf nd ng ne M) (hS : St D Q nf X r M) (hX : isSt X) (hD : D < 2 ^ 31) (hQ : Q < 2 ^ 31) {g : Nat} {ahead : Int32} (hg : g < ng) : ∃ M', F_State_freeOf X ld (nI g) ahead M = some (frS M lv (fun j => bowS M lv r g j ahead) ne, M') ∧ Kl C0 M zL M' zL := by
  unfold F_State_freeOf
  obtain ⟨q, hq⟩ := FU_k 4 (by omega)
  rw [hq]
  have step : ∀ (N : gM) (f k : Nat) (acc : Int32), k < 3 → Kl C0 M zL N zL → ∃ N', H_State_freeOf_6 X ld (nI g) ahead (f + 1) acc (nI k) N = H_State_freeOf_6 X ld (nI g) ahead f (acc ||| frK M lv k (bowS M lv r g k ahead) ne) (nI (k + 1)) N' ∧ Kl C0 M zL N' zL := fun N f k acc hk kN => by
    show ∃ N', B_State_freeOf_6 X ld (nI g) ahead (H_State_freeOf_6 X ld (nI g) ahead f) acc (nI k) N = _ ∧ _
    unfold B_State_freeOf_6
    obtain ⟨N', y1, y2⟩ := c_boundOf (h.k0 kN) (hS.k0 hX kN) hD hQ (g := g) (j := k) (ahead := ahead) hg hk
    rw [show (3 : Int32) = nI 3 from rfl, if_neg (by rw [nI_leI (by omega) (by omega)]; omega), y1, bI2_s, c_freeUnder ((h.k0 kN).k0 y2) hk, bI_s, nmI_e, nmI_e, nI_1, bowS_k (k0_M kN), frK_k (k0_M (kN.trans y2))]
    exact ⟨N', rfl, kN.trans y2⟩
  obtain ⟨N1, y1, k1⟩ := step M (q + 3) 0 0 (by decide) Kl.rf
  obtain ⟨N2, y2, k2⟩ := step N1 (q + 2) 1 (0 ||| frK M lv 0 (bowS M lv r g 0 ahead) ne) (by decide) k1
  obtain ⟨N3, y3, k3⟩ := step N2 (q + 1) 2 (0 ||| frK M lv 0 (bowS M lv r g 0 ahead) ne ||| frK M lv 1 (bowS M lv r g 1 ahead) ne) (by decide) k2
  rw [show (H_State_freeOf_6 X ld (nI g) ahead (q + 4) 0 0 M) = H_State_freeOf_6 X ld (nI g) ahead (q + 3 + 1) 0 (nI 0) M from rfl, y1, y2, y3]
  refine ⟨N3, ?_, k3⟩
  show B_State_freeOf_6 X ld (nI g) ahead (H_State_freeOf_6 X ld (nI g) ahead q) _ (nI 3) N3 = _
  unfold B_State_freeOf_6
  rw [if_pos (by decide), fr3 h (b := fun j => bowS M lv r g j ahead) ne (Nat.le_refl _)]
theorem m_boundNow (h : Lnd ld lv nf nd ng ne M) {g j : Nat} (hg : g < 4) (hj : j < 3) : ∃ M', F_Mod_boundNow (nI g) (nI j) M = some (bowS M lv (M 437) g j 0, M') ∧ Eo mV M M' := by
  unfold F_Mod_boundNow bowS
  rw [show (15 : Int32) = nI 15 from rfl, show (19 : Int32) = nI 19 from rfl, show (3 : Int32) = nI 3 from rfl, nI_mul, nI_add, nI_add, nI_add, if_neg (nI_in (by omega) (by omega)), nI_clamp (by omega)]
  by_cases q : 0 ≤ M 437 (15 + g)
  · rw [if_pos q, if_pos q, if_neg (nI_in (by omega) (by omega)), if_neg (nI_inc (by omega) (by omega)), nI_clamp (by omega), Int32.add_zero, Int32.add_zero]
    obtain ⟨M', y1, y2⟩ := m_boundBy h (g := g) (kind := nI j) (ate := M 437 (19 + 3 * g + j)) (ago := M 437 35 - M 437 (15 + g)) hg
    rw [y1, bI2_s]
    exact ⟨M', rfl, y2⟩
  · rw [if_neg q, if_neg q]
    exact ⟨M, rfl, Eo.rf⟩
theorem mV_M (k : Eo mV M M') : ∀ c j, 411 ≤ c → c ≤ 432 → M' c j = M c j := fun c j a b => k c j (by unfold mV; omega)
theorem mQ_M (k : Eo mQ M M') : ∀ c j, 411 ≤ c → c ≤ 432 → M' c j = M c j := fun c j a b => k c j (by unfold mQ; omega)
theorem m_isFree (h : Lnd ld lv nf nd ng ne M) {g e : Nat} (hg : g < 4) (he : e < ne) : ∃ M', F_Mod_isFree (nI g) (nI e) M = some (if M 422 (6 * lv + e) ≤ bowS M lv (M 437) g (M 421 (6 * lv + e)).toInt.toNat 0 then 0 else 1, M') ∧ Eo mV M M' := by
  have h6 := h.ne6
  have h1 := h.l1
  obtain ⟨x, hx, _, e2⟩ := h.df he
  unfold F_Mod_isFree
  rw [h.l18, show (6 : Int32) = nI 6 from rfl, nI_mul, nI_add, if_neg (nI_in (by omega) (by omega)), nI_clamp (by omega), e2]
  obtain ⟨M', y1, y2⟩ := m_boundNow h (g := g) (j := x) hg (by omega)
  rw [y1, bI2_s, show M' 401 18 = nI lv from (y2 401 18 (by unfold mV; omega)).trans h.l18, nI_mul, nI_add, if_neg (nI_in (by omega) (by omega)), nI_clamp (by omega), mV_M y2 422 _ (by decide) (by decide), nI_tn (by omega)]
  by_cases q : M 422 (6 * lv + e) ≤ bowS M lv (M 437) g x 0
  · rw [if_pos q, if_pos q]; exact ⟨M', rfl, y2⟩
  · rw [if_neg q, if_neg q]; exact ⟨M', rfl, y2⟩
theorem m_freeBits (h : Lnd ld lv nf nd ng ne M) {g : Nat} (hg : g < 4) : ∃ M', F_Mod_freeBits (nI g) M = some (frS M lv (fun j => bowS M lv (M 437) g j 0) ne, M') ∧ Eo mV M M' := by
  have h6 := h.ne6
  have h1 := h.l1
  have key : ∀ (s k f : Nat) (N : gM), k + s = ne → Eo mV M N → ∃ M', H_Mod_freeBits_4 (nI g) (f + 1 + s) (frS M lv (fun j => bowS M lv (M 437) g j 0) k) (nI k) N = some (frS M lv (fun j => bowS M lv (M 437) g j 0) ne, M') ∧ Eo mV M M' := by
    intro s
    induction s with
    | zero =>
      intro k f N hk kN
      obtain rfl : k = ne := by omega
      have hN := h.kV kN
      show ∃ M', B_Mod_freeBits_4 (nI g) (H_Mod_freeBits_4 (nI g) f) _ (nI k) N = _ ∧ _
      unfold B_Mod_freeBits_4
      rw [hN.l18, if_neg (nI_in (by omega) (by omega)), nI_clamp (by omega), hN.me, if_pos (by rw [nI_leI (by omega) (by omega)]; omega)]
      exact ⟨N, rfl, kN⟩
    | succ s ih =>
      intro k f N hk kN
      have hN := h.kV kN
      obtain ⟨N', y1, y2⟩ := m_isFree hN (g := g) (e := k) hg (by omega)
      obtain ⟨M', z1, z2⟩ := ih (k + 1) f N' (by omega) (kN.tr y2)
      refine ⟨M', ?_, z2⟩
      rw [← z1]
      show B_Mod_freeBits_4 (nI g) (H_Mod_freeBits_4 (nI g) (f + 1 + s)) _ (nI k) N = _
      unfold B_Mod_freeBits_4 J_Mod_freeBits_32
      have e437 : N 437 = M 437 := funext (fun i => kN 437 i (by unfold mV; omega))
      rw [hN.l18, if_neg (nI_in (by omega) (by omega)), nI_clamp (by omega), hN.me, if_neg (by rw [nI_leI (by omega) (by omega)]; omega), y1, bI2_s, mV_M kN 421 _ (by decide) (by decide), mV_M kN 422 _ (by decide) (by decide), bowS_k (mV_M kN), e437, nmI_e, nI_1]
      have hu : frS M lv (fun j => bowS M lv (M 437) g j 0) (k + 1) = if M 422 (6 * lv + k) ≤ bowS M lv (M 437) g (M 421 (6 * lv + k)).toInt.toNat 0 then frS M lv (fun j => bowS M lv (M 437) g j 0) k else frS M lv (fun j => bowS M lv (M 437) g j 0) k ||| (1 <<< (nI k &&& 31)) := rfl
      rw [hu]
      by_cases q : M 422 (6 * lv + k) ≤ bowS M lv (M 437) g (M 421 (6 * lv + k)).toInt.toNat 0
      · rw [if_pos q, if_pos q, if_pos (show (0 : Int32) = 0 from rfl)]
      · rw [if_neg q, if_neg q, if_neg (show ¬ (1 : Int32) = 0 by decide), nmI_e, nmI_e]
  unfold F_Mod_freeBits
  obtain ⟨q, hq⟩ := FU_k (1 + ne) (by omega)
  rw [hq, ← Nat.add_assoc]
  exact key ne 0 q M (Nat.zero_add _) Eo.rf
end STA
end PAR34
