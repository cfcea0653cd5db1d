/-! what is asked, second row: deed, hunger, boundIn, stockIn -/
section PAR42
section QV
theorem gt_I {a b : Nat} (ha : a < 2 ^ 31) (hb : b < 2 ^ 31) : (nI a < nI b) ↔ a < b := by
  rw [← Int32.not_le, nI_leI hb ha]; omega
/-- bits set one by one -/
def frP (p : Nat → Bool) : Nat → Int32
  | 0 => 0
  | n + 1 => if p n then frP p n else frP p n ||| (1 <<< (nI n &&& 31))
def q6 (b0 b1 b2 b3 b4 b5 : Bool) : Nat → Bool
  | 0 => b0
  | 1 => b1
  | 2 => b2
  | 3 => b3
  | 4 => b4
  | _ => b5
theorem frP_c {p p' : Nat → Bool} : ∀ n, (∀ i, i < n → p i = p' i) → frP p n = frP p' n
  | 0, _ => rfl
  | n + 1, h => by unfold frP; rw [frP_c n (fun i hi => h i (by omega)), h n (by omega)]
theorem q6_e (p : Nat → Bool) {i : Nat} (hi : i < 6) : p i = q6 (p 0) (p 1) (p 2) (p 3) (p 4) (p 5) i := by
  rcases (show i = 0 ∨ i = 1 ∨ i = 2 ∨ i = 3 ∨ i = 4 ∨ i = 5 by omega) with q | q | q | q | q | q <;> subst q <;> rfl
theorem bit_all : ∀ b0 b1 b2 b3 b4 b5 : Bool, ∀ n, n < 7 → ∀ e, e < n → F_Main_hasBit (frP (q6 b0 b1 b2 b3 b4 b5) n) (nI e) = some (if q6 b0 b1 b2 b3 b4 b5 e then 0 else 1) := by decide +kernel
theorem frP_bit {p : Nat → Bool} {n e : Nat} (hn : n ≤ 6) (he : e < n) : F_Main_hasBit (frP p n) (nI e) = some (if p e then 0 else 1) := by
  rw [frP_c (p' := q6 (p 0) (p 1) (p 2) (p 3) (p 4) (p 5)) n (fun i hi => q6_e p (by omega)), bit_all _ _ _ _ _ _ n (by omega) e he, ← q6_e p (by omega)]
theorem bits_e (x : Int32) : F_Mod_bits x = some (0 + ((x >>> (nI 0 &&& 31)) &&& 1) + ((x >>> (nI 1 &&& 31)) &&& 1) + ((x >>> (nI 2 &&& 31)) &&& 1) + ((x >>> (nI 3 &&& 31)) &&& 1) + ((x >>> (nI 4 &&& 31)) &&& 1) + ((x >>> (nI 5 &&& 31)) &&& 1)) := by
  unfold F_Mod_bits
  obtain ⟨g, hg⟩ := FU_k 7 (by omega)
  have step : ∀ (f k : Nat) (acc : Int32), k < 6 → H_Mod_bits_4 x (f + 1) acc (nI k) = H_Mod_bits_4 x f (acc + ((x >>> (nI k &&& 31)) &&& 1)) (nI (k + 1)) := fun f k acc hk => by
    show B_Mod_bits_4 x (H_Mod_bits_4 x f) acc (nI k) = _
    unfold B_Mod_bits_4
    rw [show (6 : Int32) = nI 6 from rfl, if_neg (by rw [nI_leI (by omega) (by omega)]; omega), nmI_e, nmI_e, nI_1]
  rw [hg, show H_Mod_bits_4 x (g + 7) 0 0 = H_Mod_bits_4 x (g + 6 + 1) 0 (nI 0) from rfl, step (g + 6) 0 0 (by decide), step (g + 5) 1 _ (by decide), step (g + 4) 2 _ (by decide), step (g + 3) 3 _ (by decide), step (g + 2) 4 _ (by decide), step (g + 1) 5 _ (by decide)]
  show B_Mod_bits_4 x (H_Mod_bits_4 x g) _ (nI 6) = _
  unfold B_Mod_bits_4
  rw [if_pos (by decide)]
theorem st71 : isSt 71 := (by decide : (71 : Nat) ∈ lSt)
def bcS (x : Int32) : Int32 := 0 + ((x >>> (nI 0 &&& 31)) &&& 1) + ((x >>> (nI 1 &&& 31)) &&& 1) + ((x >>> (nI 2 &&& 31)) &&& 1) + ((x >>> (nI 3 &&& 31)) &&& 1) + ((x >>> (nI 4 &&& 31)) &&& 1) + ((x >>> (nI 5 &&& 31)) &&& 1)
theorem cnt_all : ∀ b0 b1 b2 b3 b4 b5 : Bool, ∀ n, n < 7 → F_Int_bitCount (frP (q6 b0 b1 b2 b3 b4 b5) n) = some (bcS (frP (q6 b0 b1 b2 b3 b4 b5) n)) ∧ 0 ≤ bcS (frP (q6 b0 b1 b2 b3 b4 b5) n) := by decide +kernel
variable {D Q q ld lv nf nd ng ne : Nat} {M M1 Mc : gM} {L : gL} {r : Nat → Int32}
theorem frS_P {b : Nat → Int32} : ∀ n, frS M lv b n = frP (fun e => decide (M 422 (6 * lv + e) ≤ b (M 421 (6 * lv + e)).toInt.toNat)) n
  | 0 => rfl
  | n + 1 => by
    unfold frS frP
    rw [frS_P n]
    by_cases w : M 422 (6 * lv + n) ≤ b (M 421 (6 * lv + n)).toInt.toNat
    · rw [if_pos w, if_pos (decide_eq_true w)]
    · rw [if_neg w, if_neg (by rw [decide_eq_true_eq]; exact w)]
theorem frS_bit {b : Nat → Int32} {n e : Nat} (hn : n ≤ 6) (he : e < n) : F_Main_hasBit (frS M lv b n) (nI e) = some (if M 422 (6 * lv + e) ≤ b (M 421 (6 * lv + e)).toInt.toNat then 0 else 1) := by
  rw [frS_P, frP_bit hn he]
  by_cases w : M 422 (6 * lv + e) ≤ b (M 421 (6 * lv + e)).toInt.toNat
  · rw [if_pos w, if_pos (decide_eq_true w)]
  · rw [if_neg w, if_neg (by rw [decide_eq_true_eq]; exact w)]
theorem frS_cnt {b : Nat → Int32} {n : Nat} (hn : n ≤ 6) : F_Int_bitCount (frS M lv b n) = some (bcS (frS M lv b n)) ∧ F_Mod_bits (frS M lv b n) = some (bcS (frS M lv b n)) ∧ 0 ≤ bcS (frS M lv b n) := by
  refine ⟨?_, bits_e _, ?_⟩
  · rw [frS_P, frP_c (p' := q6 _ _ _ _ _ _) n (fun i hi => q6_e _ (by omega))]
    exact (cnt_all _ _ _ _ _ _ n (by omega)).1
  · rw [frS_P, frP_c (p' := q6 _ _ _ _ _ _) n (fun i hi => q6_e _ (by omega))]
    exact (cnt_all _ _ _ _ _ _ n (by omega)).2
theorem bowS_sh {r r' : Nat → Int32} {a : Int32} {g j : Nat} (hg : g < 4) (hj : j < 3) (e : ∀ k, k < 35 → r' k = r k) (e35 : r' 35 = r 35 + a) : bowS M lv r' g j 0 = bowS M lv r g j a := by
  unfold bowS
  rw [e (15 + g) (by omega), e (19 + 3 * g + j) (by omega), e35, Int32.add_zero, Int32.add_zero, show r 35 + a - r (15 + g) = r 35 - r (15 + g) + a by rw [Int32.sub_eq_add_neg, Int32.sub_eq_add_neg, i_ac]]
/-- both loops over the guests -/
theorem deed_loop (hL : Lnd ld lv nf nd ng ne M) (hS : St D Q nf 64 r M) (hD : D < 2 ^ 31) (hQ : Q < 2 ^ 31) (hLc : Lnd ld lv nf nd ng ne Mc) (mc : ∀ c j, 411 ≤ c → c ≤ 432 → Mc c j = M c j) (rc : ∀ k, k < 38 → Mc 437 k = r k) {e : Nat} (he : e < ne) :
    ∀ (s k f f' : Nat) (N N' : gM) (acc : Int32), k + s = ng → Kl C0 M zL N zL → Eo mV Mc N' → ∃ v X Y, H_Main_guestsFreeTo_4 ld (nI e) (f + 1 + s) acc (nI k) N = some (v, X) ∧ H_Mod_deed_75 (nI e) (f' + 1 + s) acc (nI k) N' = some (v, Y) := by
  have h4 := hL.ng4
  have h6 := hL.ne6
  have h1 := hL.l1
  obtain ⟨x, hx, ex0, ex⟩ := hL.df he
  intro s
  induction s with
  | zero =>
    intro k f f' N N' acc hk kN kN'
    obtain rfl : k = ng := by omega
    have hN := hL.k0 kN
    have hN' := hLc.kV kN'
    refine ⟨acc, N, N', ?_, ?_⟩
    · show B_Main_guestsFreeTo_4 ld (nI e) (H_Main_guestsFreeTo_4 ld (nI e) f) acc (nI k) N = _
      unfold B_Main_guestsFreeTo_4
      rw [hN.cg, if_pos (by rw [nI_leI (by omega) (by omega)]; omega)]
    · show B_Mod_deed_75 (nI e) (H_Mod_deed_75 (nI e) f') acc (nI k) N' = _
      unfold B_Mod_deed_75
      rw [hN'.l18, if_neg (nI_in (by omega) (by omega)), nI_clamp (by omega), hN'.mg, if_pos (by rw [nI_leI (by omega) (by omega)]; omega)]
  | succ s ih =>
    intro k f f' N N' acc hk kN kN'
    have hN := hL.k0 kN
    have hN' := hLc.kV kN'
    have mN := k0_M kN
    have mN' : ∀ c j, 411 ≤ c → c ≤ 432 → N' c j = M c j := fun c j a b => (mV_M kN' c j a b).trans (mc c j a b)
    have e437 : ∀ i, i < 38 → N' 437 i = r i := fun i hi => (kN' 437 i (by unfold mV; omega)).trans (rc i hi)
    obtain ⟨X, y1, y2⟩ := c_freeOf hN (hS.k0 st64 kN) st64 hD hQ (g := k) (ahead := 0) (by omega)
    obtain ⟨Y, z1, z2⟩ := m_isFree hN' (g := k) (e := e) (by omega) he
    have hb : (fun j => bowS N lv r k j 0) = fun j => bowS M lv r k j 0 := funext fun j => bowS_k mN
    rw [hb, frS_k mN] at y1
    rw [mN' 422 _ (by decide) (by decide), mN' 421 _ (by decide) (by decide), bowS_k mN', ex, nI_tn (by omega), bowS_r (by omega) (by omega) e437] at z1
    have hbit : F_Main_hasBit (frS M lv (fun j => bowS M lv r k j 0) ne) (nI e) = some (if M 422 (6 * lv + e) ≤ bowS M lv r k x 0 then 0 else 1) := by
      rw [frS_bit h6 he, ex, nI_tn (by omega)]
    have c1 : ∀ K, B_Main_guestsFreeTo_4 ld (nI e) K acc (nI k) N = K (if M 422 (6 * lv + e) ≤ bowS M lv r k x 0 then acc else acc ||| (1 <<< (nI k &&& 31))) (nI (k + 1)) X := fun K => by
      unfold B_Main_guestsFreeTo_4 J_Main_guestsFreeTo_41
      rw [hN.cg, if_neg (by rw [nI_leI (by omega) (by omega)]; omega), y1, bI2_s, hbit, bI_s, nmI_e, nmI_e, nmI_e, nI_1]
      by_cases w : M 422 (6 * lv + e) ≤ bowS M lv r k x 0
      · rw [if_pos w, if_pos w, if_pos rfl]
      · rw [if_neg w, if_neg w, if_neg (by decide)]
    have c2 : ∀ K, B_Mod_deed_75 (nI e) K acc (nI k) N' = K (if M 422 (6 * lv + e) ≤ bowS M lv r k x 0 then acc else acc ||| (1 <<< (nI k &&& 31))) (nI (k + 1)) Y := fun K => by
      unfold B_Mod_deed_75 J_Mod_deed_106
      rw [hN'.l18, if_neg (nI_in (by omega) (by omega)), nI_clamp (by omega), hN'.mg, if_neg (by rw [nI_leI (by omega) (by omega)]; omega), z1, bI2_s, nmI_e, nmI_e, nmI_e, nI_1]
      by_cases w : M 422 (6 * lv + e) ≤ bowS M lv r k x 0
      · rw [if_pos w, if_pos w, if_pos rfl]
      · rw [if_neg w, if_neg w, if_neg (by decide)]
    obtain ⟨v, X', Y', u1, u2⟩ := ih (k + 1) f f' X Y (if M 422 (6 * lv + e) ≤ bowS M lv r k x 0 then acc else acc ||| (1 <<< (nI k &&& 31))) (by omega) (kN.trans y2) (kN'.tr z2)
    exact ⟨v, X', Y', (c1 _).trans u1, (c2 _).trans u2⟩
theorem v_deed (h : G1 q ld M L) (hq : q < 512) (a b : Int32) : ∃ r M1 r' M2, F_Main_deed ld a b M = some (r, M1) ∧ F_Mod_deed a b M1 = some (r', M2) ∧ G1 (q + 1) ld M2 L ∧ r = r' := by
  obtain ⟨r, M1, e1, -, k1⟩ := tf_Main_deed (p1 := a) (p2 := b) (M := M) h.1.la
  have g1 := h.1.kC0 k1
  obtain ⟨r', M2, e2, -, k2⟩ := tf_Mod_deed (p0 := a) (p1 := b) g1.inv
  refine ⟨r, M1, r', M2, e1, e2, h.q2 (g1.kM1 k2) (k1.mono C0_C1) k2, ?_⟩
  obtain ⟨lv, nf, nd, ng, ne, hL, hS⟩ := h.get
  obtain ⟨hL1, m1, Mc, x1, x2, x3, hLc, mc⟩ := cop hL (k1.mono C0_C1)
  have h4 := hL.ng4
  have h6 := hL.ne6
  have h1 := hL.l1
  unfold F_Main_deed at e1
  unfold F_Mod_deed at e2
  rw [hL.ce] at e1
  rcases m_isDeed hL1 a with ⟨d1, d2⟩ | ⟨e, he, rfl, d1, d2⟩
  · rw [d1, bI_s, if_pos rfl] at e1
    rw [d2, bI_s, if_pos rfl] at e2
    exact pair_fin e1 e2 rfl
  rw [d1, bI_s, if_neg (by decide)] at e1
  rw [d2, bI_s, if_neg (by decide), x1, bI_s, hLc.l18] at e2
  obtain ⟨x, hx, ex0, ex⟩ := hL.df he
  have gd : ¬ ((6 : Int32) * nI lv + nI e < 0 ∨ 12 ≤ ((6 : Int32) * nI lv + nI e).toNatClampNeg) := by rw [show (6 : Int32) = nI 6 from rfl, nI_mul, nI_add]; exact nI_in (by omega) (by omega)
  have gc : ((6 : Int32) * nI lv + nI e).toNatClampNeg = 6 * lv + e := by rw [show (6 : Int32) = nI 6 from rfl, nI_mul, nI_add, nI_clamp (by omega)]
  by_cases b0 : b = 0
  · rw [if_pos b0, s_at (by omega) (by decide), bI_s, ex0] at e1
    rw [if_pos b0, if_neg gd, gc, mc 421 _ (by decide) (by decide), ex] at e2
    exact pair_fin e1 e2 rfl
  rw [if_neg b0] at e1 e2
  by_cases b1 : b = 1
  · rw [if_pos b1, s_at (by omega) (by decide), bI_s, hL.dl he] at e1
    rw [if_pos b1, if_neg gd, gc, mc 422 _ (by decide) (by decide)] at e2
    exact pair_fin e1 e2 rfl
  rw [if_neg b1] at e1 e2
  by_cases b2 : b = 2
  · obtain ⟨g, hg⟩ := FU_k (1 + ng) (by omega)
    obtain ⟨v, X, Y, u1, u2⟩ := deed_loop hL hS.1 (by omega) (by omega) hLc mc x2 he ng 0 g g M Mc 0 (Nat.zero_add _) Kl.rf Eo.rf
    have c1 : F_Main_guestsFreeTo ld (nI e) M = some (v, X) := by unfold F_Main_guestsFreeTo; rw [hg, ← Nat.add_assoc]; exact u1
    have c2 : H_Mod_deed_75 (nI e) FU 0 0 Mc = some (v, Y) := by rw [hg, ← Nat.add_assoc]; exact u2
    rw [if_pos b2, c1, bI2_s] at e1
    rw [if_pos b2, c2] at e2
    exact pair_fin e1 e2 rfl
  rw [if_neg b2] at e1 e2
  exact pair_fin e1 e2 rfl
/-- both loops over the days to come -/
theorem hun_loop (hL : Lnd ld lv nf nd ng ne M) (hS : St D Q nf 64 r M) (hD : D < 2 ^ 31) (hQ : Q < 2 ^ 31) (hLc : Lnd ld lv nf nd ng ne Mc) (mc : ∀ c j, 411 ≤ c → c ≤ 432 → Mc c j = M c j) {g e x : Nat} (hg : g < ng) (he : e < ne) (hx : x ≤ 2) (ex : M 421 (6 * lv + e) = nI x) :
    ∀ (s n f f' : Nat) (N N' : gM), n + s = 100 → Kl C0 M zL N zL → Eo mQ Mc N' → (∀ k, k < 35 → N' 437 k = r k) → N' 437 35 = r 35 + nI n → ∃ v X Y, H_Main_hunger_45 ld (nI g) (nI e) (nI x) (f + 1 + s) (nI n) N = some (v, X) ∧ H_Mod_hunger_24 (nI g) (nI e) (f' + 1 + s) (nI n) N' = some (v, Y) := by
  have h4 := hL.ng4
  have h6 := hL.ne6
  have h1 := hL.l1
  intro s
  induction s with
  | zero =>
    intro n f f' N N' hn kN kN' q1 q2
    obtain rfl : n = 100 := by omega
    refine ⟨-2, N, N', ?_, ?_⟩
    · show B_Main_hunger_45 ld (nI g) (nI e) (nI x) (H_Main_hunger_45 ld (nI g) (nI e) (nI x) f) (nI 100) N = _
      unfold B_Main_hunger_45
      rw [if_pos (by decide)]
    · show B_Mod_hunger_24 (nI g) (nI e) (H_Mod_hunger_24 (nI g) (nI e) f') (nI 100) N' = _
      unfold B_Mod_hunger_24
      rw [if_pos (by decide)]
  | succ s ih =>
    intro n f f' N N' hn kN kN' q1 q2
    have hN := hL.k0 kN
    have hN' := hLc.kQ kN'
    have mN := k0_M kN
    have mN' : ∀ c j, 411 ≤ c → c ≤ 432 → N' c j = M c j := fun c j a b => (mQ_M kN' c j a b).trans (mc c j a b)
    obtain ⟨X, y1, y2⟩ := c_boundOf hN (hS.k0 st64 kN) hD hQ (g := g) (j := x) (ahead := nI n) hg (by omega)
    obtain ⟨Y, z1, z2⟩ := m_isFree hN' (g := g) (e := e) (by omega) he
    rw [bowS_k mN] at y1
    rw [mN' 422 _ (by decide) (by decide), mN' 421 _ (by decide) (by decide), bowS_k mN', ex, nI_tn (by omega), bowS_sh (by omega) (by omega) q1 q2] at z1
    have d1 : F_Main_at (ld + 8) 6 (nI e) X = some (M 422 (6 * lv + e)) := by
      rw [s_at (by omega) (by decide), (hN.k0 y2).dl he, k0_M y2 422 _ (by decide) (by decide), mN 422 _ (by decide) (by decide)]
    have n99 : ¬ (99 : Int32) < nI n := by rw [show (99 : Int32) = nI 99 from rfl, gt_I (by omega) (by omega)]; omega
    by_cases w : M 422 (6 * lv + e) ≤ bowS M lv r g x (nI n)
    · have e35 : Y 437 35 = r 35 + nI n := (z2 437 35 (by unfold mV; omega)).trans q2
      obtain ⟨v, X', Y', u1, u2⟩ := ih (n + 1) f f' X (uM Y 437 35 (r 35 + nI n + 1)) (by omega) (kN.trans y2) ((kN'.tr (z2.mono mV_mQ)).u (by unfold mQ; omega)) (fun k hk => by rw [uM_diff (by omega), z2 437 k (by unfold mV; omega)]; exact q1 k hk) (by rw [uM_same, Int32.add_assoc, nI_1])
      refine ⟨v, X', Y', ?_, ?_⟩
      · rw [← u1]
        show B_Main_hunger_45 ld (nI g) (nI e) (nI x) (H_Main_hunger_45 ld (nI g) (nI e) (nI x) (f + 1 + s)) (nI n) N = _
        unfold B_Main_hunger_45
        rw [if_neg n99, y1, bI2_s, d1, bI_s, if_pos w, nmI_e, nI_1]
      · rw [← u2]
        show B_Mod_hunger_24 (nI g) (nI e) (H_Mod_hunger_24 (nI g) (nI e) (f' + 1 + s)) (nI n) N' = _
        unfold B_Mod_hunger_24
        rw [if_neg n99, z1, bI2_s, if_pos w, if_pos rfl, nmM_e, nmI_e, nI_1, e35]
    · refine ⟨nI n, X, Y, ?_, ?_⟩
      · show B_Main_hunger_45 ld (nI g) (nI e) (nI x) (H_Main_hunger_45 ld (nI g) (nI e) (nI x) (f + 1 + s)) (nI n) N = _
        unfold B_Main_hunger_45
        rw [if_neg n99, y1, bI2_s, d1, bI_s, if_neg w]
      · show B_Mod_hunger_24 (nI g) (nI e) (H_Mod_hunger_24 (nI g) (nI e) (f' + 1 + s)) (nI n) N' = _
        unfold B_Mod_hunger_24
        rw [if_neg n99, z1, bI2_s, if_neg w, if_neg (by decide)]
theorem v_hunger (h : G1 q ld M L) (hq : q < 512) (a b : Int32) : ∃ r M1 r' M2, F_Main_hunger ld a b M = some (r, M1) ∧ F_Mod_hunger a b M1 = some (r', M2) ∧ G1 (q + 1) ld M2 L ∧ r = r' := by
  obtain ⟨r, M1, e1, -, k1⟩ := tf_Main_hunger (p1 := a) (p2 := b) (M := M) h.1.la
  have g1 := h.1.kC0 k1
  obtain ⟨r', M2, e2, -, k2⟩ := tf_Mod_hunger (p0 := a) (p1 := b) g1.inv
  refine ⟨r, M1, r', M2, e1, e2, h.q2 (g1.kM1 k2) (k1.mono C0_C1) k2, ?_⟩
  obtain ⟨lv, nf, nd, ng, ne, hL, hS⟩ := h.get
  obtain ⟨hL1, m1, Mc, x1, x2, x3, hLc, mc⟩ := cop hL (k1.mono C0_C1)
  have h4 := hL.ng4
  have h6 := hL.ne6
  have h1 := hL.l1
  unfold F_Main_hunger at e1
  unfold F_Mod_hunger at e2
  rw [hL.cg] at e1
  rcases m_isGuest hL1 a with ⟨d1, d2⟩ | ⟨g, hg, rfl, d1, d2⟩
  · rw [d1, bI_s, if_pos rfl] at e1
    rw [d2, bI_s, if_pos rfl] at e2
    exact pair_fin e1 e2 rfl
  rw [d1, bI_s, if_neg (by decide), hL.ce] at e1
  rw [d2, bI_s, if_neg (by decide)] at e2
  rcases m_isDeed hL1 b with ⟨d1, d2⟩ | ⟨e, he, rfl, d1, d2⟩
  · rw [d1, bI_s, if_pos rfl] at e1
    rw [d2, bI_s, if_pos rfl] at e2
    exact pair_fin e1 e2 rfl
  obtain ⟨x, hx, ex0, ex⟩ := hL.df he
  rw [d1, bI_s, if_neg (by decide), s_at (by omega) (by decide), bI_s, ex0] at e1
  rw [d2, bI_s, if_neg (by decide), x1, bI_s] at e2
  obtain ⟨f, hf⟩ := FU_k (1 + 100) (by omega)
  obtain ⟨v, X, Y, u1, u2⟩ := hun_loop hL hS.1 (by omega) (by omega) hLc mc hg he hx ex 100 0 f f M Mc (Nat.zero_add _) Kl.rf Eo.rf (fun k hk => x2 k (by omega)) (by rw [x2 35 (by omega)]; exact (Int32.add_zero _).symm)
  have c1 : H_Main_hunger_45 ld (nI g) (nI e) (nI x) FU 0 M = some (v, X) := by rw [hf, ← Nat.add_assoc]; exact u1
  have c2 : H_Mod_hunger_24 (nI g) (nI e) FU 0 Mc = some (v, Y) := by rw [hf, ← Nat.add_assoc]; exact u2
  rw [c1] at e1
  rw [c2] at e2
  exact pair_fin e1 e2 rfl
theorem long_c (c : Int32) : (F_Mod_isLong c = some 0 ∧ (c < 0 ∨ (¬ c < 0 ∧ ¬ c ≤ 60))) ∨ ∃ n, n ≤ 60 ∧ c = nI n ∧ ¬ c < 0 ∧ c ≤ 60 ∧ F_Mod_isLong c = some 1 := by
  unfold F_Mod_isLong
  rcases in_cases c (a := 0) (b := 60) (by decide) (by decide) with ⟨w1, w2⟩ | ⟨n, _, hn, rfl, w1⟩
  · left
    refine ⟨by rw [show F_Mod_in c 0 60 = some 0 from w1, bI_s, if_pos (Or.inl rfl)], ?_⟩
    by_cases h0 : c < 0
    · exact Or.inl h0
    · refine Or.inr ⟨h0, fun h1 => ?_⟩
      obtain ⟨k, hk, rfl⟩ := nI_of h0
      rw [show (60 : Int32) = nI 60 from rfl, nI_leI (by omega) (by omega)] at h1
      exact w2 ⟨k, by omega, h1, rfl⟩
  · exact Or.inr ⟨n, hn, rfl, nI_pos (by omega), by rw [show (60 : Int32) = nI 60 from rfl, nI_leI (by omega) (by omega)]; exact hn, by rw [show F_Mod_in (nI n) 0 60 = some 1 from w1, bI_s, if_pos (Or.inr rfl)]⟩
theorem v_boundIn (h : G1 q ld M L) (hq : q < 512) (a b c : Int32) : ∃ r M1 r' M2, F_Main_boundIn ld a b c M = some (r, M1) ∧ F_Mod_boundIn a b c M1 = some (r', M2) ∧ G1 (q + 1) ld M2 L ∧ r = r' := by
  obtain ⟨r, M1, e1, -, k1⟩ := tf_Main_boundIn (p1 := a) (p2 := b) (p3 := c) (M := M) h.1.la
  have g1 := h.1.kC0 k1
  obtain ⟨r', M2, e2, -, k2⟩ := tf_Mod_boundIn (p0 := a) (p1 := b) (p2 := c) g1.inv
  refine ⟨r, M1, r', M2, e1, e2, h.q2 (g1.kM1 k2) (k1.mono C0_C1) k2, ?_⟩
  obtain ⟨lv, nf, nd, ng, ne, hL, hS⟩ := h.get
  obtain ⟨hL1, m1, Mc, x1, x2, x3, hLc, mc⟩ := cop hL (k1.mono C0_C1)
  have h4 := hL.ng4
  unfold F_Main_boundIn at e1
  unfold F_Mod_boundIn at e2
  rw [hL.cg] at e1
  rcases m_isGuest hL1 a with ⟨d1, d2⟩ | ⟨g, hg, rfl, d1, d2⟩
  · rw [d1, bI_s, if_pos rfl] at e1
    rw [d2, bI_s, if_pos rfl] at e2
    exact pair_fin e1 e2 rfl
  rw [d1, bI_s, if_neg (by decide)] at e1
  rw [d2, bI_s, if_neg (by decide)] at e2
  rcases one_in0 b (n := 2) (by decide) with ⟨d1, d2⟩ | ⟨j, hj, rfl, d1, d2⟩
  · rw [show F_Main_isOne b 3 = some 0 from d1, bI_s, if_pos rfl] at e1
    rw [show F_Mod_in b 0 2 = some 0 from d2, bI_s, if_pos rfl] at e2
    exact pair_fin e1 e2 rfl
  rw [show F_Main_isOne (nI j) 3 = some 1 from d1, bI_s, if_neg (by decide)] at e1
  rw [show F_Mod_in (nI j) 0 2 = some 1 from d2, bI_s, if_neg (by decide)] at e2
  rcases long_c c with ⟨d2, w⟩ | ⟨n, hn, rfl, w1, w2, d2⟩
  · rw [d2, bI_s, if_pos rfl] at e2
    rcases w with w | ⟨w, w'⟩
    · rw [if_pos w] at e1
      exact pair_fin e1 e2 rfl
    · rw [if_neg w, if_neg w'] at e1
      exact pair_fin e1 e2 rfl
  obtain ⟨X, y1, _⟩ := c_boundOf hL hS.1 (by omega) (by omega) (g := g) (j := j) (ahead := nI n) hg (by omega)
  rw [if_neg w1, if_pos w2, y1, bI2_s] at e1
  rw [d2, bI_s, if_neg (by decide), x1, bI_s, nmM_e] at e2
  have kN : Eo mQ Mc (uM Mc 437 35 (Mc 437 35 + nI n)) := Eo.rf.u (by unfold mQ; omega)
  have n1 : ∀ k, k < 35 → uM Mc 437 35 (Mc 437 35 + nI n) 437 k = M 436 k := fun k hk => by rw [uM_diff (by omega)]; exact x2 k (by omega)
  have n2 : uM Mc 437 35 (Mc 437 35 + nI n) 437 35 = M 436 35 + nI n := by rw [uM_same, x2 35 (by omega)]
  generalize uM Mc 437 35 (Mc 437 35 + nI n) = N at kN n1 n2 e2
  obtain ⟨Y, z1, _⟩ := m_boundNow (hLc.kQ kN) (g := g) (j := j) (by omega) (by omega)
  rw [z1, bI2_s] at e2
  exact pair_fin e1 e2 (by rw [bowS_k (fun c j a b => (mQ_M kN c j a b).trans (mc c j a b)), bowS_sh (by omega) (by omega) n1 n2])
theorem v_stockIn (h : G1 q ld M L) (hq : q < 512) (a b : Int32) : ∃ r M1 r' M2, F_Main_stockIn ld a b M = some (r, M1) ∧ F_Mod_stockIn a b M1 = some (r', M2) ∧ G1 (q + 1) ld M2 L ∧ r = r' := by
  obtain ⟨r, M1, e1, -, k1⟩ := tf_Main_stockIn (p1 := a) (p2 := b) (M := M) h.1.la
  have g1 := h.1.kC1 k1
  obtain ⟨r', M2, e2, -, k2⟩ := tf_Mod_stockIn (p0 := a) (p1 := b) g1.inv
  refine ⟨r, M1, r', M2, e1, e2, h.q2 (g1.kM1 k2) k1 k2, ?_⟩
  obtain ⟨lv, nf, nd, ng, ne, hL, hS⟩ := h.get
  obtain ⟨hL1, m1, Mc, x1, x2, x3, hLc, mc⟩ := cop hL k1
  have h6 := hL.nf6
  unfold F_Main_stockIn at e1
  unfold F_Mod_stockIn at e2
  rw [hL.cf] at e1
  rcases m_isFood hL1 a with ⟨d1, d2⟩ | ⟨f, hf, rfl, d1, d2⟩
  · rw [d1, bI_s, if_pos rfl] at e1
    rw [d2, bI_s, if_pos rfl] at e2
    exact pair_fin e1 e2 rfl
  rw [d1, bI_s, if_neg (by decide)] at e1
  rw [d2, bI_s, if_neg (by decide)] at e2
  rcases long_c b with ⟨d2, w⟩ | ⟨n, hn, rfl, w1, w2, d2⟩
  · rw [d2, bI_s, if_pos rfl] at e2
    rcases w with w | ⟨w, w'⟩
    · rw [if_pos w] at e1
      exact pair_fin e1 e2 rfl
    · rw [if_neg w, if_neg w'] at e1
      exact pair_fin e1 e2 rfl
  obtain ⟨Ma, y1, a0, a1, a2, a3, a4, a5, a6, a7⟩ := s_copyFrom (X0 := 71) (X1 := 64) (M := M) (by omega)
  obtain ⟨Ma', t1, t2⟩ := tf_State_copyFrom (X0 := 71) (X1 := 64) (M := M) st71 st64
  obtain rfl := Option.some.inj (t1.symm.trans y1)
  have hLa : Lnd ld lv nf nd ng ne Ma' := hL.kCX st71 t2
  have ma := kCX_M st71 t2
  have hSa : St (60 * q) q nf 71 (M 436) Ma' := hS.1.cp (Nat.le_refl _) (Nat.le_refl _) a0 a1 a2 a3 a4 a5 a6 (fun _ _ => rfl)
  obtain ⟨Mb, z1, z2, _⟩ := c_passDays hLa st71 hSa (n := n) (by omega)
  obtain ⟨x, _, s2, s3, _⟩ := z2.2.2.2.2.2.1 f (by omega)
  rw [if_neg w1, if_pos w2, y1, bI_s, z1, bI_s, s_at (by omega) (by decide), bI_s, s2] at e1
  obtain ⟨N, v1, v2, _⟩ := m_goes hLc (n := n) (by omega)
  rw [d2, bI_s, if_neg (by decide), x1, bI_s, v1, bI_s, if_neg (nI_in (by omega) (by omega)), nI_clamp (by omega), v2 f (by omega)] at e2
  have hdk : ∀ (Mx : gM), (∀ c j, 411 ≤ c → c ≤ 432 → Mx c j = M c j) → ∀ n r, dyI Mx lv nf n r = dyI M lv nf n r := fun Mx mx n => by
    induction n with
    | zero => intro r; rfl
    | succ n ih => intro r; show dyI Mx lv nf n (dyR Mx lv nf r) = dyI M lv nf n (dyR M lv nf r); rw [dyR_k mx, ih]
  refine pair_fin e1 e2 ?_
  rw [← s3, hdk _ ma, hdk _ mc]
  exact (dyI_r h6 n _ _ x2 f (by omega)).symm
end QV
end PAR42
