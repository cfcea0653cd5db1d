/-! pinch, year -/
section PAR46
section TW
variable {D Q q ld lv nf nd ng ne : Nat} {M M' M1 Mc Mb : gM} {L : gL} {r : Nat → Int32}
theorem disS_r {d j : Nat} {more : Option Nat} {day : Int32} : ∃ y, y ≤ 99 ∧ disS M lv nf d more j day = nI y := by
  unfold disS
  match more with
  | none =>
    obtain ⟨y, _, h2, h3⟩ := hb_r (x := lawS M lv 0 (v9 (sumS M lv nf d j) (M 416 (5 * lv + d)) (nI j) (manS M lv nf d) day 0 0 0 0) (sumS M lv nf d j)) (a := 0) (b := 99) (by decide) (by decide)
    exact ⟨y, h2, h3⟩
  | some f =>
    obtain ⟨y, _, h2, h3⟩ := hb_r (x := lawS M lv 0 (v9 (sumS M lv nf d j + M 414 (3 * (6 * lv + f) + j)) (M 416 (5 * lv + d)) (nI j) (manS M lv nf d + 1) day 0 0 0 0) (sumS M lv nf d j + M 414 (3 * (6 * lv + f) + j))) (a := 0) (b := 99) (by decide) (by decide)
    exact ⟨y, h2, h3⟩
def abS (a b : Int32) : Int32 := if 0 ≤ a - b then a - b else 0 - (a - b)
theorem neg_all : ∀ k, k < 100 → 0 < k → ¬ 0 ≤ (0 : Int32) - nI k := by decide +kernel
/-- how far apart two forces are -/
theorem abS_e {a b : Int32} {x y : Nat} (hx : x ≤ 99) (hy : y ≤ 99) (ea : a = nI x) (eb : b = nI y) : (∃ z, z ≤ 99 ∧ abS a b = nI z) ∧ F_Mod_off b a = some (abS a b) := by
  subst ea; subst eb
  unfold abS F_Mod_off
  by_cases w : y ≤ x
  · have e : nI x - nI y = nI (x - y) := nI_sub w
    rw [e, if_pos (nI_pos' (by omega))]
    refine ⟨⟨x - y, by omega, rfl⟩, ?_⟩
    by_cases w2 : nI x ≤ nI y
    · rw [nI_leI (by omega) (by omega)] at w2
      rw [if_pos (by rw [nI_leI (by omega) (by omega)]; exact w2), show x = y by omega, Int32.sub_self, Nat.sub_self]; rfl
    · rw [if_neg w2]
  · have e1 : nI y - nI x = nI (y - x) := nI_sub (by omega)
    have e : nI x - nI y = 0 - nI (y - x) := by rw [← e1, Int32.zero_sub, Int32.neg_sub]
    have e2 : (0 : Int32) - (nI x - nI y) = nI (y - x) := by rw [e, Int32.zero_sub, Int32.zero_sub, Int32.neg_neg]
    rw [if_neg (by rw [e]; exact neg_all (y - x) (by omega) (by omega)), e2]
    exact ⟨⟨y - x, by omega, rfl⟩, by rw [if_pos (by rw [nI_leI (by omega) (by omega)]; omega), e1]⟩
def chJ (M : gM) (lv nf d f : Nat) (day : Int32) (j : Nat) : Int32 := abS (disS M lv nf d (some f) j day) (disS M lv nf d none j day)
/-- by how much one more of a food changes a dish -/
def chS (M : gM) (lv nf d f : Nat) (day : Int32) : Int32 := 0 + chJ M lv nf d f day 0 + chJ M lv nf d f day 1 + chJ M lv nf d f day 2
theorem chJ_r {d f j : Nat} {day : Int32} : (∃ z, z ≤ 99 ∧ chJ M lv nf d f day j = nI z) ∧ F_Mod_off (disS M lv nf d none j day) (disS M lv nf d (some f) j day) = some (chJ M lv nf d f day j) := by
  obtain ⟨x, hx, ex⟩ := disS_r (M := M) (lv := lv) (nf := nf) (d := d) (j := j) (more := some f) (day := day)
  obtain ⟨y, hy, ey⟩ := disS_r (M := M) (lv := lv) (nf := nf) (d := d) (j := j) (more := none) (day := day)
  exact abS_e hx hy ex ey
theorem chS_0 {d f : Nat} {day : Int32} : 0 ≤ chS M lv nf d f day := by
  obtain ⟨⟨a, ha, ea⟩, _⟩ := chJ_r (M := M) (lv := lv) (nf := nf) (d := d) (f := f) (j := 0) (day := day)
  obtain ⟨⟨b, hb, eb⟩, _⟩ := chJ_r (M := M) (lv := lv) (nf := nf) (d := d) (f := f) (j := 1) (day := day)
  obtain ⟨⟨c, hc, ec⟩, _⟩ := chJ_r (M := M) (lv := lv) (nf := nf) (d := d) (f := f) (j := 2) (day := day)
  unfold chS
  rw [ea, eb, ec, Int32.zero_add, nI_add, nI_add]
  exact nI_pos' (by omega)
theorem c_changeBy (hL : Lnd ld lv nf nd ng ne M) (hS : St D Q nf 64 r M) {d f : Nat} (hd : d < nd) (hf : f < nf) {N0 : gM} (k0 : Kl C0 M zL N0 zL) : ∃ X, F_Main_changeBy ld (nI d) (nI f) N0 = some (chS M lv nf d f (r 35), X) ∧ Kl C0 M zL X zL := by
  have step : ∀ (N : gM) (g k : Nat) (acc : Int32), k < 3 → Kl C0 M zL N zL → ∃ N', H_Main_changeBy_5 ld (nI d) (nI f) (g + 1) acc (nI k) N = H_Main_changeBy_5 ld (nI d) (nI f) g (acc + chJ M lv nf d f (r 35) k) (nI (k + 1)) N' ∧ Kl C0 M zL N' zL := fun N g k acc hk kN => by
    have hN := hL.k0 kN
    obtain ⟨X, y1, y2⟩ := c_dishForce hN (d := d) (j := k) (more := some f) (day := r 35) hd hk (fun x w => by cases w; exact hf)
    obtain ⟨X2, z1, z2⟩ := c_dishForce (hN.k0 y2) (d := d) (j := k) (more := none) (day := r 35) hd hk (fun x w => by cases w)
    rw [disS_k (k0_M kN)] at y1
    rw [disS_k (k0_M (kN.trans y2))] at z1
    refine ⟨X2, ?_, (kN.trans y2).trans z2⟩
    show B_Main_changeBy_5 ld (nI d) (nI f) (H_Main_changeBy_5 ld (nI d) (nI f) g) acc (nI k) N = _
    unfold B_Main_changeBy_5
    rw [show (3 : Int32) = nI 3 from rfl, if_neg (by rw [nI_leI (by omega) (by omega)]; omega), d0_k kN, hS.d0, show F_Land_dishForce ld (nI d) (nI f) (nI k) (r 35) N = _ from y1, bI2_s, d0_k (kN.trans y2), hS.d0, show F_Land_dishForce ld (nI d) (-2) (nI k) (r 35) X = _ from z1, bI2_s, nmI_e, nmI_e, nI_1]
    rfl
  unfold F_Main_changeBy
  obtain ⟨q4, hq4⟩ := FU_k 4 (by omega)
  obtain ⟨N1, a1, k1⟩ := step N0 (q4 + 3) 0 0 (by decide) k0
  obtain ⟨N2, a2, k2⟩ := step N1 (q4 + 2) 1 (0 + chJ M lv nf d f (r 35) 0) (by decide) k1
  obtain ⟨N3, a3, k3⟩ := step N2 (q4 + 1) 2 (0 + chJ M lv nf d f (r 35) 0 + chJ M lv nf d f (r 35) 1) (by decide) k2
  refine ⟨N3, ?_, k3⟩
  rw [hq4, show (H_Main_changeBy_5 ld (nI d) (nI f) (q4 + 4) 0 0 N0) = H_Main_changeBy_5 ld (nI d) (nI f) (q4 + 3 + 1) 0 (nI 0) N0 from rfl, a1, a2, a3]
  show B_Main_changeBy_5 ld (nI d) (nI f) (H_Main_changeBy_5 ld (nI d) (nI f) q4) _ (nI 3) N3 = _
  unfold B_Main_changeBy_5
  rw [if_pos (by decide)]
  rfl
/-- the model: the three forces, without and with one more -/
def mP8 (c j : Nat) : Prop := mV c j ∨ c = 438
theorem mP8_Q {A B : gM} (e : Eo mP8 A B) : Eo mQ A B := e.mono (fun c j w => by unfold mP8 mV at w; unfold mQ; omega)
theorem mV_P8 {A B : gM} (e : Eo mV A B) : Eo mP8 A B := e.mono (fun c j w => Or.inl w)
theorem potD_k {B : gM} {d : Nat} (e : ∀ c j, 411 ≤ c → c ≤ 432 → B c j = M c j) (i : Nat) : potD B lv nf d i = potD M lv nf d i := by
  unfold potD; rw [e 417 _ (by decide) (by decide)]
theorem m_chA (hLb : Lnd ld lv nf nd ng ne Mb) (mb : ∀ c j, 411 ≤ c → c ≤ 432 → Mb c j = M c j) (rb : Mb 437 35 = r 35) {d k : Nat} (hd : d < nd) (hk : k < 3) {N : gM} (kN : Eo mP8 Mb N) : ∃ A X, F_Mod_fillsPot (nI d) N = some A ∧ F_Mod_forceBy (nI k) (M 416 (5 * lv + d)) A = some (disS M lv nf d none k (r 35), X) ∧ Eo mP8 Mb X ∧ ∀ i, i < 6 → X 438 i = potD M lv nf d i := by
  have h6 := hLb.nf6
  have hN := hLb.kQ (mP8_Q kN)
  have r35 : N 437 35 = r 35 := (kN 437 35 (by unfold mP8 mV; omega)).trans rb
  have fA : Eo mP8 Mb (fl N 438 0 6 (potD N lv nf d)) := fun c j w => by rw [fl_out (by unfold mP8 at w; omega)]; exact kN c j w
  have mN : ∀ c j, 411 ≤ c → c ≤ 432 → N c j = M c j := fun c j a b => (mQ_M (mP8_Q kN) c j a b).trans (mb c j a b)
  have pA : ∀ i, i < 6 → fl N 438 0 6 (potD N lv nf d) 438 i = potD M lv nf d i := fun i hi => by rw [fl_in (by omega), Nat.sub_zero, potD_k mN]
  have rA : fl N 438 0 6 (potD N lv nf d) 437 35 = r 35 := by rw [fl_out (by omega)]; exact r35
  have pot : F_Mod_fillsPot (nI d) N = some (fl N 438 0 6 (potD N lv nf d)) := m_fillsPot hN hd
  generalize fl N 438 0 6 (potD N lv nf d) = A at fA pA rA pot
  have hA := hLb.kQ (mP8_Q fA)
  have mA : ∀ c j, 411 ≤ c → c ≤ 432 → A c j = M c j := fun c j a b => (mQ_M (mP8_Q fA) c j a b).trans (mb c j a b)
  have hPot : Pot A lv nf d none := fun i hi => by rw [pA i hi, if_neg (fun z => nomatch z), potD_k mA]
  obtain ⟨X, y1, y2⟩ := hPot.force hA (j := k) (fun f w => nomatch w) hk
  rw [disS_k mA, rA, mA 416 _ (by decide) (by decide)] at y1
  exact ⟨A, X, pot, y1, fA.tr (mV_P8 y2), fun i hi => (y2 438 i (by unfold mV; omega)).trans (pA i hi)⟩
theorem m_chB (hLb : Lnd ld lv nf nd ng ne Mb) (mb : ∀ c j, 411 ≤ c → c ≤ 432 → Mb c j = M c j) (rb : Mb 437 35 = r 35) {d f k : Nat} (hf : f < nf) (hk : k < 3) {X : gM} (kX : Eo mP8 Mb X) (pX : ∀ i, i < 6 → X 438 i = potD M lv nf d i) : ∃ X2, F_Mod_forceBy (nI k) (M 416 (5 * lv + d)) (uM X 438 f (X 438 f + 1)) = some (disS M lv nf d (some f) k (r 35), X2) ∧ Eo mP8 Mb X2 := by
  have h6 := hLb.nf6
  have fB : Eo mP8 Mb (uM X 438 f (X 438 f + 1)) := kX.u (Or.inr rfl)
  have pB : ∀ i, i < 6 → uM X 438 f (X 438 f + 1) 438 i = if some f = some i then potD M lv nf d i + 1 else potD M lv nf d i := fun i hi => by
    by_cases w : f = i
    · rw [w, uM_same, if_pos rfl, pX i hi]
    · rw [uM_diff (by omega), if_neg (fun z => w (Option.some.inj z)), pX i hi]
  have rB : uM X 438 f (X 438 f + 1) 437 35 = r 35 := by rw [uM_diff (by omega), kX 437 35 (by unfold mP8 mV; omega)]; exact rb
  generalize uM X 438 f (X 438 f + 1) = B at fB pB rB ⊢
  have hB := hLb.kQ (mP8_Q fB)
  have mB : ∀ c j, 411 ≤ c → c ≤ 432 → B c j = M c j := fun c j a b => (mQ_M (mP8_Q fB) c j a b).trans (mb c j a b)
  have hPotB : Pot B lv nf d (some f) := fun i hi => by rw [pB i hi, potD_k mB i]
  obtain ⟨X2, z1, z2⟩ := hPotB.force hB (j := k) (fun x w => Option.some.inj w ▸ hf) hk
  rw [disS_k mB, rB, mB 416 _ (by decide) (by decide)] at z1
  exact ⟨X2, z1, fB.tr (mV_P8 z2)⟩
theorem m_chS (hLb : Lnd ld lv nf nd ng ne Mb) (mb : ∀ c j, 411 ≤ c → c ≤ 432 → Mb c j = M c j) (rb : Mb 437 35 = r 35) {d f : Nat} (hd : d < nd) (hf : f < nf) {w v4 v5 : Int32} {K : Int32 → Int32 → Int32 → gM → Option (Int32 × gM)} {N : gM} {g k : Nat} {acc : Int32} (hk : k < 3) (kN : Eo mP8 Mb N) : ∃ N', H_Mod_pinch_66 K (nI d) w (M 416 (5 * lv + d)) v4 v5 (nI f) (g + 1) acc (nI k) N = H_Mod_pinch_66 K (nI d) w (M 416 (5 * lv + d)) v4 v5 (nI f) g (acc + chJ M lv nf d f (r 35) k) (nI (k + 1)) N' ∧ Eo mP8 Mb N' := by
  have h6 := hLb.nf6
  obtain ⟨A, X, y0, y1, y2, y3⟩ := m_chA (nf := nf) hLb mb rb hd hk kN
  obtain ⟨X2, z1, z2⟩ := m_chB hLb mb rb (d := d) hf hk y2 y3
  have e3 : ¬ (3 : Int32) ≤ nI k := by rw [show (3 : Int32) = nI 3 from rfl, nI_leI (by omega) (by omega)]; omega
  have eg : ¬ (nI f < 0 ∨ 6 ≤ (nI f).toNatClampNeg) := nI_in (by omega) (by omega)
  have ec : (nI f).toNatClampNeg = f := nI_clamp (by omega)
  refine ⟨X2, ?_, z2⟩
  show B_Mod_pinch_66 K (nI d) w (M 416 (5 * lv + d)) v4 v5 (nI f) (H_Mod_pinch_66 K (nI d) w (M 416 (5 * lv + d)) v4 v5 (nI f) g) acc (nI k) N = _
  generalize H_Mod_pinch_66 K (nI d) w (M 416 (5 * lv + d)) v4 v5 (nI f) g = H
  unfold B_Mod_pinch_66
  rw [if_neg e3, y0, bI_s, y1, bI2_s, if_neg eg, if_neg eg, ec, nmM_e, z1, bI2_s, chJ_r.2, bI_s, nmI_e, nmI_e, nI_1]
def chP (M : gM) (lv nf d f : Nat) (day : Int32) : Nat → Int32
  | 0 => 0
  | k + 1 => chP M lv nf d f day k + chJ M lv nf d f day k
theorem chP_3 {d f : Nat} {day : Int32} : chP M lv nf d f day 3 = chS M lv nf d f day := rfl
theorem m_chK (hLb : Lnd ld lv nf nd ng ne Mb) (mb : ∀ c j, 411 ≤ c → c ≤ 432 → Mb c j = M c j) (rb : Mb 437 35 = r 35) {d f : Nat} (hd : d < nd) (hf : f < nf) {w v4 v5 : Int32} {K : Int32 → Int32 → Int32 → gM → Option (Int32 × gM)} : ∀ (s k g : Nat) (N : gM), k + s = 3 → Eo mP8 Mb N → ∃ X, H_Mod_pinch_66 K (nI d) w (M 416 (5 * lv + d)) v4 v5 (nI f) (g + 1 + s) (chP M lv nf d f (r 35) k) (nI k) N = J_Mod_pinch_120 K (nI d) w (M 416 (5 * lv + d)) v4 v5 (nI f) (chP M lv nf d f (r 35) 3) X ∧ Eo mP8 Mb X := by
  intro s
  induction s with
  | zero =>
    intro k g N hk kN
    obtain rfl : k = 3 := by omega
    refine ⟨N, ?_, kN⟩
    generalize chP M lv nf d f (r 35) 3 = acc
    show B_Mod_pinch_66 K (nI d) w (M 416 (5 * lv + d)) v4 v5 (nI f) (H_Mod_pinch_66 K (nI d) w (M 416 (5 * lv + d)) v4 v5 (nI f) g) acc (nI 3) N = _
    generalize H_Mod_pinch_66 K (nI d) w (M 416 (5 * lv + d)) v4 v5 (nI f) g = H
    unfold B_Mod_pinch_66
    rw [if_pos (by decide)]
  | succ s ih =>
    intro k g N hk kN
    obtain ⟨N1, a1, k1⟩ := m_chS (nf := nf) hLb mb rb hd hf (w := w) (v4 := v4) (v5 := v5) (K := K) (g := g + 1 + s) (k := k) (acc := chP M lv nf d f (r 35) k) (by omega) kN
    obtain ⟨X, b1, b2⟩ := ih (k + 1) g N1 (by omega) k1
    exact ⟨X, a1.trans b1, b2⟩
theorem m_change (hLb : Lnd ld lv nf nd ng ne Mb) (mb : ∀ c j, 411 ≤ c → c ≤ 432 → Mb c j = M c j) (rb : Mb 437 35 = r 35) {d f : Nat} (hd : d < nd) (hf : f < nf) {w v4 v5 : Int32} {K : Int32 → Int32 → Int32 → gM → Option (Int32 × gM)} {N0 : gM} (k0 : Eo mP8 Mb N0) : ∃ X, H_Mod_pinch_66 K (nI d) w (M 416 (5 * lv + d)) v4 v5 (nI f) FU 0 0 N0 = J_Mod_pinch_120 K (nI d) w (M 416 (5 * lv + d)) v4 v5 (nI f) (chS M lv nf d f (r 35)) X ∧ Eo mP8 Mb X := by
  obtain ⟨q4, hq4⟩ := FU_k (1 + 3) (by omega)
  obtain ⟨X, b1, b2⟩ := m_chK hLb mb rb hd hf (w := w) (v4 := v4) (v5 := v5) (K := K) 3 0 q4 N0 (by omega) k0
  rw [chP_3] at b1
  refine ⟨X, ?_, b2⟩
  rw [hq4, ← Nat.add_assoc]
  exact b1
theorem pinch_loop (hL : Lnd ld lv nf nd ng ne M) (hS : St D Q nf 64 r M) (hLb : Lnd ld lv nf nd ng ne Mb) (mb : ∀ c j, 411 ≤ c → c ≤ 432 → Mb c j = M c j) (rb : Mb 437 35 = r 35) {d : Nat} (hd : d < nd) {w : Int32} :
    ∀ (s k f f' : Nat) (N N' : gM) (best food food' : Int32), k + s = nf → Kl C0 M zL N zL → Eo mP8 Mb N' → ((k = 0 ∧ best = -1) ∨ (0 < k ∧ food = food')) → ∃ v X Y, H_Main_pinch_32 ld (nI d) w (f + 1 + s) best food (nI k) N = some (v, X) ∧ H_Mod_pinch_46 (nI d) w (M 416 (5 * lv + d)) (f' + 1 + s) food' best (nI k) N' = some (v, Y) := by
  have h6 := hL.nf6
  have h1 := hL.l1
  have h0 := hL.some_ (by omega)
  intro s
  induction s with
  | zero =>
    intro k f f' N N' best food food' hk kN kN' hi
    obtain rfl : k = nf := by omega
    have hN := hL.k0 kN
    have hN' := hLb.kQ (mP8_Q kN')
    obtain rfl : food = food' := by
      rcases hi with ⟨z, _⟩ | ⟨_, z⟩
      · omega
      · exact z
    refine ⟨if w = 0 then food else best, N, N', ?_, ?_⟩
    · show B_Main_pinch_32 ld (nI d) w (H_Main_pinch_32 ld (nI d) w f) best food (nI k) N = _
      unfold B_Main_pinch_32 J_Main_pinch_72
      rw [hN.cf, if_pos (by rw [nI_leI (by omega) (by omega)]; omega)]
      by_cases w0 : w = 0
      · rw [if_pos w0, if_pos w0]
      · rw [if_neg w0, if_neg w0]
    · show B_Mod_pinch_46 (nI d) w (M 416 (5 * lv + d)) (H_Mod_pinch_46 (nI d) w (M 416 (5 * lv + d)) f') food best (nI k) N' = _
      unfold B_Mod_pinch_46 J_Mod_pinch_144
      rw [hN'.l18, if_neg (nI_in (by omega) (by omega)), nI_clamp (by omega), hN'.mf, if_pos (by rw [nI_leI (by omega) (by omega)]; omega)]
      by_cases w0 : w = 0
      · rw [if_pos w0, if_pos w0]
      · rw [if_neg w0, if_neg w0]
  | succ s ih =>
    intro k f f' N N' best food food' hk kN kN' hi
    have hN := hL.k0 kN
    have hN' := hLb.kQ (mP8_Q kN')
    obtain ⟨X, x1, x2⟩ := c_changeBy hL hS hd (f := k) (by omega) kN
    obtain ⟨Y, y1, y2⟩ := m_change hLb mb rb hd (f := k) (by omega) (w := w) (v4 := food') (v5 := best) (K := H_Mod_pinch_46 (nI d) w (M 416 (5 * lv + d)) (f' + 1 + s)) kN'
    have c1 : H_Main_pinch_32 ld (nI d) w (f + 1 + (s + 1)) best food (nI k) N = (if chS M lv nf d k (r 35) ≤ best then H_Main_pinch_32 ld (nI d) w (f + 1 + s) best food (nI (k + 1)) X else H_Main_pinch_32 ld (nI d) w (f + 1 + s) (chS M lv nf d k (r 35)) (nI k) (nI (k + 1)) X) := by
      show B_Main_pinch_32 ld (nI d) w (H_Main_pinch_32 ld (nI d) w (f + 1 + s)) best food (nI k) N = _
      unfold B_Main_pinch_32 J_Main_pinch_66
      rw [hN.cf, if_neg (by rw [nI_leI (by omega) (by omega)]; omega), x1, bI2_s, nmI_e, nmI_e, nI_1]
    have c2 : H_Mod_pinch_46 (nI d) w (M 416 (5 * lv + d)) (f' + 1 + (s + 1)) food' best (nI k) N' = (if best < chS M lv nf d k (r 35) then H_Mod_pinch_46 (nI d) w (M 416 (5 * lv + d)) (f' + 1 + s) (nI k) (chS M lv nf d k (r 35)) (nI (k + 1)) Y else H_Mod_pinch_46 (nI d) w (M 416 (5 * lv + d)) (f' + 1 + s) food' best (nI (k + 1)) Y) := by
      show B_Mod_pinch_46 (nI d) w (M 416 (5 * lv + d)) (H_Mod_pinch_46 (nI d) w (M 416 (5 * lv + d)) (f' + 1 + s)) food' best (nI k) N' = _
      unfold B_Mod_pinch_46
      rw [hN'.l18, if_neg (nI_in (by omega) (by omega)), nI_clamp (by omega), hN'.mf, if_neg (by rw [nI_leI (by omega) (by omega)]; omega), y1]
      unfold J_Mod_pinch_120 J_Mod_pinch_138
      rw [nmI_e, nmI_e, nI_1]
    rw [c1, c2]
    by_cases z : chS M lv nf d k (r 35) ≤ best
    · rw [if_pos z, if_neg (Int32.not_lt.mpr z)]
      refine ih (k + 1) f f' X Y best food food' (by omega) x2 y2 (Or.inr ⟨by omega, ?_⟩)
      rcases hi with ⟨_, e⟩ | ⟨_, e⟩
      · rw [e] at z; exact absurd z (not_m1 chS_0)
      · exact e
    · rw [if_neg z, if_pos (Int32.not_le.mp z)]
      exact ih (k + 1) f f' X Y (chS M lv nf d k (r 35)) (nI k) (nI k) (by omega) x2 y2 (Or.inr ⟨by omega, rfl⟩)
theorem v_pinch (h : G1 q ld M L) (hq : q < 512) (a b : Int32) : ∃ r M1 r' M2, F_Main_pinch ld a b M = some (r, M1) ∧ F_Mod_pinch a b M1 = some (r', M2) ∧ G1 (q + 1) ld M2 L ∧ r = r' := by
  obtain ⟨r, M1, e1, -, k1⟩ := tf_Main_pinch (p1 := a) (p2 := b) (M := M) h.1.la
  have g1 := h.1.kC0 k1
  obtain ⟨r', M2, e2, -, k2⟩ := tf_Mod_pinch (p0 := a) (p1 := b) g1.inv
  refine ⟨r, M1, r', M2, e1, e2, h.q2 (g1.kM1 k2) (k1.mono C0_C1) k2, ?_⟩
  obtain ⟨lv, nf, nd, ng, ne, hL, hS⟩ := h.get
  obtain ⟨hL1, m1, Mc, x1, x2, x3, hLc, mc⟩ := cop hL (k1.mono C0_C1)
  have h5 := hL.nd5
  have h6 := hL.nf6
  have h1 := hL.l1
  unfold F_Main_pinch at e1
  unfold F_Mod_pinch at e2
  rw [hL.cd] at e1
  rcases m_isDish hL1 a with ⟨d1, d2⟩ | ⟨d, hd, rfl, d1, d2⟩
  · rw [d1, bI_s, if_pos rfl] at e1
    rw [d2, bI_s, if_pos rfl] at e2
    exact pair_fin e1 e2 rfl
  rw [d1, bI_s, if_neg (by decide)] at e1
  rw [d2, bI_s, if_neg (by decide)] at e2
  rcases one_in0 b (n := 1) (by decide) with ⟨d1, d2⟩ | ⟨w, hw, rfl, d1, d2⟩
  · rw [show F_Main_isOne b 2 = some 0 from d1, bI_s, if_pos rfl] at e1
    rw [show F_Mod_in b 0 1 = some 0 from d2, bI_s, if_pos rfl] at e2
    exact pair_fin e1 e2 rfl
  rw [show F_Main_isOne (nI w) 2 = some 1 from d1, bI_s, if_neg (by decide)] at e1
  rw [show F_Mod_in (nI w) 0 1 = some 1 from d2, bI_s, if_neg (by decide), x1, bI_s, hLc.l18, show (5 : Int32) = nI 5 from rfl, nI_mul, nI_add, if_neg (nI_in (by omega) (by omega)), nI_clamp (by omega), nmI_e, mc 416 _ (by decide) (by decide)] at e2
  obtain ⟨f, hf⟩ := FU_k (1 + nf) (by omega)
  obtain ⟨v, X, Y, u1, u2⟩ := pinch_loop hL hS.1 hLc mc (x2 35 (by omega)) hd (w := nI w) nf 0 f f M Mc (-1) (-1) 0 (Nat.zero_add _) Kl.rf Eo.rf (Or.inl ⟨rfl, rfl⟩)
  have c1 : H_Main_pinch_32 ld (nI d) (nI w) FU (-1) (-1) 0 M = some (v, X) := by rw [hf, ← Nat.add_assoc]; exact u1
  have c2 : H_Mod_pinch_46 (nI d) (nI w) (M 416 (5 * lv + d)) FU 0 (-1) 0 Mc = some (v, Y) := by rw [hf, ← Nat.add_assoc]; exact u2
  rw [c1] at e1
  rw [c2] at e2
  exact pair_fin e1 e2 rfl
/-! year -/
theorem year_loop (hL : Lnd ld lv nf nd ng ne M) (hS : St D Q nf 64 r M) (hIb : Inv Mb) (hLb : Lnd ld lv nf nd ng ne Mb) (mb : ∀ c j, 411 ≤ c → c ≤ 432 → Mb c j = M c j) (rb : ∀ k, k < 38 → Mb 436 k = r k) {d j n : Nat} {lim : Int32} (hd : d < nd) (hj : j < 3) (hn : n ≤ 20) (hin : inB M lv d r nf = true) :
    ∀ (s k f f' : Nat) (N N' : gM) (acc : Int32), k + s = n → Kl C0 M zL N zL → Eo mQ Mb N' → ∃ v X Y, H_Main_year_70 ld (nI d) (nI j) lim (nI n) (f + 1 + s) acc (nI k) N = some (v, X) ∧ H_Mod_year_61 (nI d) (nI j) lim (nI n) (f' + 1 + s) acc (nI k) N' = some (v, Y) := by
  have h6 := hL.nf6
  have h5 := hL.nd5
  have h0 := hL.some_ (by omega)
  intro s
  induction s with
  | zero =>
    intro k f f' N N' acc hk kN kN'
    obtain rfl : k = n := by omega
    refine ⟨acc, N, N', ?_, ?_⟩
    · show B_Main_year_70 ld (nI d) (nI j) lim (nI k) (H_Main_year_70 ld (nI d) (nI j) lim (nI k) f) acc (nI k) N = _
      unfold B_Main_year_70
      rw [if_pos (by rw [nI_leI (by omega) (by omega)]; omega)]
    · show B_Mod_year_61 (nI d) (nI j) lim (nI k) (H_Mod_year_61 (nI d) (nI j) lim (nI k) f') acc (nI k) N' = _
      unfold B_Mod_year_61
      rw [if_pos (by rw [nI_leI (by omega) (by omega)]; omega)]
  | succ s ih =>
    intro k f f' N N' acc hk kN kN'
    have hN := hL.k0 kN
    have hN' := hLb.kQ kN'
    have mN := k0_M kN
    have hSN := hS.k0 st64 kN
    obtain ⟨X1, y1, y2⟩ := c_slipInto hN hSN st64 (d := d) (seed := M 423 lv + nI k) hd (by rw [inB_k mN]; exact hin)
    rw [slS_k mN] at y1
    have hsl : ∀ x, slS M lv nf (M 423 lv + nI k) r d = some x → x < nf := fun x w => (slS_lt h0 h6 w).1
    obtain ⟨X2, z1, z2⟩ := c_dishForce (hN.k0 y2) (d := d) (j := j) (more := slS M lv nf (M 423 lv + nI k) r d) (day := r 35) hd hj hsl
    rw [disS_k (k0_M (kN.trans y2))] at z1
    have e64 : X1 64 0 = r 35 := (hSN.k0 st64 y2).d0
    have esd : N ld 4 = M 423 lv := by rw [hN.sd, mN 423 _ (by decide) (by decide)]
    -- the model
    obtain ⟨Mc, w1, w2, w3, w4⟩ := m_copies hN'
    have kc := kN'.tr w4
    have mc : ∀ c j, 411 ≤ c → c ≤ 432 → Mc c j = M c j := fun c j a b => (mQ_M kc c j a b).trans (mb c j a b)
    have rc : ∀ i, i < 38 → Mc 437 i = r i := fun i hi => by rw [w2 i hi, kN' 436 i (by unfold mQ; omega)]; exact rb i hi
    have s54 : Mc 401 54 = M 423 lv := by rw [w3, mQ_M kN' 423 _ (by decide) (by decide), mb 423 _ (by decide) (by decide)]
    have k2 : Eo mQ Mb (uM Mc 401 54 (Mc 401 54 + nI k)) := kc.u (by unfold mQ; omega)
    have t54 : uM Mc 401 54 (Mc 401 54 + nI k) 401 54 = M 423 lv + nI k := by rw [uM_same, s54]
    have r2 : ∀ i, i < 38 → uM Mc 401 54 (Mc 401 54 + nI k) 437 i = r i := fun i hi => by rw [uM_diff (by omega)]; exact rc i hi
    generalize hN2 : uM Mc 401 54 (Mc 401 54 + nI k) = N2 at k2 t54 r2
    have m2 : ∀ c j, 411 ≤ c → c ≤ 432 → N2 c j = M c j := fun c j a b => (mQ_M k2 c j a b).trans (mb c j a b)
    obtain ⟨Y, v1, v2, v3⟩ := m_cooks (hIb.keep inv_MS1 (kQ_M1 k2)) (hLb.kQ k2) hd
    rw [t54, slS_k m2, slS_r h0 h6 r2] at v1 v2
    have v12 : Y 437 (12 + j) = disS M lv nf d (slS M lv nf (M 423 lv + nI k) r d) j (r 35) := by
      rw [v2 (12 + j) (by omega), ckR_k m2, ckR_r r2 _ (by omega)]
      unfold ckR
      rw [if_neg (by omega), if_neg (by omega), if_neg (by omega), if_pos (by omega), show 12 + j - 12 = j by omega]
    have c1 : H_Main_year_70 ld (nI d) (nI j) lim (nI n) (f + 1 + (s + 1)) acc (nI k) N = (if disS M lv nf d (slS M lv nf (M 423 lv + nI k) r d) j (r 35) < lim then H_Main_year_70 ld (nI d) (nI j) lim (nI n) (f + 1 + s) acc (nI (k + 1)) X2 else H_Main_year_70 ld (nI d) (nI j) lim (nI n) (f + 1 + s) (acc + 1) (nI (k + 1)) X2) := by
      show B_Main_year_70 ld (nI d) (nI j) lim (nI n) (H_Main_year_70 ld (nI d) (nI j) lim (nI n) (f + 1 + s)) acc (nI k) N = _
      unfold B_Main_year_70 J_Main_year_126
      rw [if_neg (by rw [nI_leI (by omega) (by omega)]; omega), esd, y1, bI2_s, e64, z1, bI2_s, nmI_e, nmI_e, nmI_e, nI_1]
    have c2 : H_Mod_year_61 (nI d) (nI j) lim (nI n) (f' + 1 + (s + 1)) acc (nI k) N' = (if disS M lv nf d (slS M lv nf (M 423 lv + nI k) r d) j (r 35) < lim then H_Mod_year_61 (nI d) (nI j) lim (nI n) (f' + 1 + s) acc (nI (k + 1)) Y else H_Mod_year_61 (nI d) (nI j) lim (nI n) (f' + 1 + s) (acc + 1) (nI (k + 1)) Y) := by
      show B_Mod_year_61 (nI d) (nI j) lim (nI n) (H_Mod_year_61 (nI d) (nI j) lim (nI n) (f' + 1 + s)) acc (nI k) N' = _
      unfold B_Mod_year_61 J_Mod_year_105
      rw [if_neg (by rw [nI_leI (by omega) (by omega)]; omega), w1, bI_s, nmM_e, hN2, v1, bI2_s, show (12 : Int32) = nI 12 from rfl, nI_add, if_neg (nI_in (by omega) (by omega)), nI_clamp (by omega), v12, nmI_e, nmI_e, nmI_e, nI_1]
    rw [c1, c2]
    have kY := k2.tr (kM1_Q v3)
    have kX := (kN.trans y2).trans z2
    by_cases z : disS M lv nf d (slS M lv nf (M 423 lv + nI k) r d) j (r 35) < lim
    · rw [if_pos z, if_pos z]
      exact ih (k + 1) f f' X2 Y acc (by omega) kX kY
    · rw [if_neg z, if_neg z]
      exact ih (k + 1) f f' X2 Y (acc + 1) (by omega) kX kY
theorem v_year (h : G1 q ld M L) (hq : q < 512) (a b c d : Int32) : ∃ r M1 r' M2, F_Main_year ld a b c d M = some (r, M1) ∧ F_Mod_year a b c d M1 = some (r', M2) ∧ G1 (q + 1) ld M2 L ∧ r = r' := by
  obtain ⟨r, M1, e1, -, k1⟩ := tf_Main_year (p1 := a) (p2 := b) (p3 := c) (p4 := d) (M := M) h.1.la
  have g1 := h.1.kC0 k1
  obtain ⟨r', M2, e2, -, k2⟩ := tf_Mod_year (p0 := a) (p1 := b) (p2 := c) (p3 := d) g1.inv
  refine ⟨r, M1, r', M2, e1, e2, h.q2 (g1.kM1 k2) (k1.mono C0_C1) k2, ?_⟩
  obtain ⟨lv, nf, nd, ng, ne, hL, hS⟩ := h.get
  obtain ⟨hL1, m1, _⟩ := cop hL (k1.mono C0_C1)
  obtain ⟨Mc, x1, x2', x3, x4⟩ := m_copies hL1
  have x2 : ∀ k, k < 38 → Mc 437 k = M 436 k := fun k hk => by rw [x2' k hk, m1 436 k (by omega)]
  have mc : ∀ c j, 411 ≤ c → c ≤ 432 → Mc c j = M c j := fun c j p q => (mQ_M x4 c j p q).trans (m1 c j (by omega))
  have h6 := hL.nf6
  unfold F_Main_year at e1
  unfold F_Mod_year at e2
  rw [hL.cd] at e1
  rcases m_isDish hL1 a with ⟨d1, d2⟩ | ⟨x, hx, rfl, d1, d2⟩
  · rw [d1, bI_s, if_pos rfl] at e1
    rw [d2, bI_s, if_pos rfl] at e2
    exact pair_fin e1 e2 rfl
  rw [d1, bI_s, if_neg (by decide)] at e1
  rw [d2, bI_s, if_neg (by decide)] at e2
  rcases one_in0 b (n := 2) (by decide) with ⟨d1, d2⟩ | ⟨j, hj, rfl, d1, d2⟩
  · rw [show F_Main_isOne b 3 = some 0 from d1, bI_s, if_pos rfl] at e1
    rw [show F_Mod_in b 0 2 = some 0 from d2, bI_s, if_pos rfl] at e2
    exact pair_fin e1 e2 rfl
  rw [show F_Main_isOne (nI j) 3 = some 1 from d1, bI_s, if_neg (by decide)] at e1
  rw [show F_Mod_in (nI j) 0 2 = some 1 from d2, bI_s, if_neg (by decide)] at e2
  rcases one_in0 c (n := 99) (by decide) with ⟨d1, d2⟩ | ⟨l, hl, rfl, d1, d2⟩
  · rw [show F_Main_isOne c 100 = some 0 from d1, bI_s, if_pos rfl] at e1
    rw [show F_Mod_in c 0 99 = some 0 from d2, bI_s, if_pos rfl] at e2
    exact pair_fin e1 e2 rfl
  rw [show F_Main_isOne (nI l) 100 = some 1 from d1, bI_s, if_neg (by decide)] at e1
  rw [show F_Mod_in (nI l) 0 99 = some 1 from d2, bI_s, if_neg (by decide)] at e2
  rcases in_cases d (a := 1) (b := 20) (by decide) (by decide) with ⟨w1, w2⟩ | ⟨n, hn1, hn, rfl, w1⟩
  · rw [show F_Mod_in d 1 20 = some 0 from w1, bI_s, if_pos rfl] at e2
    by_cases z : d < 1
    · rw [if_pos z] at e1
      exact pair_fin e1 e2 rfl
    · rw [if_neg z, if_neg (fun z2 => by
        obtain ⟨k, hk, rfl⟩ := nI_of (fun z3 => z (Int32.lt_trans z3 (by decide)))
        rw [show (1 : Int32) = nI 1 from rfl, nI_ltI (by omega) (by omega)] at z
        rw [show (20 : Int32) = nI 20 from rfl, nI_leI (by omega) (by omega)] at z2
        exact w2 ⟨k, by omega, z2, rfl⟩)] at e1
      exact pair_fin e1 e2 rfl
  rw [show F_Mod_in (nI n) 1 20 = some 1 from w1, bI_s, if_neg (by decide), x1, bI_s, m_isInStore (hL1.kQ x4) hx, bI2_s, inB_k mc, inB_r x2 nf h6] at e2
  rw [if_neg (by rw [show (1 : Int32) = nI 1 from rfl, nI_ltI (by omega) (by omega)]; omega), if_pos (by rw [show (20 : Int32) = nI 20 from rfl, nI_leI (by omega) (by omega)]; exact hn), c_inStore hL hS.1 hx, bI_s] at e1
  by_cases z : inB M lv x (M 436) nf = true
  rotate_left
  · rw [if_neg z, if_pos rfl] at e1 e2
    exact pair_fin e1 e2 rfl
  rw [if_pos z, if_neg (by decide)] at e1 e2
  have f2 : Eo mQ Mc (fl Mc 438 0 6 (potD Mc lv nf x)) := fun c j w => fl_out (by unfold mQ at w; omega)
  generalize fl Mc 438 0 6 (potD Mc lv nf x) = Mb at f2 e2
  have kb := x4.tr f2
  obtain ⟨f, hf⟩ := FU_k (1 + n) (by omega)
  obtain ⟨v, X, Y, u1, u2⟩ := year_loop hL hS.1 (g1.inv.keep inv_MS1 (kQ_M1 kb)) (hL1.kQ kb) (fun c j p q => (mQ_M kb c j p q).trans (m1 c j (by omega))) (fun k hk => by rw [kb 436 k (by unfold mQ; omega), m1 436 k (by omega)]) hx (by omega) hn z (lim := nI l) (j := j) n 0 f f M Mb 0 (Nat.zero_add _) Kl.rf Eo.rf
  have c1 : H_Main_year_70 ld (nI x) (nI j) (nI l) (nI n) FU 0 0 M = some (v, X) := by rw [hf, ← Nat.add_assoc]; exact u1
  have c2 : H_Mod_year_61 (nI x) (nI j) (nI l) (nI n) FU 0 0 Mb = some (v, Y) := by rw [hf, ← Nat.add_assoc]; exact u2
  rw [c1] at e1
  rw [c2] at e2
  exact pair_fin e1 e2 rfl
end TW
end PAR46
