/-! pot, by the model -/
section PAR62
def mPt (c j : Nat) : Prop := mV c j ∨ c = 438 ∨ (c = 401 ∧ 59 ≤ j ∧ j ≤ 62)
theorem mPt_Q : ∀ c j, mPt c j → mQ c j := fun c j h => by unfold mPt mV at h; unfold mQ; omega
theorem mV_Pt : ∀ c j, mV c j → mPt c j := fun c j h => Or.inl h
theorem sm_bl {g : Nat → Int32} {a : Nat → Nat} : ∀ n, (∀ f, f < n → g f = nI (a f)) → sm g n = nI (bl7 a n)
  | 0, _ => rfl
  | n + 1, h => by
    show sm g n + g n = nI (bl7 a n + a n)
    rw [sm_bl n (fun f hf => h f (by omega)), h n (by omega), nI_add]
theorem pa7_f {st : Nat → Nat} {w j : Nat} (hj : j < 6) (h : st j < d7 w j) : pb7 st w = false := by
  cases q : pb7 st w with
  | false => rfl
  | true =>
    have := (pb7_e.mp q).1 j hj
    omega
section MP
variable {D Q q ld lv nf nd ng ne : Nat} {M M' M1 Mc Mb : gM} {L : gL} {r : Nat → Int32}
/-- the row of amounts in the model -/
def Rm7 (w : Nat) (N : gM) : Prop := ∀ f, f < 6 → N 438 f = nI (d7 w (5 - f))
theorem Rm7.many {w : Nat} {N : gM} (h : Rm7 w N) : sm (N 438) 6 = nI (sd7 6 w) := by
  rw [sm_bl (a := fun x => d7 w (5 - x)) 6 h]
  exact congrArg nI am7_6
theorem m_isPot (hL : Lnd ld lv nf nd ng ne M) {st : Nat → Nat} (hst : ∀ j, st j ≤ 99) (hnf : ∀ f, f < 6 → nf ≤ f → st (5 - f) = 0) {w : Nat} (hw : w < 117649) (w0 : w ≠ 0) (h7 : ∀ x, x < 6 → M 437 x = nI (st (5 - x))) : ∃ X, F_Mod_isPot (nI w) M = some (b32 (pb7 st w), X) ∧ Eo (fun c _ => c = 438) M X ∧ (pb7 st w = true → Rm7 w X) := by
  have h6 := hL.nf6
  have h1 := hL.l1
  have q6 := q7_6
  have key : ∀ (s f g : Nat) (N : gM), f + s = 6 → Eo (fun c _ => c = 438) M N → (∀ x, x < f → N 438 x = nI (d7 w (5 - x)) ∧ d7 w (5 - x) ≤ st (5 - x)) → ∃ X, H_Mod_isPot_2 (nI w) (g + 1 + s) (nI f) N = some (b32 (pb7 st w), X) ∧ Eo (fun c _ => c = 438) M X ∧ (pb7 st w = true → Rm7 w X) := by
    intro s
    induction s with
    | zero =>
      intro f g N hf e hx
      obtain rfl : f = 6 := by omega
      have hR : Rm7 w N := fun f hf => (hx f hf).1
      refine ⟨N, ?_, e, fun _ => hR⟩
      show B_Mod_isPot_2 (nI w) (H_Mod_isPot_2 (nI w) g) (nI 6) N = _
      generalize H_Mod_isPot_2 (nI w) g = H
      unfold B_Mod_isPot_2 J_Mod_isPot_70
      have s1 : sd7 6 w ≠ 0 := fun z => by
        have := sd7_zero 6 z
        rw [Nat.mod_eq_of_lt (by omega)] at this
        exact w0 this
      have s2 : sd7 6 w ≤ 36 := by rw [← am7_6]; exact am7_le 6
      rw [if_pos (by decide), m_potMany, bI_s, hR.many]
      unfold F_Mod_in
      rw [if_neg (by rw [show (1 : Int32) = nI 1 from rfl, nI_ltI (by omega) (by omega)]; omega)]
      by_cases z : sd7 6 w ≤ 6
      · rw [if_neg (by rw [show (6 : Int32) = nI 6 from rfl, nI_ltI (by omega) (by omega)]; omega), bI_s, if_pos (Or.inr rfl), pb7_e.mpr ⟨fun j hj => by
          have := (hx (5 - j) (by omega)).2
          rw [show 5 - (5 - j) = j by omega] at this
          exact this, z⟩]
        rfl
      · rw [if_pos (by rw [show (6 : Int32) = nI 6 from rfl, nI_ltI (by omega) (by omega)]; omega), bI_s, if_pos (Or.inl rfl)]
        have : pb7 st w = false := by
          cases q : pb7 st w with
          | false => rfl
          | true => exact absurd (pb7_e.mp q).2 z
        rw [this]
        rfl
    | succ s ih =>
      intro f g N hf e hx
      have hN : Lnd ld lv nf nd ng ne N := hL.kQ (e.mono (fun c j z => by unfold mQ; have : c = 438 := z; omega))
      have d6 := d7_6 w (5 - f)
      have lp := q7_le (5 - f) (by omega)
      have pp := q7_pos (5 - f)
      have wl : w / q7 (5 - f) < 2 ^ 31 := Nat.lt_of_le_of_lt (Nat.div_le_self _ _) (by omega)
      have e6 : nI w / nI (q7 (5 - f)) - nI w / nI (q7 (5 - f)) / 7 * 7 = nI (d7 w (5 - f)) := by
        rw [pk_div (by omega) pp (by omega), show (7 : Int32) = nI 7 from rfl, pk_rem wl (by decide) (by decide)]
        rfl
      have n7 : N 437 f = nI (st (5 - f)) := (e 437 f (show ¬ (437 : Nat) = 438 by decide)).trans (h7 f (by omega))
      have s9 := hst (5 - f)
      have ih' := fun hd : d7 w (5 - f) ≤ st (5 - f) => ih (f + 1) g (uM N 438 f (nI (d7 w (5 - f)))) (by omega) (e.u rfl) (fun x hx' => by
        by_cases z : x = f
        · rw [z, uM_same]; exact ⟨rfl, hd⟩
        · rw [uM_diff (by omega)]; exact hx x (by omega))
      have e1 : Eo (fun c _ => c = 438) M (uM N 438 f (nI (d7 w (5 - f)))) := e.u rfl
      have e0 : ∀ H : Int32 → gM → Option (Int32 × gM), B_Mod_isPot_2 (nI w) H (nI f) N = (if d7 w (5 - f) = 0 then H (nI (f + 1)) (uM N 438 f (nI (d7 w (5 - f)))) else if nf ≤ f then some (0, uM N 438 f (nI (d7 w (5 - f)))) else if d7 w (5 - f) ≤ st (5 - f) then H (nI (f + 1)) (uM N 438 f (nI (d7 w (5 - f)))) else some (0, uM N 438 f (nI (d7 w (5 - f))))) := fun H => by
        unfold B_Mod_isPot_2 J_Mod_isPot_64
        rw [if_neg (by rw [show (6 : Int32) = nI 6 from rfl, nI_leI (by omega) (by omega)]; omega), show (5 : Int32) - nI f = nI (5 - f) by rw [show (5 : Int32) = nI 5 from rfl, nI_sub (by omega)], m_sevens (by omega), bI_s, if_neg (nI_ne0 pp (by omega)), if_neg (nI_in (by omega) (by omega)), nI_clamp (by omega), e6, nmM_e, if_neg (nI_inc (by omega) (by omega)), uM_same, nmI_e, nI_1, uM_diff (show ¬ ((401 : Nat) = 438 ∧ (18 : Nat) = f) by omega), hN.l18, if_neg (nI_in (by omega) (by omega)), nI_clamp (by omega), uM_diff (show ¬ ((411 : Nat) = 438 ∧ lv = f) by omega), hN.mf, uM_diff (show ¬ ((437 : Nat) = 438 ∧ f = f) by omega), n7, if_neg (nI_inc (by omega) (by omega)), if_neg (nI_inc (by omega) (by omega))]
        by_cases z : d7 w (5 - f) = 0
        · rw [if_pos z, if_pos (by rw [z]; decide)]
        rw [if_neg z, if_neg (by rw [show (0 : Int32) = nI 0 from rfl, nI_leI (by omega) (by omega)]; omega)]
        by_cases y : nf ≤ f
        · rw [if_pos y, if_pos (by rw [nI_leI (by omega) (by omega)]; exact y)]
        rw [if_neg y, if_neg (by rw [nI_leI (by omega) (by omega)]; exact y)]
        by_cases x : d7 w (5 - f) ≤ st (5 - f)
        · rw [if_pos x, if_pos (by rw [nI_leI (by omega) (by omega)]; exact x)]
        · rw [if_neg x, if_neg (by rw [nI_leI (by omega) (by omega)]; exact x)]
      show ∃ X, B_Mod_isPot_2 (nI w) (H_Mod_isPot_2 (nI w) (g + 1 + s)) (nI f) N = _ ∧ _
      rw [e0]
      by_cases z : d7 w (5 - f) = 0
      · rw [if_pos z]
        exact ih' (by omega)
      rw [if_neg z]
      by_cases y : nf ≤ f
      · rw [if_pos y]
        have hb := pa7_f (st := st) (w := w) (j := 5 - f) (by omega) (by rw [hnf f (by omega) y]; omega)
        exact ⟨_, by rw [hb]; rfl, e1, fun q => by rw [hb] at q; cases q⟩
      rw [if_neg y]
      by_cases x : d7 w (5 - f) ≤ st (5 - f)
      · rw [if_pos x]
        exact ih' x
      · rw [if_neg x]
        have hb := pa7_f (st := st) (w := w) (j := 5 - f) (by omega) (by omega)
        exact ⟨_, by rw [hb]; rfl, e1, fun q => by rw [hb] at q; cases q⟩
  unfold F_Mod_isPot
  obtain ⟨g, hg⟩ := FU_k (1 + 6) (by omega)
  rw [hg, ← Nat.add_assoc]
  exact key 6 0 g M (by omega) Eo.rf (fun x hx => absurd hx (Nat.not_lt_zero _))
/-- the force of the model's pot -/
theorem m_force7 {N : gM} (hN : Lnd ld lv nf nd ng ne N) (mN : ∀ c j, 411 ≤ c → c ≤ 432 → N c j = M c j) {w j h : Nat} {day : Int32} (hR : Rm7 w N) (hd : N 437 35 = day) (hj : j < 3) : ∃ X, F_Mod_forceBy (nI j) (nI h) N = some (pFo M lv nf day w j h, X) ∧ Eo mV N X := by
  have h6 := hN.nf6
  obtain ⟨X, x1, x2⟩ := m_forceBy hN (j := j) (heat := nI h) hj
  refine ⟨X, ?_, x2⟩
  rw [x1]
  unfold pFo pSm
  rw [potS_k mN, hR.many, hd, sm_c nf (fun k hk => show N 438 k * N 414 (3 * (6 * lv + k) + j) = nI (d7 w (5 - k)) * M 414 (3 * (6 * lv + k) + j) by rw [hR k (by omega), mN 414 _ (by decide) (by decide)])]
/-- the least heat that is enough -/
theorem m_potAt (hL : Lnd ld lv nf nd ng ne Mb) (mb : ∀ c j, 411 ≤ c → c ≤ 432 → Mb c j = M c j) {w : Nat} {day : Int32} {ls : Nat → Int32} {N0 : gM} (e0 : Eo mQ Mb N0) (hR : Rm7 w N0) (hd : N0 437 35 = day) : ∃ X, F_Mod_potAt (ls 0) (ls 1) (ls 2) N0 = some (oI (fs7 (pEn M lv nf day ls w) 10 0), X) ∧ Eo mV N0 X := by
  have key : ∀ (s h f : Nat) (N : gM), h + s = 10 → Eo mV N0 N → ∃ X, H_Mod_potAt_3 (ls 0) (ls 1) (ls 2) (f + 1 + s) (nI h) N = some (oI (fs7 (pEn M lv nf day ls w) s h), X) ∧ Eo mV N0 X := by
    intro s
    induction s with
    | zero =>
      intro h f N hh eN
      obtain rfl : h = 10 := by omega
      refine ⟨N, ?_, eN⟩
      show B_Mod_potAt_3 (ls 0) (ls 1) (ls 2) (H_Mod_potAt_3 (ls 0) (ls 1) (ls 2) f) (nI 10) N = _
      generalize H_Mod_potAt_3 (ls 0) (ls 1) (ls 2) f = H
      unfold B_Mod_potAt_3
      rw [if_pos (by decide)]
      rfl
    | succ s ih =>
      intro h f N hh eN
      have step : ∀ {A : gM} {j : Nat}, Eo mV N0 A → j < 3 → ∃ X, F_Mod_forceBy (nI j) (nI h) A = some (pFo M lv nf day w j h, X) ∧ Eo mV N0 X := fun {A j} eA hj => by
        have eA' := e0.tr (eA.mono mV_mQ)
        obtain ⟨X, x1, x2⟩ := m_force7 (M := M) (hL.kQ eA') (fun c j a b => (mQ_M eA' c j a b).trans (mb c j a b)) (w := w) (j := j) (h := h) (day := day) (fun f hf => (eA 438 f (by unfold mV; omega)).trans (hR f hf)) ((eA 437 35 (by unfold mV; omega)).trans hd) hj
        exact ⟨X, x1, eA.tr x2⟩
      obtain ⟨A, a1, a2⟩ := step eN (show 0 < 3 by decide)
      obtain ⟨B, b1, b2⟩ := step a2 (show 1 < 3 by decide)
      obtain ⟨C, c1, c2⟩ := step b2 (show 2 < 3 by decide)
      have iA := ih (h + 1) f A (by omega) a2
      have iB := ih (h + 1) f B (by omega) b2
      have iC := ih (h + 1) f C (by omega) c2
      have lt : ∀ {x y : Int32}, x < y → ¬ y ≤ x := fun {x y} z => Int32.not_le.mpr z
      show ∃ X, B_Mod_potAt_3 (ls 0) (ls 1) (ls 2) (H_Mod_potAt_3 (ls 0) (ls 1) (ls 2) (f + 1 + s)) (nI h) N = some (oI (if pEn M lv nf day ls w h = true then some h else fs7 (pEn M lv nf day ls w) s (h + 1)), X) ∧ _
      generalize H_Mod_potAt_3 (ls 0) (ls 1) (ls 2) (f + 1 + s) = H at iA iB iC ⊢
      have hE : pEn M lv nf day ls w h = (decide (ls 0 ≤ pFo M lv nf day w 0 h) && (decide (ls 1 ≤ pFo M lv nf day w 1 h) && (decide (ls 2 ≤ pFo M lv nf day w 2 h) && true))) := rfl
      unfold B_Mod_potAt_3 J_Mod_potAt_46
      rw [hE, if_neg (by rw [show (9 : Int32) = nI 9 from rfl, nI_ltI (by omega) (by omega)]; omega), show F_Mod_forceBy 0 (nI h) N = _ from a1, bI2_s, nmI_e, nI_1]
      by_cases z0 : pFo M lv nf day w 0 h < ls 0
      · rw [if_pos z0, decide_eq_false (lt z0), Bool.false_and, if_neg (by decide)]
        exact iA
      rw [if_neg z0, decide_eq_true (Int32.not_lt.mp z0), Bool.true_and, show F_Mod_forceBy 1 (nI h) A = _ from b1, bI2_s, nmI_e]
      by_cases z1 : pFo M lv nf day w 1 h < ls 1
      · rw [if_pos z1, decide_eq_false (lt z1), Bool.false_and, if_neg (by decide)]
        exact iB
      rw [if_neg z1, decide_eq_true (Int32.not_lt.mp z1), Bool.true_and, show F_Mod_forceBy 2 (nI h) B = _ from c1, bI2_s, nmI_e]
      by_cases z2 : pFo M lv nf day w 2 h < ls 2
      · rw [if_pos z2, decide_eq_false (lt z2), Bool.false_and, if_neg (by decide)]
        exact iC
      · rw [if_neg z2, decide_eq_true (Int32.not_lt.mp z2), Bool.true_and, if_pos rfl]
        exact ⟨C, rfl, c2⟩
  unfold F_Mod_potAt
  obtain ⟨f, hf⟩ := FU_k (1 + 10) (by omega)
  rw [hf, ← Nat.add_assoc]
  exact key 10 0 f N0 (by omega) Eo.rf
/-- the best so far, in the model's places -/
def MpS (M : gM) (lv nf : Nat) (o : Option (Nat × Nat)) (N : gM) : Prop := match o with
  | none => N 401 59 = -1
  | some (w, h) => N 401 59 = nI w ∧ N 401 60 = pPr M lv nf w ∧ N 401 61 = nI (sd7 6 w) ∧ N 401 62 = nI h
theorem MpS.k {o : Option (Nat × Nat)} {N N' : gM} (h : MpS M lv nf o N) (e : ∀ j, 59 ≤ j → j ≤ 62 → N' 401 j = N 401 j) : MpS M lv nf o N' := by
  match o, h with
  | none, h => exact (e 59 (by omega) (by omega)).trans h
  | some (w, x), h => exact ⟨(e 59 (by omega) (by omega)).trans h.1, (e 60 (by omega) (by omega)).trans h.2.1, (e 61 (by omega) (by omega)).trans h.2.2.1, (e 62 (by omega) (by omega)).trans h.2.2.2⟩
theorem m_potPr {N : gM} (hN : Lnd ld lv nf nd ng ne N) (mN : ∀ c j, 411 ≤ c → c ≤ 432 → N c j = M c j) {w : Nat} (hR : Rm7 w N) : F_Mod_potPrice N = some (pPr M lv nf w) := by
  have h6 := hN.nf6
  rw [m_potPrice hN]
  unfold pPr
  rw [sm_c nf (fun k hk => show N 438 k * N 413 (6 * lv + k) = nI (d7 w (5 - k)) * M 413 (6 * lv + k) by rw [hR k (by omega), mN 413 _ (by decide) (by decide)])]
/-- one pot that can be, by the model -/
theorem m_try7 (hL : Lnd ld lv nf nd ng ne Mb) (mb : ∀ c j, 411 ≤ c → c ≤ 432 → Mb c j = M c j) {w : Nat} (hw : w < 117649) {day : Int32} {ls : Nat → Int32} {N : gM} (e0 : Eo mPt Mb N) (hR : Rm7 w N) (hd : N 437 35 = day) (hs6 : sd7 6 w ≤ 6) {o : Option (Nat × Nat)} (ho : ∀ w0 h0, o = some (w0, h0) → sd7 6 w0 ≤ 6 ∧ h0 < 10 ∧ w0 ≤ 117648) (hM : MpS M lv nf o N) {v4 : Int32} (K : Int32 → gM → Option (Int32 × gM)) (v5 : Int32) (hv5 : v5 = nI w) : ∃ X, (if (N 401 59) < 0 then J_Mod_pot_96 K (ls 0) (ls 1) (ls 2) v4 v5 N else bI (F_Mod_potPrice N) (fun r48 => (if r48 ≤ (N 401 60) then J_Mod_pot_96 K (ls 0) (ls 1) (ls 2) v4 v5 N else J_Mod_pot_150 K (ls 0) (ls 1) (ls 2) v4 v5 N))) = K (v5 + -1) X ∧ Eo mPt Mb X ∧ MpS M lv nf (up7 (pEn M lv nf day ls) (pPr M lv nf) o w) X := by
  have e0Q := e0.mono mPt_Q
  have hN := hL.kQ e0Q
  have mN : ∀ c j, 411 ≤ c → c ≤ 432 → N c j = M c j := fun c j a b => (mQ_M e0Q c j a b).trans (mb c j a b)
  obtain ⟨A, a1, a2⟩ := m_potAt (M := M) hL mb (w := w) (day := day) (ls := ls) e0Q hR hd
  have aQ := e0Q.tr (a2.mono mV_mQ)
  have eA : Eo mPt Mb A := e0.tr (a2.mono mV_Pt)
  have hA := hL.kQ aQ
  have mA : ∀ c j, 411 ≤ c → c ≤ 432 → A c j = M c j := fun c j a b => (mQ_M aQ c j a b).trans (mb c j a b)
  have rA : Rm7 w A := fun f hf => (a2 438 f (by unfold mV; omega)).trans (hR f hf)
  have kA : ∀ o, MpS M lv nf o N → MpS M lv nf o A := fun o h => h.k (fun j a b => a2 401 j (by unfold mV; omega))
  -- a new best
  have take : ∀ h, ∃ X, nmM (uM A 401 59 v5) (fun M39 => bI (F_Mod_potPrice M39) (fun r41 => nmM (uM M39 401 60 r41) (fun M42 => bI (F_Mod_potMany M42) (fun r44 => nmM (uM M42 401 61 r44) (fun M45 => nmM (uM M45 401 62 (nI h)) (fun M46 => J_Mod_pot_150 K (ls 0) (ls 1) (ls 2) v4 v5 M46)))))) = K (v5 + -1) X ∧ Eo mPt Mb X ∧ MpS M lv nf (some (w, h)) X := fun h => by
    have u1 : Eo mPt Mb (uM A 401 59 v5) := eA.u (Or.inr (Or.inr (by omega)))
    have p1 := m_potPr (M := M) (hL.kQ (u1.mono mPt_Q)) (fun c j a b => (mQ_M (u1.mono mPt_Q) c j a b).trans (mb c j a b)) (w := w) (fun f hf => by rw [uM_diff (by omega)]; exact rA f hf)
    have r2 : Rm7 w (uM (uM A 401 59 v5) 401 60 (pPr M lv nf w)) := fun f hf => by rw [uM_diff (by omega), uM_diff (by omega)]; exact rA f hf
    refine ⟨uM (uM (uM (uM A 401 59 v5) 401 60 (pPr M lv nf w)) 401 61 (nI (sd7 6 w))) 401 62 (nI h), ?_, (((u1.u (show mPt 401 60 from Or.inr (Or.inr (by omega)))).u (show mPt 401 61 from Or.inr (Or.inr (by omega)))).u (show mPt 401 62 from Or.inr (Or.inr (by omega)))), ?_⟩
    · rw [nmM_e, p1, bI_s, nmM_e, m_potMany, bI_s, nmM_e, nmM_e, r2.many]
      rfl
    · refine ⟨?_, ?_, ?_, ?_⟩
      · rw [uM_diff (by omega), uM_diff (by omega), uM_diff (by omega), uM_same, hv5]
      · rw [uM_diff (by omega), uM_diff (by omega), uM_same]
      · rw [uM_diff (by omega), uM_same]
      · rw [uM_same]
  -- the look at the heats
  have look : ∀ o', (∀ h, fs7 (pEn M lv nf day ls w) 10 0 = some h → F_Mod_isBetter (nI h) A = some 1 ∧ o' = some (w, h) ∨ F_Mod_isBetter (nI h) A = some 0 ∧ o' = o) → (fs7 (pEn M lv nf day ls w) 10 0 = none → o' = o) → ∃ X, J_Mod_pot_96 K (ls 0) (ls 1) (ls 2) v4 v5 N = K (v5 + -1) X ∧ Eo mPt Mb X ∧ MpS M lv nf o' X := fun o' h1 h2 => by
    unfold J_Mod_pot_96
    rw [a1, bI2_s]
    cases q : fs7 (pEn M lv nf day ls w) 10 0 with
    | none =>
      rw [if_pos (show oI none < 0 by decide), h2 q]
      exact ⟨A, rfl, eA, kA _ hM⟩
    | some h =>
      have l := fs7_in _ _ _ q
      rw [if_neg (show ¬ oI (some h) < 0 from nI_pos (by omega))]
      rcases h1 h q with ⟨b1, b2⟩ | ⟨b1, b2⟩
      · rw [show F_Mod_isBetter (oI (some h)) A = some 1 from b1, bI_s, if_neg (by decide), b2]
        exact take h
      · rw [show F_Mod_isBetter (oI (some h)) A = some 0 from b1, bI_s, if_pos rfl, b2]
        exact ⟨A, rfl, eA, kA _ hM⟩
  match o, ho, hM, kA, look with
  | none, ho, hM, kA, look =>
    have h59 : N 401 59 = -1 := hM
    rw [h59, if_pos (by decide)]
    refine look _ (fun h q => Or.inl ⟨?_, up7_f q⟩) (fun q => up7_n q)
    unfold F_Mod_isBetter
    rw [show A 401 59 = -1 from kA none hM, if_neg (by decide)]
  | some (w0, h0), ho, hM, kA, look =>
    obtain ⟨s0, hh0, hw0⟩ := ho w0 h0 rfl
    have hAo := kA _ hM
    obtain ⟨m59, m60, m61, m62⟩ := id hM
    have stay : J_Mod_pot_150 K (ls 0) (ls 1) (ls 2) v4 v5 N = K (v5 + -1) N := rfl
    have better : ∀ h, h < 10 → F_Mod_isBetter (nI h) A = some (if pPr M lv nf w < pPr M lv nf w0 then 1 else if pPr M lv nf w = pPr M lv nf w0 then (if sd7 6 w < sd7 6 w0 then 1 else if sd7 6 w = sd7 6 w0 then (if h < h0 then 1 else 0) else 0) else 0) := fun h hh => by
      unfold F_Mod_isBetter
      rw [hAo.1, if_pos (nI_pos' (by omega)), m_potPr (M := M) hA mA rA, bI_s, bI_s, hAo.2.1, m_potMany, bI_s, bI_s, rA.many, hAo.2.2.1, hAo.2.2.2]
      by_cases p2 : pPr M lv nf w = pPr M lv nf w0
      · rw [if_pos p2, if_neg (show ¬ pPr M lv nf w < pPr M lv nf w0 by rw [i_lt, p2]; omega), if_pos p2]
        by_cases m2 : sd7 6 w = sd7 6 w0
        · rw [if_pos (by rw [m2]), if_neg (show ¬ sd7 6 w < sd7 6 w0 by omega), if_pos m2]
          by_cases l : h < h0
          · rw [if_pos l, if_neg (by rw [nI_leI (by omega) (by omega)]; omega)]
          · rw [if_neg l, if_pos (by rw [nI_leI (by omega) (by omega)]; omega)]
        · rw [if_neg (fun z => m2 ((nI_eq (by omega) (by omega)).mp z)), if_neg m2]
          by_cases l : sd7 6 w < sd7 6 w0
          · rw [if_pos l, if_neg (by rw [nI_leI (by omega) (by omega)]; omega)]
          · rw [if_neg l, if_pos (by rw [nI_leI (by omega) (by omega)]; omega)]
      · rw [if_neg p2, if_neg p2]
        by_cases l : pPr M lv nf w < pPr M lv nf w0
        · rw [if_pos l, if_neg (Int32.not_le.mpr l)]
        · rw [if_neg l, if_pos (Int32.not_lt.mp l)]
    rw [m59, if_neg (nI_pos (by omega)), m_potPr (M := M) hN mN hR, bI_s, m60]
    by_cases p1 : pPr M lv nf w ≤ pPr M lv nf w0
    rotate_left
    · rw [if_neg p1]
      refine ⟨N, stay, e0, ?_⟩
      cases q : fs7 (pEn M lv nf day ls w) 10 0 with
      | none => rw [up7_n q]; exact hM
      | some h =>
        rw [i_le] at p1
        rw [up7_s q, if_neg (show ¬ pPr M lv nf w < pPr M lv nf w0 by rw [i_lt]; omega), if_neg (fun z => by rw [z] at p1; omega)]
        exact hM
    rw [if_pos p1]
    refine look _ (fun h q => ?_) (fun q => up7_n q)
    have l := fs7_in _ _ _ q
    rw [better h (by omega), up7_s q]
    by_cases c1 : pPr M lv nf w < pPr M lv nf w0
    · rw [if_pos c1, if_pos c1]; exact Or.inl ⟨rfl, rfl⟩
    rw [if_neg c1, if_neg c1]
    by_cases c2 : pPr M lv nf w = pPr M lv nf w0
    rotate_left
    · rw [if_neg c2, if_neg c2]; exact Or.inr ⟨rfl, rfl⟩
    rw [if_pos c2, if_pos c2]
    by_cases c3 : sd7 6 w < sd7 6 w0
    · rw [if_pos c3, if_pos c3]; exact Or.inl ⟨rfl, rfl⟩
    rw [if_neg c3, if_neg c3]
    by_cases c4 : sd7 6 w = sd7 6 w0
    rotate_left
    · rw [if_neg c4, if_neg c4]; exact Or.inr ⟨rfl, rfl⟩
    rw [if_pos c4, if_pos c4]
    by_cases c5 : h < h0
    · rw [if_pos c5, if_pos c5]; exact Or.inl ⟨rfl, rfl⟩
    · rw [if_neg c5, if_neg c5]; exact Or.inr ⟨rfl, rfl⟩
theorem m_potLoop (hL : Lnd ld lv nf nd ng ne Mb) (mb : ∀ c j, 411 ≤ c → c ≤ 432 → Mb c j = M c j) {st : Nat → Nat} (hst : ∀ j, st j ≤ 99) (hnf : ∀ f, f < 6 → nf ≤ f → st (5 - f) = 0) (h7 : ∀ x, x < 6 → Mb 437 x = nI (st (5 - x))) {day : Int32} (hd : Mb 437 35 = day) {ls : Nat → Int32} {v4 : Int32} : ∀ (w f : Nat) (N : gM), w ≤ 117648 → Eo mPt Mb N → MpS M lv nf (ps7 st (pEn M lv nf day ls) (pPr M lv nf) (117648 - w)) N → ∃ X, H_Mod_pot_61 (ls 0) (ls 1) (ls 2) v4 (f + 1 + w) (nI w) N = J_Mod_pot_156 v4 X ∧ MpS M lv nf (ps7 st (pEn M lv nf day ls) (pPr M lv nf) 117648) X := by
  intro w
  induction w with
  | zero =>
    intro f N _ e hM
    refine ⟨N, ?_, hM⟩
    show B_Mod_pot_61 (ls 0) (ls 1) (ls 2) v4 (H_Mod_pot_61 (ls 0) (ls 1) (ls 2) v4 f) (nI 0) N = _
    generalize H_Mod_pot_61 (ls 0) (ls 1) (ls 2) v4 f = H
    unfold B_Mod_pot_61
    rw [if_pos (by decide)]
  | succ w ih =>
    intro f N hw e hM
    have eQ := e.mono mPt_Q
    have fr : ∀ x, N 437 x = Mb 437 x := fun x => e 437 x (by unfold mPt mV; omega)
    obtain ⟨A, a1, a2, a3⟩ := m_isPot (hL.kQ eQ) hst hnf (w := w + 1) (by omega) (by omega) (fun x hx => (fr x).trans (h7 x hx))
    have eA : Eo mPt Mb A := e.tr (fun c j z => a2 c j (fun y => z (Or.inr (Or.inl y))))
    have aM : MpS M lv nf (ps7 st (pEn M lv nf day ls) (pPr M lv nf) (117648 - (w + 1))) A := hM.k (fun j a b => a2 401 j (show ¬ (401 : Nat) = 438 by decide))
    have hu : ps7 st (pEn M lv nf day ls) (pPr M lv nf) (117648 - w) = if pb7 st (w + 1) = true then up7 (pEn M lv nf day ls) (pPr M lv nf) (ps7 st (pEn M lv nf day ls) (pPr M lv nf) (117648 - (w + 1))) (w + 1) else ps7 st (pEn M lv nf day ls) (pPr M lv nf) (117648 - (w + 1)) := by
      rw [show 117648 - w = 117648 - (w + 1) + 1 by omega]
      show (if pb7 st (117648 - (117648 - (w + 1))) = true then up7 _ _ _ (117648 - (117648 - (w + 1))) else _) = _
      rw [show 117648 - (117648 - (w + 1)) = w + 1 by omega]
    have hn := ih f
    show ∃ X, B_Mod_pot_61 (ls 0) (ls 1) (ls 2) v4 (H_Mod_pot_61 (ls 0) (ls 1) (ls 2) v4 (f + 1 + w)) (nI (w + 1)) N = _ ∧ _
    generalize H_Mod_pot_61 (ls 0) (ls 1) (ls 2) v4 (f + 1 + w) = H at hn ⊢
    unfold B_Mod_pot_61
    rw [if_neg (by rw [show (0 : Int32) = nI 0 from rfl, nI_leI (by omega) (by omega)]; omega), a1, bI2_s]
    by_cases z : pb7 st (w + 1) = true
    rotate_left
    · rw [if_neg z] at hu
      obtain ⟨X, x1, x2⟩ := hn A (by omega) eA (by rw [hu]; exact aM)
      refine ⟨X, ?_, x2⟩
      rw [if_pos (b32_0.mpr z), ← x1]
      unfold J_Mod_pot_150
      rw [nmI_e, nI_m1]
    rw [if_pos z] at hu
    rw [if_neg (fun y => b32_0.mp y z)]
    obtain ⟨B, b1, b2, b3⟩ := m_try7 (M := M) hL mb (w := w + 1) (by omega) (day := day) (ls := ls) eA (a3 z) ((a2 437 35 (show ¬ (437 : Nat) = 438 by decide)).trans ((fr 35).trans hd)) (pb7_e.mp z).2 (o := ps7 st (pEn M lv nf day ls) (pPr M lv nf) (117648 - (w + 1))) (fun w0 h0 y => by
      obtain ⟨y1, y2, y3, y4⟩ := ps7_in _ w0 h0 (by omega) y
      exact ⟨y1.2, y2, y4⟩) aM (v4 := v4) H (nI (w + 1)) rfl
    rw [b1, nI_m1]
    exact hn B (by omega) b2 (by rw [hu]; exact b3)
/-- the answer of a pot -/
def ptS (M : gM) (lv nf : Nat) (o : Option (Nat × Nat)) (k : Nat) : Int32 := match o with
  | none => -2
  | some (w, h) => if k = 0 then pPr M lv nf w else if k = 1 then nI h else nI (d7 w (7 - k))
theorem m_potEnd {o : Option (Nat × Nat)} (ho : ∀ w0 h0, o = some (w0, h0) → w0 ≤ 117648) {X : gM} (hM : MpS M lv nf o X) {k : Nat} (hk : k ≤ 7) : J_Mod_pot_156 (nI k) X = some (ptS M lv nf o k, X) := by
  unfold J_Mod_pot_156
  cases o with
  | none =>
    rw [show X 401 59 = -1 from hM, if_neg (by decide)]
    rfl
  | some p =>
    obtain ⟨w, h⟩ := p
    have hw := ho w h rfl
    rw [hM.1, if_pos (nI_pos' (by omega)), hM.2.1, hM.2.2.2]
    show _ = some (if k = 0 then pPr M lv nf w else if k = 1 then nI h else nI (d7 w (7 - k)), X)
    by_cases k0 : k = 0
    · rw [if_pos k0, if_pos (by rw [k0]; rfl)]
    rw [if_neg k0, if_neg (nI_ne0 (by omega) (by omega))]
    by_cases k1 : k = 1
    · rw [if_pos k1, if_pos (by rw [k1]; rfl)]
    have lp := q7_le (7 - k) (by omega)
    have pp := q7_pos (7 - k)
    have wl : w / q7 (7 - k) < 2 ^ 31 := Nat.lt_of_le_of_lt (Nat.div_le_self _ _) (by omega)
    rw [if_neg k1, if_neg (show ¬ nI k = (1 : Int32) from fun z => k1 ((nI_eq (a := k) (b := 1) (by omega) (by omega)).mp z)), show (7 : Int32) - nI k = nI (7 - k) by rw [show (7 : Int32) = nI 7 from rfl, nI_sub (by omega)], m_sevens (by omega), bI_s, if_neg (nI_ne0 pp (by omega)), pk_div (by omega) pp (by omega), show (7 : Int32) = nI 7 from rfl, pk_rem wl (by decide) (by decide)]
    rfl
theorem c_potEnd {hs : Nat} {o : Option (Nat × Nat)} {X : gM} (hC : CpS M lv nf hs o X) {k : Nat} (hk : k ≤ 7) : (if (if o = none then (0 : Int32) else 1) = 0 then some ((-2 : Int32), X) else (if nI k = 0 then some ((X 391 6), X) else (if nI k = 1 then some ((X 391 8), X) else bI (F_Main_at 395 6 (nI k - 2) X) (fun r20 => some (r20, X))))) = some (ptS M lv nf o k, X) := by
  cases o with
  | none => rw [if_pos rfl, if_pos rfl]; rfl
  | some p =>
    obtain ⟨w, h⟩ := p
    rw [if_neg (show ¬ (some (w, h) = (none : Option (Nat × Nat))) from fun z => nomatch z), if_neg (show ¬ (1 : Int32) = 0 by decide), hC.2.1, hC.2.2.2.1]
    show _ = some (if k = 0 then pPr M lv nf w else if k = 1 then nI h else nI (d7 w (7 - k)), X)
    by_cases k0 : k = 0
    · rw [if_pos k0, if_pos (by rw [k0]; rfl)]
    rw [if_neg k0, if_neg (nI_ne0 (by omega) (by omega))]
    by_cases k1 : k = 1
    · rw [if_pos k1, if_pos (by rw [k1]; rfl)]
    rw [if_neg k1, if_neg (show ¬ nI k = (1 : Int32) from fun z => k1 ((nI_eq (a := k) (b := 1) (by omega) (by omega)).mp z)), show nI k - 2 = nI (k - 2) by rw [show (2 : Int32) = nI 2 from rfl, nI_sub (by omega)], s_at (by omega) (by decide), bI_s, hC.2.2.2.2.2 (k - 2) (by omega), show 5 - (k - 2) = 7 - k by omega]
theorem v_pot (h : G1 q ld M L) (hq : q < 512) (a b c d : Int32) : ∃ r M1 r' M2, F_Main_pot ld a b c d M = some (r, M1) ∧ F_Mod_pot a b c d M1 = some (r', M2) ∧ G1 (q + 1) ld M2 L ∧ r = r' := by
  obtain ⟨r, M1, e1, -, k1⟩ := tf_Main_pot (p1 := a) (p2 := b) (p3 := c) (p4 := d) (M := M) h.1.la
  have g1 := h.1.kC1 k1
  obtain ⟨r', M2, e2, -, k2⟩ := tf_Mod_pot (p0 := a) (p1 := b) (p2 := c) (p3 := d) g1.inv
  refine ⟨r, M1, r', M2, e1, e2, h.q2 (g1.kM1 k2) k1 k2, ?_⟩
  obtain ⟨lv, nf, nd, ng, ne, hL, hS⟩ := h.get
  obtain ⟨hL1, m1, Mc, x1, x2, x3, hLc, mc⟩ := cop hL k1
  unfold F_Main_pot at e1
  unfold F_Mod_pot at e2
  rcases one_in0 a (n := 99) (by decide) with ⟨d1, d2⟩ | ⟨l0, h0, rfl, d1, d2⟩
  · rw [show F_Main_isOne a 100 = some 0 from d1, bI_s, if_pos rfl] at e1
    rw [show F_Mod_in a 0 99 = some 0 from d2, bI_s, if_pos rfl] at e2
    exact pair_fin e1 e2 rfl
  rw [show F_Main_isOne (nI l0) 100 = some 1 from d1, bI_s, if_neg (by decide)] at e1
  rw [show F_Mod_in (nI l0) 0 99 = some 1 from d2, bI_s, if_neg (by decide)] at e2
  rcases one_in0 b (n := 99) (by decide) with ⟨d1, d2⟩ | ⟨l1, h1, rfl, d1, d2⟩
  · rw [show F_Main_isOne b 100 = some 0 from d1, bI_s, if_pos rfl] at e1
    rw [show F_Mod_in b 0 99 = some 0 from d2, bI_s, if_pos rfl] at e2
    exact pair_fin e1 e2 rfl
  rw [show F_Main_isOne (nI l1) 100 = some 1 from d1, bI_s, if_neg (by decide)] at e1
  rw [show F_Mod_in (nI l1) 0 99 = some 1 from d2, bI_s, if_neg (by decide)] at e2
  rcases one_in0 c (n := 99) (by decide) with ⟨d1, d2⟩ | ⟨l2, h2, rfl, d1, d2⟩
  · rw [show F_Main_isOne c 100 = some 0 from d1, bI_s, if_pos rfl] at e1
    rw [show F_Mod_in c 0 99 = some 0 from d2, bI_s, if_pos rfl] at e2
    exact pair_fin e1 e2 rfl
  rw [show F_Main_isOne (nI l2) 100 = some 1 from d1, bI_s, if_neg (by decide)] at e1
  rw [show F_Mod_in (nI l2) 0 99 = some 1 from d2, bI_s, if_neg (by decide)] at e2
  rcases one_in0 d (n := 7) (by decide) with ⟨d1, d2⟩ | ⟨k, hk, rfl, d1, d2⟩
  · rw [show F_Main_isOne d 8 = some 0 from d1, bI_s, if_pos rfl] at e1
    rw [show F_Mod_in d 0 7 = some 0 from d2, bI_s, if_pos rfl] at e2
    exact pair_fin e1 e2 rfl
  rw [show F_Main_isOne (nI k) 8 = some 1 from d1, bI_s, if_neg (by decide)] at e1
  rw [show F_Mod_in (nI k) 0 7 = some 1 from d2, bI_s, if_neg (by decide), x1, bI_s, nmM_e, show F_Mod_sevens 6 = some (nI (q7 6)) from m_sevens (k := 6) (by decide), bI_s, nmI_e, show nI (q7 6) - 1 = nI 117648 by rw [q7_6]; decide] at e2
  have hSt := hS.1.2.2.2.2.2.1
  have key : ∀ j, ∃ x, x ≤ 99 ∧ (j < 6 → M 66 (5 - j) = nI x ∧ M 436 (5 - j) = nI x ∧ (nf ≤ 5 - j → x = 0)) := fun j => by
    by_cases hj : j < 6
    · obtain ⟨x, y1, y2, y3, y4⟩ := hSt (5 - j) (by omega)
      exact ⟨x, y1, fun _ => ⟨y2, y3, y4⟩⟩
    · exact ⟨0, by omega, fun z => absurd z hj⟩
  obtain ⟨st, hst⟩ := Classical.axiomOfChoice key
  have s1 : ∀ j, st j ≤ 99 := fun j => (hst j).1
  have s2 : ∀ f, f < 6 → M 66 f = nI (st (5 - f)) ∧ M 436 f = nI (st (5 - f)) ∧ (nf ≤ f → st (5 - f) = 0) := fun f hf => by
    have := (hst (5 - f)).2 (by omega)
    rw [show 5 - (5 - f) = f by omega] at this
    exact this
  generalize hls : (fun j : Nat => if j = 0 then nI l0 else if j = 1 then nI l1 else nI l2) = ls
  have ls0 : ls 0 = nI l0 := by rw [← hls]; rfl
  have ls1 : ls 1 = nI l1 := by rw [← hls]; rfl
  have ls2 : ls 2 = nI l2 := by rw [← hls]; rfl
  have lsx : ∀ j, j < 3 → ∃ l, l ≤ 99 ∧ ls j = nI l := fun j hj => by
    rcases (show j = 0 ∨ j = 1 ∨ j = 2 by omega) with z | z | z <;> subst z
    · exact ⟨l0, h0, ls0⟩
    · exact ⟨l1, h1, ls1⟩
    · exact ⟨l2, h2, ls2⟩
  obtain ⟨X, hs, y1, y2⟩ := c_pot hL s1 (fun f hf hn => (s2 f hf).2.2 hn) (fun f hf => (s2 f hf).1) (day := M 436 35) hS.1.d0 lsx
  rw [← ls0, ← ls1, ← ls2] at e1 e2
  rw [y1, bI2_s, c_potEnd y2 hk] at e1
  obtain ⟨f, hf⟩ := FU_k (1 + 117648) (by omega)
  obtain ⟨Y, z1, z2⟩ := m_potLoop (M := M) hLc mc s1 (fun f hf hn => (s2 f hf).2.2 hn) (fun x hx => (x2 x (by omega)).trans (s2 x hx).2.1) (day := M 436 35) (x2 35 (by omega)) (ls := ls) (v4 := nI k) 117648 f (uM Mc 401 59 (-1)) (Nat.le_refl _) (Eo.rf.u (Or.inr (Or.inr (by omega)))) (show uM Mc 401 59 (-1) 401 59 = -1 from uM_same)
  rw [hf, ← Nat.add_assoc, z1, m_potEnd (fun w0 h0 y => (ps7_in _ w0 h0 (Nat.le_refl _) y).2.2.2) z2 hk] at e2
  exact pair_fin e1 e2 rfl
end MP
end PAR62
