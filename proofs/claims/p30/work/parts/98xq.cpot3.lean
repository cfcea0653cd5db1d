/-! pot, by the class: all pots -/
section PAR61
theorem ps7_in {st : Nat → Nat} {p : Nat → Nat → Bool} {pr : Nat → Int32} : ∀ k w h, k ≤ 117648 → ps7 st p pr k = some (w, h) → pot7 st w ∧ h < 10 ∧ 0 < w ∧ w ≤ 117648
  | 0, _, _, _, e => by cases e
  | k + 1, w, h, hk, e => by
    have e' : (if pb7 st (117648 - k) = true then up7 p pr (ps7 st p pr k) (117648 - k) else ps7 st p pr k) = some (w, h) := e
    have ih := ps7_in (st := st) (p := p) (pr := pr) k
    by_cases z : pb7 st (117648 - k) = true
    rotate_left
    · rw [if_neg z] at e'
      exact ih w h (by omega) e'
    rw [if_pos z] at e'
    have hz := pb7_e.mp z
    cases q : fs7 (p (117648 - k)) 10 0 with
    | none =>
      rw [up7_n q] at e'
      exact ih w h (by omega) e'
    | some h1 =>
      have l := fs7_in _ _ _ q
      have new : some (117648 - k, h1) = some (w, h) → pot7 st w ∧ h < 10 ∧ 0 < w ∧ w ≤ 117648 := fun y => by
        obtain ⟨y1, y2⟩ := Prod.mk.inj (Option.some.inj y)
        rw [← y1, ← y2]
        exact ⟨hz, by omega, by omega, by omega⟩
      cases q2 : ps7 st p pr k with
      | none =>
        rw [q2, up7_f q] at e'
        exact new e'
      | some o =>
        obtain ⟨w0, h0⟩ := o
        have old : some (w0, h0) = some (w, h) → pot7 st w ∧ h < 10 ∧ 0 < w ∧ w ≤ 117648 := fun y => ih w h (by omega) (q2.trans y)
        rw [q2, up7_s q] at e'
        by_cases a : pr (117648 - k) < pr w0
        · rw [if_pos a] at e'; exact new e'
        rw [if_neg a] at e'
        by_cases b : pr (117648 - k) = pr w0
        rotate_left
        · rw [if_neg b] at e'; exact old e'
        rw [if_pos b] at e'
        by_cases c : sd7 6 (117648 - k) < sd7 6 w0
        · rw [if_pos c] at e'; exact new e'
        rw [if_neg c] at e'
        by_cases d : sd7 6 (117648 - k) = sd7 6 w0
        rotate_left
        · rw [if_neg d] at e'; exact old e'
        rw [if_pos d] at e'
        by_cases f : h1 < h0
        · rw [if_pos f] at e'; exact new e'
        · rw [if_neg f] at e'; exact old e'
section CR
variable {D Q q ld lv nf nd ng ne : Nat} {M M' M1 Mc Mb : gM} {L : gL} {r : Nat → Int32}
theorem c_potLoop (hL : Lnd ld lv nf nd ng ne M) {st : Nat → Nat} (hst : ∀ j, st j ≤ 99) (hnf : ∀ f, f < 6 → nf ≤ f → st (5 - f) = 0) (h66 : ∀ x, x < 6 → M 66 x = nI (st (5 - x))) {day : Int32} (hday : M 64 0 = day) {ls : Nat → Int32} (hls : ∀ j, j < 3 → ∃ l, l ≤ 99 ∧ ls j = nI l) {hs : Nat} (hh : hs = 10 ∨ (hs = 1 ∧ ∀ w h, pEn M lv nf day ls w h = pEn M lv nf day ls w 0)) : ∀ (s W way f : Nat) (N : gM), W ≤ s → W < q7 6 → pot7 st W → way + cR7 (fun w => decide (sd7 6 w ≤ 6)) W ≤ 923 → Eo gPp M N → (∀ j, j < 3 → N 392 j = ls j) → N 391 10 = nI hs → Row7 W N → CpS M lv nf hs (ps7 st (pEn M lv nf day ls) (pPr M lv nf) (117648 - W)) N → ∃ X, H_PotSearch_find_66 ld 64 (f + 1 + s) (nI way) N = some (if ps7 st (pEn M lv nf day ls) (pPr M lv nf) 117648 = none then 0 else 1, X) ∧ CpS M lv nf hs (ps7 st (pEn M lv nf day ls) (pPr M lv nf) 117648) X := by
  have h6 := hL.nf6
  generalize hp : pEn M lv nf day ls = p at hh
  generalize hpr : pPr M lv nf = pr
  -- the weighing at the head of the loop
  have head : ∀ (W way : Nat) (N : gM), W < q7 6 → pot7 st W → way ≤ 923 → Eo gPp M N → (∀ j, j < 3 → N 392 j = ls j) → N 391 10 = nI hs → Row7 W N → CpS M lv nf hs (ps7 st p pr (117648 - W)) N → ∃ A, (∀ H : Int32 → gM → Option (Int32 × gM), B_PotSearch_find_66 ld 64 H (nI way) N = (if nI (sd7 6 W) = 0 then J_PotSearch_find_86 ld 64 A else bI (F_PotSearch_tryHeats ld day A) (fun M20 => bI (F_PotSearch_stepDown 64 M20) (fun M22 => H (nI (way + 1)) M22)))) ∧ Eo gPp M A ∧ (∀ j, j < 3 → A 392 j = ls j) ∧ A 391 10 = nI hs ∧ Row7 W A ∧ A 391 3 = nI (sd7 6 W) ∧ A 391 4 = pPr M lv nf W ∧ (∀ j, j < 3 → A 394 j = pSm M lv nf W j) ∧ CpS M lv nf hs (ps7 st p pr (117648 - W)) A := by
    intro W way N hW hpot hway e e2 e10 hr hC
    obtain ⟨A, a1, a2, a3, a4, a5⟩ := c_weigh (hL.kP e) (w := W) (fun f hf hn => by
      have := hpot.1 (5 - f) (by omega)
      rw [hnf f hf hn] at this
      omega) hr
    have eA : Eo gPp M A := e.tr (fun c j z => a2 c j (fun y => z (Or.inr (by unfold gW7 at y; omega))))
    rw [pPr_k (gPp_M e)] at a4
    refine ⟨A, fun H => ?_, eA, fun j hj => (a2 392 j (by unfold gW7; omega)).trans (e2 j hj), (a2 391 10 (by unfold gW7; omega)).trans e10, fun f hf => (a2 393 f (by unfold gW7; omega)).trans (hr f hf), a3, a4, fun j hj => by rw [a5 j hj, pSm_k (gPp_M e)], hC.k (fun c j z => a2 c j (by unfold gW7; omega))⟩
    have a64 : A 64 0 = day := (eA 64 0 (gPp_n (by decide) (by decide) (by omega))).trans hday
    unfold B_PotSearch_find_66
    rw [if_neg (by rw [show (924 : Int32) = nI 924 from rfl, nI_leI (by omega) (by omega)]; omega), a1, bI_s, a3, a64]
    simp only [nmI_e, nI_1]
  have stop : ∀ (way f : Nat) (N : gM), pot7 st 0 → way ≤ 923 → Eo gPp M N → (∀ j, j < 3 → N 392 j = ls j) → N 391 10 = nI hs → Row7 0 N → CpS M lv nf hs (ps7 st p pr 117648) N → ∃ X, H_PotSearch_find_66 ld 64 (f + 1) (nI way) N = some (if ps7 st p pr 117648 = none then 0 else 1, X) ∧ CpS M lv nf hs (ps7 st p pr 117648) X := by
    intro way f N hpot hway e e2 e10 hr hC
    obtain ⟨A, a1, _, _, _, _, _, _, _, aC⟩ := head 0 way N (q7_pos 6) hpot hway e e2 e10 hr hC
    refine ⟨A, ?_, aC⟩
    show B_PotSearch_find_66 ld 64 (H_PotSearch_find_66 ld 64 f) (nI way) N = _
    rw [a1, sd7_0, if_pos (by decide)]
    have aC' : CpS M lv nf hs (ps7 st p pr 117648) A := aC
    unfold J_PotSearch_find_86
    cases q : ps7 st p pr 117648 with
    | none =>
      rw [q] at aC'
      rw [b01_n aC', if_pos (Or.inl rfl), if_pos rfl]
    | some o =>
      obtain ⟨w0, h0⟩ := o
      rw [q] at aC'
      rw [b01_1 aC'.1, if_pos (Or.inr rfl), if_neg (fun z => nomatch z)]
  intro s
  induction s with
  | zero =>
    intro W way f N hs' hW hpot hc e e2 e10 hr hC
    obtain rfl : W = 0 := by omega
    exact stop way f N hpot (by omega) e e2 e10 hr hC
  | succ s ih =>
    intro W way f N hs' hW hpot hc e e2 e10 hr hC
    by_cases w0 : W = 0
    · subst w0
      exact stop way (f + 1 + s) N hpot (by omega) e e2 e10 hr hC
    obtain ⟨A, a1, a2, a3, a4, a5, a6, a7, a8, aC⟩ := head W way N hW hpot (by omega) e e2 e10 hr hC
    have hsd : sd7 6 W ≠ 0 := fun z => by
      have := sd7_zero 6 z
      rw [Nat.mod_eq_of_lt hW] at this
      exact w0 this
    rw [← hp] at hh aC ih ⊢
    rw [← hpr] at aC ih ⊢
    have s6 := hpot.2
    obtain ⟨B, b1, b2, b3⟩ := c_tryHeats hL hls hh a2 a3 a6 a8 a7 a4 a5 s6 aC (fun w0 h0 z => (ps7_in _ w0 h0 (by omega) z).1.2)
    have eB : Eo gPp M B := a2.tr (b2.mono gT7_gP)
    have bk : ∀ c j, 64 ≤ c → c ≠ 390 → ¬ ((c = 391 ∧ 6 ≤ j ∧ j ≤ 9) ∨ c = 395) → B c j = A c j := fun c j x y z => b2 c j (gT7_n x y z)
    obtain ⟨X, W', x1, x2, x3, x4, x5, x6⟩ := c_stepDown hst hW hpot w0 (N := B) (fun x hx => (eB 66 x (gPp_n (by decide) (by decide) (by omega))).trans (h66 x hx)) (fun f hf => (bk 393 f (by decide) (by decide) (by omega)).trans (a5 f hf)) ((bk 391 3 (by decide) (by decide) (by omega)).trans a6)
    have cl := cR7_lt (P := fun w => decide (sd7 6 w ≤ 6)) (a := W') (b := W) (decide_eq_true x4.2) x3
    have q6 := q7_6
    have eps : ps7 st (pEn M lv nf day ls) (pPr M lv nf) (117648 - W') = up7 (pEn M lv nf day ls) (pPr M lv nf) (ps7 st (pEn M lv nf day ls) (pPr M lv nf) (117648 - W)) W := by
      have k1 := ps7_skip (st := st) (p := pEn M lv nf day ls) (pr := pPr M lv nf) (a := 117648 - W + 1) (W - 1 - W') (fun k u v => x5 (117648 - k) (by omega) (by omega))
      rw [show 117648 - W + 1 + (W - 1 - W') = 117648 - W' by omega] at k1
      rw [k1]
      show (if pb7 st (117648 - (117648 - W)) = true then up7 _ _ _ (117648 - (117648 - W)) else _) = _
      rw [show 117648 - (117648 - W) = W by omega, if_pos (pb7_e.mpr hpot)]
    obtain ⟨Y, y1, y2⟩ := ih W' (way + 1) f X (by omega) (by omega) x4 (by omega) (eB.tr (fun c j z => x2 c j (fun y => z (Or.inr (by unfold gF7 at y; omega))))) (fun j hj => (x2 392 j (by unfold gF7; omega)).trans ((bk 392 j (by decide) (by decide) (by omega)).trans (a3 j hj))) ((x2 391 10 (by unfold gF7; omega)).trans ((bk 391 10 (by decide) (by decide) (by omega)).trans a4)) x6 (by
      rw [eps]
      exact b3.k (fun c j z => x2 c j (by unfold gF7; omega)))
    refine ⟨Y, ?_, y2⟩
    rw [← y1]
    show B_PotSearch_find_66 ld 64 (H_PotSearch_find_66 ld 64 (f + 1 + s)) (nI way) N = _
    rw [a1, if_neg (nI_ne0 (by omega) (by omega)), b1, bI_s, x1, bI_s]
/-- the class's pot -/
theorem c_pot (hL : Lnd ld lv nf nd ng ne M) {st : Nat → Nat} (hst : ∀ j, st j ≤ 99) (hnf : ∀ f, f < 6 → nf ≤ f → st (5 - f) = 0) (h66 : ∀ x, x < 6 → M 66 x = nI (st (5 - x))) {day : Int32} (hday : M 64 0 = day) {ls : Nat → Int32} (hls : ∀ j, j < 3 → ∃ l, l ≤ 99 ∧ ls j = nI l) : ∃ X hs, F_PotSearch_find ld 64 (ls 0) (ls 1) (ls 2) M = some (if ps7 st (pEn M lv nf day ls) (pPr M lv nf) 117648 = none then 0 else 1, X) ∧ CpS M lv nf hs (ps7 st (pEn M lv nf day ls) (pPr M lv nf) 117648) X := by
  have q6 := q7_6
  obtain ⟨t1, t2, t3⟩ := top7 (st := st)
  have go : ∀ (hs : Nat) (N : gM), (hs = 10 ∨ (hs = 1 ∧ ∀ w h, pEn M lv nf day ls w h = pEn M lv nf day ls w 0)) → Eo gPp M N → (∀ j, j < 3 → N 392 j = ls j) → N 391 9 = 0 → ∃ X, J_PotSearch_find_52 ld 64 (nI hs) N = some (if ps7 st (pEn M lv nf day ls) (pPr M lv nf) 117648 = none then 0 else 1, X) ∧ CpS M lv nf hs (ps7 st (pEn M lv nf day ls) (pPr M lv nf) 117648) X := fun hs N hh e e2 e9 => by
    obtain ⟨g, hg⟩ := FU_k (1 + 6) (by omega)
    have n66 : ∀ x, x < 6 → uM N 391 10 (nI hs) 66 x = nI (st (5 - x)) := fun x hx => by
      rw [uM_diff (by omega)]
      exact (e 66 x (gPp_n (by decide) (by decide) (by omega))).trans (h66 x hx)
    obtain ⟨A, a1, a2, _, a4⟩ := c_fill hst 6 6 g (uM N 391 10 (nI hs)) (Nat.le_refl _) (Nat.le_refl _) n66
    have ak : ∀ c j, c ≠ 393 → A c j = uM N 391 10 (nI hs) c j := fun c j z => a2 c j (by unfold gF7; exact z)
    obtain ⟨f, hf⟩ := FU_k (1 + gr7 st 6 6) (by omega)
    have cl := cR7_lt (P := fun w => decide (sd7 6 w ≤ 6)) (a := gr7 st 6 6) (b := q7 6) (decide_eq_true t1.2) t2
    rw [all7] at cl
    have e0 : ps7 st (pEn M lv nf day ls) (pPr M lv nf) (117648 - gr7 st 6 6) = none := by
      have := ps7_skip (st := st) (p := pEn M lv nf day ls) (pr := pPr M lv nf) (a := 0) (117648 - gr7 st 6 6) (fun k u v => t3 (117648 - k) (by omega) (by omega))
      rw [Nat.zero_add] at this
      exact this
    obtain ⟨X, x1, x2⟩ := c_potLoop hL hst hnf h66 hday hls hh (gr7 st 6 6) (gr7 st 6 6) 0 f A (Nat.le_refl _) t2 t1 (by omega) ((e.u (show gPp 391 10 from Or.inr (by omega))).tr (fun c j z => ak c j (fun y => z (Or.inr (by omega))))) (fun j hj => by rw [ak 392 j (by decide), uM_diff (by omega)]; exact e2 j hj) (by rw [ak 391 10 (by decide), uM_same]) (fun x hx => by rw [a4 x (by omega) hx, gr7_d 6 6 (5 - x) (by decide) (by omega)]) (by
      rw [e0]
      show A 391 9 = 0
      rw [ak 391 9 (by decide), uM_diff (by omega)]
      exact e9)
    refine ⟨X, ?_, x2⟩
    unfold J_PotSearch_find_52
    rw [nmM_e]
    unfold F_PotSearch_fillFrom
    rw [hg, ← Nat.add_assoc, show H_PotSearch_fillFrom_6 64 (g + 1 + 6) 6 0 (uM N 391 10 (nI hs)) = some A from a1, bI_s, Nat.add_assoc g 1 6, ← hg, hf, ← Nat.add_assoc]
    exact x1
  have e7 : Eo gPp M (uM (uM (uM (uM M 392 0 (ls 0)) 392 1 (ls 1)) 392 2 (ls 2)) 391 9 0) := (((Eo.rf.u (show gPp 392 0 from Or.inr (by omega))).u (show gPp 392 1 from Or.inr (by omega))).u (show gPp 392 2 from Or.inr (by omega))).u (show gPp 391 9 from Or.inr (by omega))
  have l7 : ∀ j, j < 3 → uM (uM (uM (uM M 392 0 (ls 0)) 392 1 (ls 1)) 392 2 (ls 2)) 391 9 0 392 j = ls j := fun j hj => by
    rw [uM_diff (by omega)]
    rcases (show j = 0 ∨ j = 1 ∨ j = 2 by omega) with z | z | z <;> subst z
    · rw [uM_diff (by omega), uM_diff (by omega), uM_same]
    · rw [uM_diff (by omega), uM_same]
    · rw [uM_same]
  have n7 : uM (uM (uM (uM M 392 0 (ls 0)) 392 1 (ls 1)) 392 2 (ls 2)) 391 9 0 391 9 = 0 := uM_same
  unfold F_PotSearch_find
  rw [s_put0 (by decide) (by decide), bI_s, s_put1 (by decide) (by decide), bI_s, s_put2 (by decide) (by decide), bI_s, nmM_e]
  generalize uM (uM (uM (uM M 392 0 (ls 0)) 392 1 (ls 1)) 392 2 (ls 2)) 391 9 0 = N at e7 l7 n7 ⊢
  obtain ⟨r9, h9, h9'⟩ := tf_Law_looksAt (Wl0 := ld + 9) (p1 := 1) (M := N) (isLw_9 hL.la)
  rw [h9, bI_s]
  rcases h9' with z | z
  · rw [z] at h9
    rw [if_pos z]
    obtain ⟨X, x1, x2⟩ := go 1 N (Or.inr ⟨rfl, fun w h => by
      unfold pEn
      refine allK_c 3 0 (fun j _ _ => ?_)
      unfold pFo
      rw [← potS_k (gPp_M e7), ← potS_k (gPp_M e7) (c := nI 0), potS_heat (hL.kP e7) h9 _ _ (nI 0) (nI h)]⟩) e7 l7 n7
    exact ⟨X, 1, x1, x2⟩
  · rw [if_neg (by rw [z]; decide)]
    obtain ⟨X, x1, x2⟩ := go 10 N (Or.inl rfl) e7 l7 n7
    exact ⟨X, 10, x1, x2⟩
end CR
end PAR61
