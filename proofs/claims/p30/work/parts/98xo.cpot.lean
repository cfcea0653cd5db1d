/-! pot, by the class -/
section PAR59
/-- what the pot's search may change -/
def gPp (x y : Nat) : Prop := C0 x y = true ∨ (391 ≤ x ∧ x ≤ 395)
theorem gPp_n {x y : Nat} (h1 : 64 ≤ x) (h2 : x ≠ 390) (h3 : ¬ (391 ≤ x ∧ x ≤ 395)) : ¬ gPp x y := fun h => by
  rcases h with h | h
  · rw [C0_M h1 h2] at h; cases h
  · exact h3 h
theorem gPp_0 {M M' : gM} (k : Kl C0 M zL M' zL) : Eo gPp M M' := fun x y z => k.m (by
  cases q : C0 x y with
  | false => rfl
  | true => exact absurd (Or.inl q) z)
/-- the first that holds, of s from h on -/
def fs7 (p : Nat → Bool) : Nat → Nat → Option Nat
  | 0, _ => none
  | s + 1, h => if p h = true then some h else fs7 p s (h + 1)
theorem fs7_in {p : Nat → Bool} : ∀ s h x, fs7 p s h = some x → h ≤ x ∧ x < h + s
  | 0, _, _, e => by cases e
  | s + 1, h, x, e => by
    unfold fs7 at e
    by_cases w : p h = true
    · rw [if_pos w] at e
      have := Option.some.inj e
      omega
    · rw [if_neg w] at e
      have := fs7_in s (h + 1) x e
      omega
theorem fs7_more {p : Nat → Bool} {b : Nat} : ∀ a h, (∀ x, fs7 p a h = some x → fs7 p (a + b) h = some x) ∧ (fs7 p a h = none → fs7 p (a + b) h = fs7 p b (h + a))
  | 0, h => ⟨fun x e => (nomatch e), fun _ => by rw [Nat.zero_add, Nat.add_zero]⟩
  | a + 1, h => by
    have ih := fs7_more (p := p) (b := b) a (h + 1)
    rw [show a + 1 + b = (a + b) + 1 by omega]
    show (∀ x, (if p h = true then some h else fs7 p a (h + 1)) = some x → (if p h = true then some h else fs7 p (a + b) (h + 1)) = some x) ∧ ((if p h = true then some h else fs7 p a (h + 1)) = none → (if p h = true then some h else fs7 p (a + b) (h + 1)) = fs7 p b (h + (a + 1)))
    by_cases w : p h = true
    · rw [if_pos w, if_pos w]
      exact ⟨fun x e => e, fun e => nomatch e⟩
    · rw [if_neg w, if_neg w, show h + (a + 1) = h + 1 + a by omega]
      exact ih
theorem fs7_no {p : Nat → Bool} : ∀ s h, (∀ x, h ≤ x → x < h + s → ¬ p x = true) → fs7 p s h = none
  | 0, _, _ => rfl
  | s + 1, h, e => by
    unfold fs7
    rw [if_neg (e h (Nat.le_refl _) (by omega))]
    exact fs7_no s (h + 1) (fun x a b => e x (by omega) (by omega))
/-- the better of the best so far and a way -/
def up7 (p : Nat → Nat → Bool) (pr : Nat → Int32) (o : Option (Nat × Nat)) (w : Nat) : Option (Nat × Nat) := match fs7 (p w) 10 0 with
  | none => o
  | some h => match o with
    | none => some (w, h)
    | some (w0, h0) => if pr w < pr w0 then some (w, h) else if pr w = pr w0 then (if sd7 6 w < sd7 6 w0 then some (w, h) else if sd7 6 w = sd7 6 w0 then (if h < h0 then some (w, h) else some (w0, h0)) else some (w0, h0)) else some (w0, h0)
theorem up7_n {p : Nat → Nat → Bool} {pr : Nat → Int32} {o : Option (Nat × Nat)} {w : Nat} (e : fs7 (p w) 10 0 = none) : up7 p pr o w = o := by
  unfold up7
  rw [e]
theorem up7_f {p : Nat → Nat → Bool} {pr : Nat → Int32} {w h : Nat} (e : fs7 (p w) 10 0 = some h) : up7 p pr none w = some (w, h) := by
  unfold up7
  rw [e]
theorem up7_s {p : Nat → Nat → Bool} {pr : Nat → Int32} {w h w0 h0 : Nat} (e : fs7 (p w) 10 0 = some h) : up7 p pr (some (w0, h0)) w = if pr w < pr w0 then some (w, h) else if pr w = pr w0 then (if sd7 6 w < sd7 6 w0 then some (w, h) else if sd7 6 w = sd7 6 w0 then (if h < h0 then some (w, h) else some (w0, h0)) else some (w0, h0)) else some (w0, h0) := by
  unfold up7
  rw [e]
/-- the best of the k highest ways -/
def ps7 (st : Nat → Nat) (p : Nat → Nat → Bool) (pr : Nat → Int32) : Nat → Option (Nat × Nat)
  | 0 => none
  | k + 1 => if pb7 st (117648 - k) = true then up7 p pr (ps7 st p pr k) (117648 - k) else ps7 st p pr k
theorem ps7_skip {st : Nat → Nat} {p : Nat → Nat → Bool} {pr : Nat → Int32} {a : Nat} : ∀ d, (∀ k, a ≤ k → k < a + d → ¬ pot7 st (117648 - k)) → ps7 st p pr (a + d) = ps7 st p pr a
  | 0, _ => rfl
  | d + 1, h => by
    show (if pb7 st (117648 - (a + d)) = true then up7 p pr (ps7 st p pr (a + d)) (117648 - (a + d)) else ps7 st p pr (a + d)) = _
    rw [if_neg (fun z => h (a + d) (by omega) (by omega) (pb7_e.mp z))]
    exact ps7_skip d (fun k x y => h k x (by omega))
section CP
variable {D Q q ld lv nf nd ng ne : Nat} {M M' M1 Mc Mb : gM} {L : gL} {r : Nat → Int32}
theorem gPp_M (e : Eo gPp M M') : ∀ c j, 411 ≤ c → c ≤ 432 → M' c j = M c j := fun c j a b => e c j (gPp_n (by omega) (by omega) (by omega))
theorem Lnd.kP (h : Lnd ld lv nf nd ng ne M) (e : Eo gPp M M') : Lnd ld lv nf nd ng ne M' := h.keep (fun c j q => e c j (fun w => by
  rcases w with w | w
  · rw [gv_C0 q] at w; cases w
  · have := gv_num q; omega))
/-- price, sums and forces of a way's pot -/
def pPr (M : gM) (lv nf w : Nat) : Int32 := sm (fun f => nI (d7 w (5 - f)) * M 413 (6 * lv + f)) nf
def pSm (M : gM) (lv nf w j : Nat) : Int32 := sm (fun f => nI (d7 w (5 - f)) * M 414 (3 * (6 * lv + f) + j)) nf
def pFo (M : gM) (lv nf : Nat) (day : Int32) (w j h : Nat) : Int32 := potS M lv (nI j) (pSm M lv nf w j) (nI h) (nI (sd7 6 w)) day
def pEn (M : gM) (lv nf : Nat) (day : Int32) (ls : Nat → Int32) (w h : Nat) : Bool := allK (fun j => decide (ls j ≤ pFo M lv nf day w j h)) 3 0
theorem pPr_k (e : ∀ c j, 411 ≤ c → c ≤ 432 → M' c j = M c j) {w : Nat} : pPr M' lv nf w = pPr M lv nf w := sm_c nf (fun k _ => by rw [e 413 _ (by decide) (by decide)])
theorem pSm_k (e : ∀ c j, 411 ≤ c → c ≤ 432 → M' c j = M c j) {w j : Nat} : pSm M' lv nf w j = pSm M lv nf w j := sm_c nf (fun k _ => by rw [e 414 _ (by decide) (by decide)])
theorem pFo_k (e : ∀ c j, 411 ≤ c → c ≤ 432 → M' c j = M c j) {w j h : Nat} {day : Int32} : pFo M' lv nf day w j h = pFo M lv nf day w j h := by
  unfold pFo
  rw [potS_k e, pSm_k e]
theorem pFo_0 {w j h : Nat} {day : Int32} : ∃ y, y ≤ 99 ∧ pFo M lv nf day w j h = nI y := by
  obtain ⟨y, _, h2, h3⟩ := hb_r (x := lawS M lv 0 (v9 (pSm M lv nf w j) (nI h) (nI j) (nI (sd7 6 w)) day 0 0 0 0) (pSm M lv nf w j)) (a := 0) (b := 99) (by decide) (by decide)
  exact ⟨y, h2, h3⟩
/-- the row of amounts of a way -/
def Row7 (w : Nat) (N : gM) : Prop := ∀ f, f < 6 → N 393 f = nI (d7 w (5 - f))
def gF7 (c : Nat) (_ : Nat) : Prop := c = 393
/-- fill from a food on -/
theorem c_fill {st : Nat → Nat} (hst : ∀ j, st j ≤ 99) : ∀ (s m f : Nat) (N : gM), s ≤ 6 → m ≤ 6 → (∀ x, x < 6 → N 66 x = nI (st (5 - x))) → ∃ X, H_PotSearch_fillFrom_6 64 (f + 1 + s) (nI m) (nI (6 - s)) N = some X ∧ Eo gF7 N X ∧ (∀ x, x < 6 - s → X 393 x = N 393 x) ∧ ∀ x, 6 - s ≤ x → x < 6 → X 393 x = nI (gd7 st s m (5 - x)) := by
  intro s
  induction s with
  | zero =>
    intro m f N _ hm h66
    refine ⟨N, ?_, Eo.rf, fun _ _ => rfl, fun x a b => by omega⟩
    show B_PotSearch_fillFrom_6 64 (H_PotSearch_fillFrom_6 64 f) (nI m) (nI 6) N = _
    generalize H_PotSearch_fillFrom_6 64 f = H
    unfold B_PotSearch_fillFrom_6
    rw [if_pos (by decide)]
  | succ s ih =>
    intro m f N hs hm h66
    have hs9 := hst s
    obtain ⟨X, z1, z2, z3, z4⟩ := ih (m - min m (st s)) f (uM N 393 (5 - s) (nI (min m (st s)))) (by omega) (by omega) (fun x hx => by rw [uM_diff (by omega)]; exact h66 x hx)
    refine ⟨X, ?_, (Eo.rf.u (show gF7 393 (5 - s) from rfl)).tr z2, fun x hx => ?_, fun x a b => ?_⟩
    · rw [← z1]
      show B_PotSearch_fillFrom_6 64 (H_PotSearch_fillFrom_6 64 (f + 1 + s)) (nI m) (nI (6 - (s + 1))) N = _
      generalize H_PotSearch_fillFrom_6 64 (f + 1 + s) = H
      unfold B_PotSearch_fillFrom_6
      rw [show 6 - (s + 1) = 5 - s by omega, if_neg (by rw [show (6 : Int32) = nI 6 from rfl, nI_leI (by omega) (by omega)]; omega), show F_Main_at (64 + 2) 6 (nI (5 - s)) N = some (N 66 (5 - s)) from s_at (by omega) (by decide), bI_s, h66 (5 - s) (by omega), show 5 - (5 - s) = s by omega, nmI_e, show (if nI (st s) < nI m then nI (st s) else nI m) = nI (min m (st s)) by
        by_cases w : st s < m
        · rw [if_pos (by rw [nI_ltI (by omega) (by omega)]; exact w), Nat.min_eq_right (by omega)]
        · rw [if_neg (by rw [nI_ltI (by omega) (by omega)]; exact w), Nat.min_eq_left (by omega)], s_put (by omega) (by decide), bI_s, nmI_e, nmI_e, nI_sub (by omega), nI_1, show 5 - s + 1 = 6 - s by omega]
    · rw [z3 x (by omega), uM_diff (by omega)]
    · show X 393 x = nI (if 5 - x = s then min m (st s) else gd7 st s (m - min m (st s)) (5 - x))
      by_cases w : 5 - x = s
      · rw [if_pos w, z3 x (by omega), show x = 5 - s by omega, uM_same]
      · rw [if_neg w]
        exact z4 x (by omega) b
def gW7 (c j : Nat) : Prop := (c = 391 ∧ (j = 3 ∨ j = 4)) ∨ c = 394
/-- how many so far -/
def am7 (w : Nat) : Nat → Nat := bl7 (fun x => d7 w (5 - x))
theorem am7_6 {w : Nat} : am7 w 6 = sd7 6 w := by
  show 0 + d7 w 5 + d7 w 4 + d7 w 3 + d7 w 2 + d7 w 1 + d7 w 0 = 0 + d7 w 0 + d7 w 1 + d7 w 2 + d7 w 3 + d7 w 4 + d7 w 5
  omega
theorem am7_le {w : Nat} : ∀ n, am7 w n ≤ 6 * n
  | 0 => Nat.le_refl _
  | n + 1 => by
    have h1 := am7_le (w := w) n
    have h2 := d7_6 w (5 - n)
    show am7 w n + d7 w (5 - n) ≤ _
    omega
theorem sm_6 {g : Nat → Int32} (h6 : nf ≤ 6) (h : ∀ f, nf ≤ f → f < 6 → g f = 0) : sm g 6 = sm g nf := by
  have := sm_z (g := g) (n := nf) (6 - nf) (fun k a b => h k a (by omega))
  rw [show nf + (6 - nf) = 6 by omega] at this
  exact this
/-- a pot weighed -/
theorem c_weigh (hL : Lnd ld lv nf nd ng ne M) {w : Nat} (hw : ∀ f, f < 6 → nf ≤ f → d7 w (5 - f) = 0) (hr : Row7 w M) : ∃ X, F_PotSearch_weigh ld M = some X ∧ Eo gW7 M X ∧ X 391 3 = nI (sd7 6 w) ∧ X 391 4 = pPr M lv nf w ∧ ∀ j, j < 3 → X 394 j = pSm M lv nf w j := by
  have h6 := hL.nf6
  have hl := (by decide +kernel : ∀ x ∈ lLa, x < 380) ld hL.la
  have kW : ∀ {N}, Eo gW7 M N → Lnd ld lv nf nd ng ne N ∧ (∀ c j, 411 ≤ c → c ≤ 432 → N c j = M c j) ∧ Row7 w N := fun {N} e => ⟨hL.keep (fun c j q => e c j (by have := gv_num q; unfold gW7; omega)), fun c j a b => e c j (by unfold gW7; omega), fun f hf => (e 393 f (by unfold gW7; omega)).trans (hr f hf)⟩
  have inner : ∀ (K19 : Int32 → gM → Option gM) (f : Nat), f < nf → ∀ (s k g : Nat) (N : gM), k + s = 3 → Eo gW7 M N → (∀ j, j < 3 → N 394 j = sm (fun x => nI (d7 w (5 - x)) * M 414 (3 * (6 * lv + x) + j)) (if j < k then f + 1 else f)) → ∃ X, H_PotSearch_weigh_70 ld K19 (nI f) (nI (d7 w (5 - f))) (g + 1 + s) (nI k) N = J_PotSearch_weigh_110 ld K19 (nI f) X ∧ Eo gW7 M X ∧ (∀ j, X 391 j = N 391 j) ∧ ∀ j, j < 3 → X 394 j = sm (fun x => nI (d7 w (5 - x)) * M 414 (3 * (6 * lv + x) + j)) (f + 1) := by
    intro K19 f hf s
    induction s with
    | zero =>
      intro k g N hk e e4
      obtain rfl : k = 3 := by omega
      refine ⟨N, ?_, e, fun _ => rfl, fun j hj => by rw [e4 j hj, if_pos hj]⟩
      show B_PotSearch_weigh_70 ld K19 (nI f) (nI (d7 w (5 - f))) (H_PotSearch_weigh_70 ld K19 (nI f) (nI (d7 w (5 - f))) g) (nI 3) N = _
      generalize H_PotSearch_weigh_70 ld K19 (nI f) (nI (d7 w (5 - f))) g = H
      unfold B_PotSearch_weigh_70
      rw [if_pos (by decide)]
    | succ s ih =>
      intro k g N hk e e4
      obtain ⟨hN, mN, _⟩ := kW e
      obtain ⟨X, z1, z2, z3, z4⟩ := ih (k + 1) g (uM N 394 k (sm (fun x => nI (d7 w (5 - x)) * M 414 (3 * (6 * lv + x) + k)) f + nI (d7 w (5 - f)) * M 414 (3 * (6 * lv + f) + k))) (by omega) (e.u (Or.inr rfl)) (fun j hj => by
        by_cases z : j = k
        · rw [z, uM_same, if_pos (by omega)]; rfl
        · rw [uM_diff (by omega), e4 j hj]
          by_cases y : j < k
          · rw [if_pos y, if_pos (by omega)]
          · rw [if_neg y, if_neg (by omega)])
      refine ⟨X, ?_, z2, fun j => by rw [z3 j, uM_diff (by omega)], z4⟩
      rw [← z1]
      show B_PotSearch_weigh_70 ld K19 (nI f) (nI (d7 w (5 - f))) (H_PotSearch_weigh_70 ld K19 (nI f) (nI (d7 w (5 - f))) (g + 1 + s)) (nI k) N = _
      generalize H_PotSearch_weigh_70 ld K19 (nI f) (nI (d7 w (5 - f))) (g + 1 + s) = H
      unfold B_PotSearch_weigh_70
      rw [if_neg (by rw [show (3 : Int32) = nI 3 from rfl, nI_leI (by omega) (by omega)]; omega), s_at (by omega) (by decide), bI_s, c_brought hN hf (by omega), bI_s, s_put (by omega) (by decide), bI_s, nmI_e, nI_1, e4 k (by omega), if_neg (Nat.lt_irrefl k), mN 414 _ (by decide) (by decide)]
  have outer : ∀ (s f g : Nat) (N : gM), f + s = 6 → Eo gW7 M N → N 391 3 = nI (am7 w f) → N 391 4 = sm (fun x => nI (d7 w (5 - x)) * M 413 (6 * lv + x)) f → (∀ j, j < 3 → N 394 j = sm (fun x => nI (d7 w (5 - x)) * M 414 (3 * (6 * lv + x) + j)) f) → ∃ X, H_PotSearch_weigh_19 ld (g + 1 + s) (nI f) N = some X ∧ Eo gW7 M X ∧ X 391 3 = nI (sd7 6 w) ∧ X 391 4 = pPr M lv nf w ∧ ∀ j, j < 3 → X 394 j = pSm M lv nf w j := by
    intro s
    induction s with
    | zero =>
      intro f g N hf e e3 e4 e5
      obtain rfl : f = 6 := by omega
      refine ⟨N, ?_, e, by rw [e3, am7_6], ?_, fun j hj => ?_⟩
      · show B_PotSearch_weigh_19 ld (H_PotSearch_weigh_19 ld g) (nI 6) N = _
        generalize H_PotSearch_weigh_19 ld g = H
        unfold B_PotSearch_weigh_19
        rw [if_pos (by decide)]
      · rw [e4]
        exact sm_6 h6 (fun f a b => by rw [hw f b a, show nI 0 = 0 from rfl, Int32.zero_mul])
      · rw [e5 j hj]
        exact sm_6 h6 (fun f a b => by rw [hw f b a, show nI 0 = 0 from rfl, Int32.zero_mul])
    | succ s ih =>
      intro f g N hf e e3 e4 e5
      obtain ⟨hN, mN, hrN⟩ := kW e
      have d6 := d7_6 w (5 - f)
      have ale := am7_le (w := w) f
      have a1 : am7 w (f + 1) = am7 w f + d7 w (5 - f) := rfl
      have hn := ih (f + 1) g
      have e0 : ∀ H : Int32 → gM → Option gM, B_PotSearch_weigh_19 ld H (nI f) N = (if d7 w (5 - f) = 0 then H (nI (f + 1)) N else nmM (uM N 391 3 (nI (am7 w (f + 1)))) (fun M10 => bI (F_Main_at (ld + 2) 6 (nI f) M10) (fun r12 => nmM (uM M10 391 4 ((M10 391 4) + (nI (d7 w (5 - f)) * r12))) (fun M13 => H_PotSearch_weigh_70 ld H (nI f) (nI (d7 w (5 - f))) FU 0 M13)))) := fun H => by
        unfold B_PotSearch_weigh_19 J_PotSearch_weigh_110
        rw [if_neg (by rw [show (6 : Int32) = nI 6 from rfl, nI_leI (by omega) (by omega)]; omega), s_at (by omega) (by decide), bI_s, hrN f (by omega), e3, nI_add, nmI_e, nI_1]
        by_cases z : d7 w (5 - f) = 0
        · rw [if_pos z, if_pos (by rw [z]; decide)]
        · rw [if_neg z, if_neg (by rw [show (0 : Int32) = nI 0 from rfl, nI_leI (by omega) (by omega)]; omega)]
          rfl
      show ∃ X, B_PotSearch_weigh_19 ld (H_PotSearch_weigh_19 ld (g + 1 + s)) (nI f) N = _ ∧ _
      rw [e0]
      by_cases z : d7 w (5 - f) = 0
      · rw [if_pos z]
        refine hn N (by omega) e (by rw [e3, a1, z]; rfl) ?_ (fun j hj => ?_)
        · rw [e4]
          show _ = sm _ f + nI (d7 w (5 - f)) * _
          rw [z, show nI 0 = 0 from rfl, Int32.zero_mul, Int32.add_zero]
        · rw [e5 j hj]
          show _ = sm _ f + nI (d7 w (5 - f)) * _
          rw [z, show nI 0 = 0 from rfl, Int32.zero_mul, Int32.add_zero]
      · have fn : f < nf := by
          apply Classical.byContradiction
          intro y
          exact z (hw f (by omega) (by omega))
        have e' : Eo gW7 M (uM (uM N 391 3 (nI (am7 w (f + 1)))) 391 4 (sm (fun x => nI (d7 w (5 - x)) * M 413 (6 * lv + x)) (f + 1))) := (e.u (Or.inl ⟨rfl, Or.inl rfl⟩)).u (Or.inl ⟨rfl, Or.inr rfl⟩)
        obtain ⟨g', hg'⟩ := FU_k (1 + 3) (by omega)
        obtain ⟨X, y1, y2, y3, y4⟩ := inner (H_PotSearch_weigh_19 ld (g + 1 + s)) f fn 3 0 g' _ (by omega) e' (fun j hj => by
          rw [uM_diff (by omega), uM_diff (by omega), e5 j hj, if_neg (Nat.not_lt_zero _)])
        obtain ⟨X', t1, t2⟩ := hn X (by omega) y2 (by rw [y3, uM_diff (by omega), uM_same]) (by rw [y3, uM_same]) y4
        refine ⟨X', ?_, t2⟩
        rw [if_neg z, nmM_e, s_at (by omega) (by decide), bI_s, nmM_e, uM_diff (show ¬ (ld + 2 = 391 ∧ f = 3) by omega), hN.pr fn, uM_diff (show ¬ ((391 : Nat) = 391 ∧ (4 : Nat) = 3) by omega), e4, mN 413 _ (by decide) (by decide), hg', ← Nat.add_assoc]
        refine Eq.trans y1 ?_
        unfold J_PotSearch_weigh_110
        rw [nmI_e, nI_1]
        exact t1
  unfold F_PotSearch_weigh
  rw [s_wipe (by decide), bI_s, nmM_e, nmM_e]
  obtain ⟨g, hg⟩ := FU_k (1 + 6) (by omega)
  rw [hg, ← Nat.add_assoc]
  exact outer 6 0 g (uM (uM (fl M 394 0 3 (fun _ => 0)) 391 3 0) 391 4 0) (by omega) (fun c j z => by rw [uM_diff (fun y => z (Or.inl ⟨y.1, Or.inr y.2⟩)), uM_diff (fun y => z (Or.inl ⟨y.1, Or.inl y.2⟩)), fl_out (fun y => z (Or.inr y.1))]) (by rw [uM_diff (by omega), uM_same]; rfl) (by rw [uM_same]; rfl) (fun j hj => by rw [uM_diff (by omega), uM_diff (by omega), fl_in (by omega)]; rfl)
/-- whether a heat is enough -/
theorem c_isEnough (hL : Lnd ld lv nf nd ng ne M) {w h : Nat} {day : Int32} {ls : Nat → Int32} (hls : ∀ j, j < 3 → ∃ l, l ≤ 99 ∧ ls j = nI l) {N0 : gM} (e0 : Eo gPp M N0) (e2 : ∀ j, j < 3 → N0 392 j = ls j) (e3 : N0 391 3 = nI (sd7 6 w)) (e4 : ∀ j, j < 3 → N0 394 j = pSm M lv nf w j) : ∃ X, F_PotSearch_isEnough ld (nI h) day N0 = some (b32 (pEn M lv nf day ls w h), X) ∧ Kl C0 N0 zL X zL := by
  have key : ∀ (s k f : Nat) (N : gM), k + s = 3 → Kl C0 N0 zL N zL → ∃ X, H_PotSearch_isEnough_3 ld (nI h) day (f + 1 + s) (nI k) N = some (b32 (allK (fun j => decide (ls j ≤ pFo M lv nf day w j h)) s k), X) ∧ Kl C0 N0 zL X zL := by
    intro s
    induction s with
    | zero =>
      intro k f N hk kN
      obtain rfl : k = 3 := by omega
      refine ⟨N, ?_, kN⟩
      show B_PotSearch_isEnough_3 ld (nI h) day (H_PotSearch_isEnough_3 ld (nI h) day f) (nI 3) N = _
      generalize H_PotSearch_isEnough_3 ld (nI h) day f = H
      unfold B_PotSearch_isEnough_3
      rw [if_pos (by decide)]
      rfl
    | succ s ih =>
      intro k f N hk kN
      have eN := e0.tr (gPp_0 kN)
      have fr : ∀ c j, 391 ≤ c → c ≤ 395 → N c j = N0 c j := fun c j a b => kN.m (C0_M (by omega) (by omega))
      obtain ⟨l, hl, el⟩ := hls k (by omega)
      obtain ⟨X, y1, y2⟩ := c_potForce (hL.kP eN) (kind := nI k) (sum := pSm M lv nf w k) (heat := nI h) (many := nI (sd7 6 w)) (day := day)
      rw [potS_k (gPp_M eN)] at y1
      have y1' : F_Land_potForce ld (nI k) (pSm M lv nf w k) (nI h) (nI (sd7 6 w)) day N = some (pFo M lv nf day w k h, X) := y1
      obtain ⟨y, hy, ey⟩ := pFo_0 (M := M) (lv := lv) (nf := nf) (w := w) (j := k) (h := h) (day := day)
      obtain ⟨A, a1, a2⟩ := ih (k + 1) f N (by omega) kN
      obtain ⟨B, b1, b2⟩ := ih (k + 1) f X (by omega) (kN.trans y2)
      show ∃ X, B_PotSearch_isEnough_3 ld (nI h) day (H_PotSearch_isEnough_3 ld (nI h) day (f + 1 + s)) (nI k) N = some (b32 (decide (ls k ≤ pFo M lv nf day w k h) && allK (fun j => decide (ls j ≤ pFo M lv nf day w j h)) s (k + 1)), X) ∧ _
      generalize H_PotSearch_isEnough_3 ld (nI h) day (f + 1 + s) = H at a1 b1 ⊢
      unfold B_PotSearch_isEnough_3 J_PotSearch_isEnough_53
      rw [if_neg (by rw [show (3 : Int32) = nI 3 from rfl, nI_leI (by omega) (by omega)]; omega), s_at (by omega) (by decide), bI_s, fr 392 k (by decide) (by decide), e2 k (by omega), nmI_e, nI_1]
      by_cases z : l = 0
      · rw [if_pos (by rw [el, z]; decide), decide_eq_true (by rw [el, z, ey, nI_leI (by omega) (by omega)]; omega), Bool.true_and]
        exact ⟨A, a1, a2⟩
      · rw [if_neg (by rw [el, show (0 : Int32) = nI 0 from rfl, nI_leI (by omega) (by omega)]; omega), s_at (by omega) (by decide), bI_s, fr 394 k (by decide) (by decide), e4 k (by omega), fr 391 3 (by decide) (by decide), e3, y1', bI2_s]
        by_cases u : ls k ≤ pFo M lv nf day w k h
        · rw [if_pos u, decide_eq_true u, Bool.true_and]
          exact ⟨B, b1, b2⟩
        · rw [if_neg u, decide_eq_false u, Bool.false_and]
          exact ⟨X, rfl, kN.trans y2⟩
  unfold F_PotSearch_isEnough
  obtain ⟨f, hf⟩ := FU_k (1 + 3) (by omega)
  rw [hf, ← Nat.add_assoc]
  exact key 3 0 f N0 (by omega) Kl.rf
end CP
end PAR59
