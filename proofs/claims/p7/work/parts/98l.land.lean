/-! the land: what its laws and its dishes come to, in both -/
section PAR32
def vzC (c j : Nat) : Bool := varL.contains c && !(vok c j)
/-- VARs that a law may not have stay 0 -/
def VZ (M : gM) : Prop := ∀ c j, vzC c j = true → j < 9 → M c j = 0
def Lnd (ld lv nf nd ng ne : Nat) (M : gM) : Prop := isLa ld ∧ lv ≤ 1 ∧ M 401 18 = nI lv ∧ Cnts ld lv nf nd ng ne M M ∧ Dat ld lv nf nd ng ne M M ∧ (∃ c i, Lws ld lv c i M M ∧ c ≤ 420 * lv + 400 ∧ i ≤ 130 * lv + 100) ∧ VZ M
def gv (c j : Nat) : Bool := gl c j || vzC c j
theorem vz_va {c j : Nat} (h : vzC c j = true) : vaC c := by
  have h1 : varL.contains c = true := by
    unfold vzC at h
    cases e : varL.contains c with
    | true => rfl
    | false => rw [e] at h; cases h
  have h2 : c ∈ varL := by simpa using h1
  unfold vaC
  exact (by decide +kernel : ∀ x ∈ varL, x = 23 ∨ x = 27 ∨ x = 31 ∨ x = 35 ∨ x = 49 ∨ x = 53 ∨ x = 57 ∨ x = 61) c h2
theorem vz_C0 {c j : Nat} (h : vzC c j = true) : C0 c j = false := by
  unfold vzC at h
  unfold C0
  cases e : varL.contains c with
  | false => rw [e] at h; cases h
  | true =>
    rw [e] at h
    cases e2 : vok c j with
    | true => rw [e2] at h; cases h
    | false => cases scrL.contains c <;> rfl
theorem vz_C1 {c j : Nat} (h : vzC c j = true) : C1 c j = false := by
  have h2 := vz_va h
  unfold vaC at h2
  unfold C1
  rw [vz_C0 h]
  simp only [Bool.false_or, Bool.or_eq_false_iff, Bool.and_eq_false_iff, beq_eq_false_iff_ne, decide_eq_false_iff_not, Bool.not_eq_false', beq_iff_eq]
  omega
theorem vz_CSt {c j : Nat} (h : vzC c j = true) : CSt c j = false := by
  have h2 := vz_va h
  unfold vaC at h2
  unfold CSt
  rw [vz_C0 h]
  simp only [Bool.false_or, Bool.or_eq_false_iff, Bool.and_eq_false_iff, decide_eq_false_iff_not]
  omega
theorem VZ.keep {M M' : gM} (h : VZ M) (e : ∀ c j, vaC c → vzC c j = true → M' c j = M c j) : VZ M' := fun c j q hj => (e c j (vz_va q) q).trans (h c j q hj)
section LND
variable {ld lv nf nd ng ne : Nat} {M M' : gM}
theorem Lnd.keep (h : Lnd ld lv nf nd ng ne M) (e : ∀ c j, gv c j = true → M' c j = M c j) : Lnd ld lv nf nd ng ne M' := by
  obtain ⟨h1, h2, h3, h4, ⟨d1, d2, d3, d4, d5⟩, ⟨c, i, h5, h6, h7⟩, h8⟩ := h
  have eg : ∀ c j, gl c j = true → M' c j = M c j := fun c j q => e c j (by unfold gv; rw [q]; rfl)
  have eL : ∀ c j, ld ≤ c → c ≤ ld + 10 → M' c j = M c j := fun c j a b => eg c j (gl_Lc h1 a b)
  have eM : ∀ c j, 411 ≤ c → c ≤ 432 → M' c j = M c j := fun c j a b => eg c j (gl_M a b)
  refine ⟨h1, h2, (eg 401 18 rfl).trans h3, ?_, ⟨d1.keep (fun c j a b => eL c j (by omega) (by omega)) (fun c j a b => eM c j (by omega) (by omega)), d2.keep (Nat.le_refl _) (fun c j a b => eL c j (by omega) (by omega)) (fun c j a b => eM c j (by omega) (by omega)), d3.keep (fun j => eL _ j (by omega) (by omega)) (fun j => eM _ j (by omega) (by omega)), d4.keep (fun c j a b => eL c j (by omega) (by omega)) (fun c j a b => eM c j (by omega) (by omega)), d5.keep (eL _ _ (by omega) (by omega)) (eM _ _ (by omega) (by omega))⟩, ⟨c, i, fun w hw => ?_, h6, h7⟩, h8.keep (fun c j _ q => e c j (by unfold gv; rw [q, Bool.or_true]))⟩
  · unfold Cnts at h4 ⊢
    rw [eL ld 0 (by omega) (by omega), eL ld 1 (by omega) (by omega), eL ld 2 (by omega) (by omega), eL ld 3 (by omega) (by omega), eM 411 _ (by omega) (by omega), eM 415 _ (by omega) (by omega), eM 418 _ (by omega) (by omega), eM 420 _ (by omega) (by omega)]
    exact h4
  · have g1 : ∀ j, M' (ld + 9 + 4 * w) j = M (ld + 9 + 4 * w) j := fun j => eg _ j (gl_Lw h1 hw).1
    have g2 : ∀ j, M' (ld + 9 + 4 * w + 1) j = M (ld + 9 + 4 * w + 1) j := fun j => eg _ j (gl_Lw h1 hw).2
    rcases h5 w hw with ⟨a1, a2, a3⟩ | h
    · exact Or.inl ⟨by rw [g1]; exact a1, by rw [eM 424 _ (by omega) (by omega)]; exact a2, by rw [eM 425 _ (by omega) (by omega)]; exact a3⟩
    · exact Or.inr (h.keep (Nat.le_refl _) (Nat.le_refl _) (g1 1) g2 (fun j x y => ⟨eM 431 _ (by omega) (by omega), eM 432 _ (by omega) (by omega)⟩) (fun cc j x y z1 z2 => eM _ _ (by omega) (by omega)) (eM 424 _ (by omega) (by omega)) (eM 425 _ (by omega) (by omega)))
theorem gv_C1 {c j : Nat} (h : gv c j = true) : C1 c j = false := by
  unfold gv at h
  rcases (Bool.or_eq_true _ _).mp h with h | h
  · exact gl_C1 (by rw [h]; rfl)
  · exact vz_C1 h
theorem gv_C0 {c j : Nat} (h : gv c j = true) : C0 c j = false := by
  unfold gv at h
  rcases (Bool.or_eq_true _ _).mp h with h | h
  · exact gl_C0 (by rw [h]; rfl)
  · exact vz_C0 h
theorem gv_CSt {c j : Nat} (h : gv c j = true) : CSt c j = false := by
  unfold gv at h
  rcases (Bool.or_eq_true _ _).mp h with h | h
  · exact gl_CSt (by rw [h]; rfl)
  · exact vz_CSt h
theorem gv_num {c j : Nat} (h : gv c j = true) : (c ≤ 2) ∨ (12 ≤ c ∧ c < 64) ∨ c = 360 ∨ (c = 383 ∧ j = 3) ∨ (384 ≤ c ∧ c ≤ 386) ∨ (c = 401 ∧ (j = 2 ∨ j = 17 ∨ j = 18 ∨ j = 64)) ∨ c = 402 ∨ (411 ≤ c ∧ c ≤ 432) ∨ (441 ≤ c ∧ c ≤ 443) ∨ c = 445 := by
  unfold gv at h
  rcases (Bool.or_eq_true _ _).mp h with h | h
  · exact (gl_num (by rw [h]; rfl)).2
  · have := vz_va h
    unfold vaC at this
    omega
theorem Lnd.k0 (h : Lnd ld lv nf nd ng ne M) (k : Kl C0 M zL M' zL) : Lnd ld lv nf nd ng ne M' := h.keep (fun _ _ q => k.m (gv_C0 q))
theorem Lnd.k1 (h : Lnd ld lv nf nd ng ne M) (k : Kl C1 M zL M' zL) : Lnd ld lv nf nd ng ne M' := h.keep (fun _ _ q => k.m (gv_C1 q))
/-- what the model's queries may change -/
def mQ (c j : Nat) : Prop := c = 434 ∨ c = 435 ∨ c = 437 ∨ c = 438 ∨ c = 439 ∨ c = 444 ∨ (c = 401 ∧ (j = 51 ∨ j = 54 ∨ j = 59 ∨ j = 60 ∨ j = 61 ∨ j = 62 ∨ j = 63))
/-- the VARs and the pile -/
def mV (c j : Nat) : Prop := c = 434 ∨ c = 435 ∨ (c = 401 ∧ j = 51)
theorem mV_mQ : ∀ c j, mV c j → mQ c j := fun c j h => by unfold mV at h; unfold mQ; omega
theorem Lnd.kQ (h : Lnd ld lv nf nd ng ne M) (k : Eo mQ M M') : Lnd ld lv nf nd ng ne M' := h.keep (fun c j q => k c j (by have := gv_num q; unfold mQ; omega))
theorem Lnd.kV (h : Lnd ld lv nf nd ng ne M) (k : Eo mV M M') : Lnd ld lv nf nd ng ne M' := h.kQ (k.mono mV_mQ)
def sm (g : Nat → Int32) : Nat → Int32
  | 0 => 0
  | n + 1 => sm g n + g n
theorem sm_c {g g' : Nat → Int32} : ∀ n, (∀ k, k < n → g k = g' k) → sm g n = sm g' n
  | 0, _ => rfl
  | n + 1, h => by
    show sm g n + g n = sm g' n + g' n
    rw [sm_c n (fun k hk => h k (by omega)), h n (by omega)]
def v9 (s h k m d p a st pr : Int32) (i : Nat) : Int32 := match i with
  | 0 => s | 1 => h | 2 => k | 3 => m | 4 => d | 5 => p | 6 => a | 7 => st | 8 => pr | _ => 0
def hb (a b x : Int32) : Int32 := if a ≤ x then (if x ≤ b then x else b) else a
theorem held_e {x a b : Int32} : F_Mod_held x a b = some (hb a b x) := by
  unfold F_Mod_held hb
  split
  · split <;> rfl
  · rfl
theorem within_e {x a b : Int32} (h : a ≤ b) : F_Main_within x a b = some (hb a b x) := by
  unfold F_Main_within hb
  refine congrArg some ?_
  rw [i_le] at h
  by_cases h1 : x < b
  · rw [if_pos h1]
    rw [i_lt] at h1
    by_cases h2 : a < x
    · rw [i_lt] at h2
      rw [if_pos (by rw [i_lt]; exact h2), if_pos (by rw [i_le]; omega), if_pos (by rw [i_le]; omega)]
    · rw [if_neg h2]
      rw [i_lt] at h2
      by_cases h3 : a ≤ x
      · rw [if_pos h3, if_pos (by rw [i_le]; omega)]
        rw [i_le] at h3
        exact Int32.toInt_inj.mp (by omega)
      · rw [if_neg h3]
  · rw [if_neg h1]
    rw [i_lt] at h1
    by_cases h2 : a < b
    · rw [if_pos h2]
      rw [i_lt] at h2
      rw [if_pos (by rw [i_le]; omega)]
      by_cases h3 : x ≤ b
      · rw [if_pos h3]
        rw [i_le] at h3
        exact Int32.toInt_inj.mp (by omega)
      · rw [if_neg h3]
    · rw [if_neg h2]
      rw [i_lt] at h2
      rw [if_pos (by rw [i_le]; omega)]
      by_cases h3 : x ≤ b
      · rw [if_pos h3]
        rw [i_le] at h3
        exact Int32.toInt_inj.mp (by omega)
      · rw [if_neg h3]
        exact Int32.toInt_inj.mp (by omega)
def potS (M : gM) (lv : Nat) (kind sum heat many day : Int32) : Int32 := hb 0 99 (lawS M lv 0 (v9 sum heat kind many day 0 0 0 0) sum)
def bndS (M : gM) (lv g : Nat) (kind ate ago day : Int32) : Int32 := hb 0 99 (lawS M lv 1 (v9 ate 0 kind 0 day (M 419 (4 * lv + g)) ago 0 0) (ate - ago))
def filS (M : gM) (lv f : Nat) (st day : Int32) : Int32 := hb (-9) 9 (lawS M lv 2 (v9 0 0 (nI f) 0 day 0 0 st (M 413 (6 * lv + f))) 0)
def sliS (M : gM) (lv d : Nat) (many day : Int32) : Int32 := hb 0 100 (lawS M lv 3 (v9 0 (M 416 (5 * lv + d)) 0 many day 0 0 0 0) 0)
def sumS (M : gM) (lv nf d j : Nat) : Int32 := sm (fun f => M 417 (6 * (5 * lv + d) + f) * M 414 (3 * (6 * lv + f) + j)) nf
def manS (M : gM) (lv nf d : Nat) : Int32 := sm (fun f => M 417 (6 * (5 * lv + d) + f)) nf
def priS (M : gM) (lv nf d : Nat) : Int32 := sm (fun f => M 417 (6 * (5 * lv + d) + f) * M 413 (6 * lv + f)) nf
section KEEPS
theorem potS_k (e : ∀ c j, 411 ≤ c → c ≤ 432 → M' c j = M c j) {a b c d f : Int32} : potS M' lv a b c d f = potS M lv a b c d f := by unfold potS; rw [lawS_keep (fun c j x y => e c j (by omega) (by omega))]
theorem bndS_k (e : ∀ c j, 411 ≤ c → c ≤ 432 → M' c j = M c j) {g : Nat} {a b c d : Int32} : bndS M' lv g a b c d = bndS M lv g a b c d := by unfold bndS; rw [lawS_keep (fun c j x y => e c j (by omega) (by omega)), e 419 _ (by decide) (by decide)]
theorem filS_k (e : ∀ c j, 411 ≤ c → c ≤ 432 → M' c j = M c j) {g : Nat} {a b : Int32} : filS M' lv g a b = filS M lv g a b := by unfold filS; rw [lawS_keep (fun c j x y => e c j (by omega) (by omega)), e 413 _ (by decide) (by decide)]
theorem sliS_k (e : ∀ c j, 411 ≤ c → c ≤ 432 → M' c j = M c j) {g : Nat} {a b : Int32} : sliS M' lv g a b = sliS M lv g a b := by unfold sliS; rw [lawS_keep (fun c j x y => e c j (by omega) (by omega)), e 416 _ (by decide) (by decide)]
theorem sumS_k (e : ∀ c j, 411 ≤ c → c ≤ 432 → M' c j = M c j) {d j : Nat} : sumS M' lv nf d j = sumS M lv nf d j := by unfold sumS; exact sm_c nf (fun k hk => by rw [e 417 _ (by decide) (by decide), e 414 _ (by decide) (by decide)])
theorem manS_k (e : ∀ c j, 411 ≤ c → c ≤ 432 → M' c j = M c j) {d : Nat} : manS M' lv nf d = manS M lv nf d := by unfold manS; exact sm_c nf (fun k hk => by rw [e 417 _ (by decide) (by decide)])
theorem priS_k (e : ∀ c j, 411 ≤ c → c ≤ 432 → M' c j = M c j) {d : Nat} : priS M' lv nf d = priS M lv nf d := by unfold priS; exact sm_c nf (fun k hk => by rw [e 417 _ (by decide) (by decide), e 413 _ (by decide) (by decide)])
end KEEPS
section CLS
theorem Lnd.nf6 (h : Lnd ld lv nf nd ng ne M) : nf ≤ 6 := h.2.2.2.1.1.2.2
theorem Lnd.nd5 (h : Lnd ld lv nf nd ng ne M) : nd ≤ 5 := h.2.2.2.1.2.1.2.2
theorem Lnd.ng4 (h : Lnd ld lv nf nd ng ne M) : ng ≤ 4 := h.2.2.2.1.2.2.1.2.2
theorem Lnd.ne6 (h : Lnd ld lv nf nd ng ne M) : ne ≤ 6 := h.2.2.2.1.2.2.2.2.2
theorem Lnd.cf (h : Lnd ld lv nf nd ng ne M) : M ld 0 = nI nf := h.2.2.2.1.1.1
theorem Lnd.mf (h : Lnd ld lv nf nd ng ne M) : M 411 lv = nI nf := h.2.2.2.1.1.2.1
theorem Lnd.cd (h : Lnd ld lv nf nd ng ne M) : M ld 1 = nI nd := h.2.2.2.1.2.1.1
theorem Lnd.md (h : Lnd ld lv nf nd ng ne M) : M 415 lv = nI nd := h.2.2.2.1.2.1.2.1
theorem Lnd.cg (h : Lnd ld lv nf nd ng ne M) : M ld 2 = nI ng := h.2.2.2.1.2.2.1.1
theorem Lnd.mg (h : Lnd ld lv nf nd ng ne M) : M 418 lv = nI ng := h.2.2.2.1.2.2.1.2.1
theorem Lnd.ce (h : Lnd ld lv nf nd ng ne M) : M ld 3 = nI ne := h.2.2.2.1.2.2.2.1
theorem Lnd.me (h : Lnd ld lv nf nd ng ne M) : M 420 lv = nI ne := h.2.2.2.1.2.2.2.2.1
theorem Lnd.l1 (h : Lnd ld lv nf nd ng ne M) : lv ≤ 1 := h.2.1
theorem Lnd.la (h : Lnd ld lv nf nd ng ne M) : isLa ld := h.1
theorem Lnd.l18 (h : Lnd ld lv nf nd ng ne M) : M 401 18 = nI lv := h.2.2.1
theorem Lnd.am (h : Lnd ld lv nf nd ng ne M) {d f : Nat} (hd : d < nd) (hf : f < 6) : ∃ x, x ≤ 6 ∧ M (ld + 5) (6 * d + f) = nI x ∧ M 417 (6 * (5 * lv + d) + f) = nI x ∧ (0 < x → f < nf) := by
  obtain ⟨a1, A, a2, a3, a4⟩ := h.2.2.2.2.1.2.1.1 d hd
  refine ⟨A f, ?_, (a2 f hf).1, (a2 f hf).2.1, (a2 f hf).2.2⟩
  rcases (show f = 0 ∨ f = 1 ∨ f = 2 ∨ f = 3 ∨ f = 4 ∨ f = 5 by omega) with q | q | q | q | q | q <;> subst q <;> omega
theorem Lnd.amE (h : Lnd ld lv nf nd ng ne M) {d f : Nat} (hd : d < nd) (hf : f < 6) : M (ld + 5) (6 * d + f) = M 417 (6 * (5 * lv + d) + f) := by
  obtain ⟨x, _, h1, h2, _⟩ := h.am hd hf; rw [h1, h2]
theorem Lnd.br (h : Lnd ld lv nf nd ng ne M) {f j : Nat} (hf : f < nf) (hj : j < 3) : M (ld + 3) (3 * f + j) = M 414 (3 * (6 * lv + f) + j) := by
  obtain ⟨x, _, h1, h2⟩ := (h.2.2.2.2.1.1 f hf).2.2 j hj; rw [h1, h2]
theorem Lnd.pr (h : Lnd ld lv nf nd ng ne M) {f : Nat} (hf : f < nf) : M (ld + 2) f = M 413 (6 * lv + f) := by
  obtain ⟨x, _, h1, h2⟩ := (h.2.2.2.2.1.1 f hf).2.1; rw [h1, h2]
theorem Lnd.ht (h : Lnd ld lv nf nd ng ne M) {d : Nat} (hd : d < nd) : ∃ x, x ≤ 9 ∧ M (ld + 4) d = nI x ∧ M 416 (5 * lv + d) = nI x := (h.2.2.2.2.1.2.1.1 d hd).1
theorem Lnd.htE (h : Lnd ld lv nf nd ng ne M) {d : Nat} (hd : d < nd) : M (ld + 4) d = M 416 (5 * lv + d) := by
  obtain ⟨x, _, h1, h2⟩ := h.ht hd; rw [h1, h2]
theorem Lnd.pa (h : Lnd ld lv nf nd ng ne M) {g : Nat} (hg : g < ng) : M (ld + 6) g = M 419 (4 * lv + g) := by
  obtain ⟨x, _, h1, h2⟩ := h.2.2.2.2.1.2.2.1 g hg; rw [h1, h2]
theorem Lnd.df (h : Lnd ld lv nf nd ng ne M) {e : Nat} (he : e < ne) : ∃ x, x ≤ 2 ∧ M (ld + 7) e = nI x ∧ M 421 (6 * lv + e) = nI x := (h.2.2.2.2.1.2.2.2.1 e he).1
theorem Lnd.dl (h : Lnd ld lv nf nd ng ne M) {e : Nat} (he : e < ne) : M (ld + 8) e = M 422 (6 * lv + e) := by
  obtain ⟨x, _, h1, h2⟩ := (h.2.2.2.2.1.2.2.2.1 e he).2; rw [h1, h2]
theorem Lnd.sd (h : Lnd ld lv nf nd ng ne M) : M ld 4 = M 423 lv := by
  obtain ⟨x, _, h1, h2⟩ := h.2.2.2.2.1.2.2.2.2; rw [h1, h2]
theorem Lnd.some_ (h : Lnd ld lv nf nd ng ne M) (hd : 0 < nd) : 0 < nf := by
  obtain ⟨a1, A, a2, a3, a4⟩ := h.2.2.2.2.1.2.1.1 0 hd
  have w0 := (a2 0 (by decide)).2.2
  have w1 := (a2 1 (by decide)).2.2
  have w2 := (a2 2 (by decide)).2.2
  have w3 := (a2 3 (by decide)).2.2
  have w4 := (a2 4 (by decide)).2.2
  have w5 := (a2 5 (by decide)).2.2
  omega
theorem c_inDish (h : Lnd ld lv nf nd ng ne M) {d f : Nat} (hd : d < nd) (hf : f < 6) : F_Land_inDish ld (nI d) (nI f) M = some (M 417 (6 * (5 * lv + d) + f)) := by
  have h5 := h.nd5
  unfold F_Land_inDish
  rw [show (6 : Int32) = nI 6 from rfl, nI_mul, nI_add, s_at (by omega) (by decide), bI_s, Nat.mul_comm d 6, h.amE hd hf]
theorem c_brought (h : Lnd ld lv nf nd ng ne M) {f j : Nat} (hf : f < nf) (hj : j < 3) : F_Land_broughtBy ld (nI f) (nI j) M = some (M 414 (3 * (6 * lv + f) + j)) := by
  have h6 := h.nf6
  unfold F_Land_broughtBy
  rw [show (3 : Int32) = nI 3 from rfl, nI_mul, nI_add, s_at (by omega) (by decide), bI_s, Nat.mul_comm f 3, h.br hf hj]
theorem c_manL (h : Lnd ld lv nf nd ng ne M) {d : Nat} (hd : d < nd) : ∀ (r k f : Nat), k + r = nf → H_Land_manyIn_4 ld (nI d) M (f + 1 + r) (sm (fun f => M 417 (6 * (5 * lv + d) + f)) k) (nI k) = some (manS M lv nf d) := by
  have h6 := h.nf6
  intro r
  induction r with
  | zero =>
    intro k f hk
    obtain rfl : k = nf := by omega
    show B_Land_manyIn_4 ld (nI d) M (H_Land_manyIn_4 ld (nI d) M f) _ (nI k) = _
    unfold B_Land_manyIn_4
    rw [h.cf, if_pos (by rw [nI_leI (by omega) (by omega)]; omega)]
    rfl
  | succ r ih =>
    intro k f hk
    show B_Land_manyIn_4 ld (nI d) M (H_Land_manyIn_4 ld (nI d) M (f + 1 + r)) _ (nI k) = _
    unfold B_Land_manyIn_4
    rw [h.cf, if_neg (by rw [nI_leI (by omega) (by omega)]; omega), c_inDish h hd (by omega), bI_s, nmI_e, nmI_e, nI_1]
    exact ih (k + 1) f (by omega)
theorem c_manyIn (h : Lnd ld lv nf nd ng ne M) {d : Nat} (hd : d < nd) : F_Land_manyIn ld (nI d) M = some (manS M lv nf d) := by
  have h6 := h.nf6
  unfold F_Land_manyIn
  obtain ⟨g, hg⟩ := FU_k (1 + nf) (by omega)
  rw [hg, ← Nat.add_assoc]
  exact c_manL h hd nf 0 g (Nat.zero_add _)
theorem c_sumL (h : Lnd ld lv nf nd ng ne M) {d j : Nat} (hd : d < nd) (hj : j < 3) : ∀ (r k f : Nat), k + r = nf → H_Land_sumOf_5 ld (nI d) (nI j) M (f + 1 + r) (sm (fun f => M 417 (6 * (5 * lv + d) + f) * M 414 (3 * (6 * lv + f) + j)) k) (nI k) = some (sumS M lv nf d j) := by
  have h6 := h.nf6
  intro r
  induction r with
  | zero =>
    intro k f hk
    obtain rfl : k = nf := by omega
    show B_Land_sumOf_5 ld (nI d) (nI j) M (H_Land_sumOf_5 ld (nI d) (nI j) M f) _ (nI k) = _
    unfold B_Land_sumOf_5
    rw [h.cf, if_pos (by rw [nI_leI (by omega) (by omega)]; omega)]
    rfl
  | succ r ih =>
    intro k f hk
    show B_Land_sumOf_5 ld (nI d) (nI j) M (H_Land_sumOf_5 ld (nI d) (nI j) M (f + 1 + r)) _ (nI k) = _
    unfold B_Land_sumOf_5
    rw [h.cf, if_neg (by rw [nI_leI (by omega) (by omega)]; omega), c_inDish h hd (by omega), bI_s, c_brought h (by omega) hj, bI_s, nmI_e, nmI_e, nI_1]
    exact ih (k + 1) f (by omega)
theorem c_sumOf (h : Lnd ld lv nf nd ng ne M) {d j : Nat} (hd : d < nd) (hj : j < 3) : F_Land_sumOf ld (nI d) (nI j) M = some (sumS M lv nf d j) := by
  have h6 := h.nf6
  unfold F_Land_sumOf
  obtain ⟨g, hg⟩ := FU_k (1 + nf) (by omega)
  rw [hg, ← Nat.add_assoc]
  exact c_sumL h hd hj nf 0 g (Nat.zero_add _)
theorem c_priL (h : Lnd ld lv nf nd ng ne M) {d : Nat} (hd : d < nd) : ∀ (r k f : Nat), k + r = nf → H_Land_priceOf_4 ld (nI d) M (f + 1 + r) (sm (fun f => M 417 (6 * (5 * lv + d) + f) * M 413 (6 * lv + f)) k) (nI k) = some (priS M lv nf d) := by
  have h6 := h.nf6
  intro r
  induction r with
  | zero =>
    intro k f hk
    obtain rfl : k = nf := by omega
    show B_Land_priceOf_4 ld (nI d) M (H_Land_priceOf_4 ld (nI d) M f) _ (nI k) = _
    unfold B_Land_priceOf_4
    rw [h.cf, if_pos (by rw [nI_leI (by omega) (by omega)]; omega)]
    rfl
  | succ r ih =>
    intro k f hk
    show B_Land_priceOf_4 ld (nI d) M (H_Land_priceOf_4 ld (nI d) M (f + 1 + r)) _ (nI k) = _
    unfold B_Land_priceOf_4
    rw [h.cf, if_neg (by rw [nI_leI (by omega) (by omega)]; omega), c_inDish h hd (by omega), bI_s, s_at (by omega) (by decide), bI_s, h.pr (by omega), nmI_e, nmI_e, nI_1]
    exact ih (k + 1) f (by omega)
theorem c_priceOf (h : Lnd ld lv nf nd ng ne M) {d : Nat} (hd : d < nd) : F_Land_priceOf ld (nI d) M = some (priS M lv nf d) := by
  have h6 := h.nf6
  unfold F_Land_priceOf
  obtain ⟨g, hg⟩ := FU_k (1 + nf) (by omega)
  rw [hg, ← Nat.add_assoc]
  exact c_priL h hd nf 0 g (Nat.zero_add _)
/-- the class's law with its VARs let -/
theorem Lnd.law (h : Lnd ld lv nf nd ng ne M) {w : Nat} (hw : w < 4) {N : gM} {vs : Nat → Int32} {p : Int32} (e : ∀ c j, c ≠ ld + 9 + 4 * w + 2 → N c j = M c j) (hv : ∀ i, i < 9 → N (ld + 9 + 4 * w + 2) i = vs i) : (F_Law_isTold (ld + 9 + 4 * w) M = some 0 ∧ lawS M lv w vs p = p) ∨ (F_Law_isTold (ld + 9 + 4 * w) M = some 1 ∧ ∃ N', F_Law_value (ld + 9 + 4 * w) N = some (lawS M lv w vs p, N')) := by
  obtain ⟨c, i, hL, hc, hi⟩ := h.2.2.2.2.2.1
  have hl := h.l1
  rcases hL w hw with ⟨z1, z2, z3⟩ | hL
  · exact Or.inl (c_law0 z1 z2 z3)
  · obtain ⟨t1, N', t2, _⟩ := c_law (M := N) (M0 := M) (vs := vs) (p := p) hL (by omega) (by omega) (e _ _ (by omega)) (fun i => e _ _ (by omega)) hv
    obtain ⟨t3, _⟩ := c_law (M := M) (M0 := M) (vs := M (ld + 9 + 4 * w + 2)) (p := p) hL (by omega) (by omega) rfl (fun i => rfl) (fun _ _ => rfl)
    exact Or.inr ⟨t3, N', t2⟩
theorem Lnd.vz (h : Lnd ld lv nf nd ng ne M) {x j : Nat} (hj : j < 9) (q : ∀ y ∈ lLa, vzC (y + x) j = true) : M (ld + x) j = 0 := h.2.2.2.2.2.2 (ld + x) j (q ld h.1) hj
theorem c_potForce (h : Lnd ld lv nf nd ng ne M) {kind sum heat many day : Int32} : ∃ M', F_Land_potForce ld kind sum heat many day M = some (potS M lv kind sum heat many day, M') ∧ Kl C0 M zL M' zL := by
  obtain ⟨r, M1, e1, _, k1⟩ := tf_Land_potForce (p1 := kind) (p2 := sum) (p3 := heat) (p4 := many) (p5 := day) (M := M) h.la
  have key : ∃ M', F_Land_potForce ld kind sum heat many day M = some (potS M lv kind sum heat many day, M') := by
    unfold F_Land_potForce potS
    have hv : ∀ i, i < 9 → uM (uM (uM (uM (uM M (ld + 9 + 2) 0 sum) (ld + 9 + 2) 1 heat) (ld + 9 + 2) 2 kind) (ld + 9 + 2) 3 many) (ld + 9 + 2) 4 day (ld + 9 + 4 * 0 + 2) i = v9 sum heat kind many day 0 0 0 0 i := fun i hi => by
      rcases (show i = 0 ∨ i = 1 ∨ i = 2 ∨ i = 3 ∨ i = 4 ∨ i = 5 ∨ i = 6 ∨ i = 7 ∨ i = 8 by omega) with q | q | q | q | q | q | q | q | q <;> subst q
      · rw [uM_diff (by omega), uM_diff (by omega), uM_diff (by omega), uM_diff (by omega)]; exact uM_same
      · rw [uM_diff (by omega), uM_diff (by omega), uM_diff (by omega)]; exact uM_same
      · rw [uM_diff (by omega), uM_diff (by omega)]; exact uM_same
      · rw [uM_diff (by omega)]; exact uM_same
      · exact uM_same
      all_goals (rw [uM_diff (by omega), uM_diff (by omega), uM_diff (by omega), uM_diff (by omega), uM_diff (by omega)]; exact h.vz (x := 11) (by decide) (by decide +kernel))
    rcases h.law (w := 0) (p := sum) (by decide) (N := uM (uM (uM (uM (uM M (ld + 9 + 2) 0 sum) (ld + 9 + 2) 1 heat) (ld + 9 + 2) 2 kind) (ld + 9 + 2) 3 many) (ld + 9 + 2) 4 day) (fun c j hc => by rw [uM_diff (by omega), uM_diff (by omega), uM_diff (by omega), uM_diff (by omega), uM_diff (by omega)]) hv with ⟨t1, t2⟩ | ⟨t1, N', t2⟩
    · rw [show F_Law_isTold (ld + 9) M = some 0 from t1, bI_s, if_pos rfl, within_e (by decide), bI_s, t2]
      exact ⟨M, rfl⟩
    · rw [show F_Law_isTold (ld + 9) M = some 1 from t1, bI_s, if_neg (show ¬ (1 : Int32) = 0 by decide), show F_Law_let (ld + 9) 0 sum M = some (uM M (ld + 9 + 2) 0 sum) from let_e (j := 0) (by decide), bI_s, show F_Law_let (ld + 9) 1 heat (uM M (ld + 9 + 2) 0 sum) = some (uM (uM M (ld + 9 + 2) 0 sum) (ld + 9 + 2) 1 heat) from let_e (j := 1) (by decide), bI_s, show F_Law_let (ld + 9) 2 kind (uM (uM M (ld + 9 + 2) 0 sum) (ld + 9 + 2) 1 heat) = some (uM (uM (uM M (ld + 9 + 2) 0 sum) (ld + 9 + 2) 1 heat) (ld + 9 + 2) 2 kind) from let_e (j := 2) (by decide), bI_s, show F_Law_let (ld + 9) 3 many (uM (uM (uM M (ld + 9 + 2) 0 sum) (ld + 9 + 2) 1 heat) (ld + 9 + 2) 2 kind) = some (uM (uM (uM (uM M (ld + 9 + 2) 0 sum) (ld + 9 + 2) 1 heat) (ld + 9 + 2) 2 kind) (ld + 9 + 2) 3 many) from let_e (j := 3) (by decide), bI_s, show F_Law_let (ld + 9) 4 day (uM (uM (uM (uM M (ld + 9 + 2) 0 sum) (ld + 9 + 2) 1 heat) (ld + 9 + 2) 2 kind) (ld + 9 + 2) 3 many) = some (uM (uM (uM (uM (uM M (ld + 9 + 2) 0 sum) (ld + 9 + 2) 1 heat) (ld + 9 + 2) 2 kind) (ld + 9 + 2) 3 many) (ld + 9 + 2) 4 day) from let_e (j := 4) (by decide), bI_s]
      have t3 : F_Law_value (ld + 9) (uM (uM (uM (uM (uM M (ld + 9 + 2) 0 sum) (ld + 9 + 2) 1 heat) (ld + 9 + 2) 2 kind) (ld + 9 + 2) 3 many) (ld + 9 + 2) 4 day) = some (lawS M lv 0 (v9 sum heat kind many day 0 0 0 0) sum, N') := t2
      rw [t3, bI2_s, within_e (by decide), bI_s]
      exact ⟨N', rfl⟩
  obtain ⟨M', e2⟩ := key
  have := Option.some.inj (e1.symm.trans e2)
  injection this with i1 i2
  subst i2
  exact ⟨M1, e2, k1⟩
theorem c_boundBy (h : Lnd ld lv nf nd ng ne M) {g : Nat} {kind ate ago day : Int32} (hg : g < ng) : ∃ M', F_Land_boundBy ld (nI g) kind ate ago day M = some (bndS M lv g kind ate ago day, M') ∧ Kl C0 M zL M' zL := by
  have h4 := h.ng4
  obtain ⟨r, M1, e1, _, k1⟩ := tf_Land_boundBy (p1 := nI g) (p2 := kind) (p3 := ate) (p4 := ago) (p5 := day) (M := M) h.la
  have key : ∃ M', F_Land_boundBy ld (nI g) kind ate ago day M = some (bndS M lv g kind ate ago day, M') := by
    unfold F_Land_boundBy bndS
    generalize hN : uM (uM (uM (uM (uM M (ld + 13 + 2) 0 ate) (ld + 13 + 2) 2 kind) (ld + 13 + 2) 5 (M 419 (4 * lv + g))) (ld + 13 + 2) 6 ago) (ld + 13 + 2) 4 day = N
    have hv : ∀ i, i < 9 → N (ld + 9 + 4 * 1 + 2) i = v9 ate 0 kind 0 day (M 419 (4 * lv + g)) ago 0 0 i := fun i hi => by
      rw [show ld + 9 + 4 * 1 + 2 = ld + 13 + 2 by omega, ← hN]
      rcases (show i = 0 ∨ i = 1 ∨ i = 2 ∨ i = 3 ∨ i = 4 ∨ i = 5 ∨ i = 6 ∨ i = 7 ∨ i = 8 by omega) with q | q | q | q | q | q | q | q | q <;> subst q
      · rw [uM_diff (by omega), uM_diff (by omega), uM_diff (by omega), uM_diff (by omega)]; exact uM_same
      · rw [uM_diff (by omega), uM_diff (by omega), uM_diff (by omega), uM_diff (by omega), uM_diff (by omega)]; exact h.vz (x := 15) (by decide) (by decide +kernel)
      · rw [uM_diff (by omega), uM_diff (by omega), uM_diff (by omega)]; exact uM_same
      · rw [uM_diff (by omega), uM_diff (by omega), uM_diff (by omega), uM_diff (by omega), uM_diff (by omega)]; exact h.vz (x := 15) (by decide) (by decide +kernel)
      · exact uM_same
      · rw [uM_diff (by omega), uM_diff (by omega)]; exact uM_same
      · rw [uM_diff (by omega)]; exact uM_same
      · rw [uM_diff (by omega), uM_diff (by omega), uM_diff (by omega), uM_diff (by omega), uM_diff (by omega)]; exact h.vz (x := 15) (by decide) (by decide +kernel)
      · rw [uM_diff (by omega), uM_diff (by omega), uM_diff (by omega), uM_diff (by omega), uM_diff (by omega)]; exact h.vz (x := 15) (by decide) (by decide +kernel)
    rcases h.law (w := 1) (p := ate - ago) (by decide) (N := N) (fun c j hc => by rw [← hN, uM_diff (by omega), uM_diff (by omega), uM_diff (by omega), uM_diff (by omega), uM_diff (by omega)]) hv with ⟨t1, t2⟩ | ⟨t1, N', t2⟩
    · rw [show F_Law_isTold (ld + 13) M = some 0 from t1, bI_s, if_pos rfl, within_e (by decide), bI_s, t2]
      exact ⟨M, rfl⟩
    · have t3 : F_Law_value (ld + 13) N = some (lawS M lv 1 (v9 ate 0 kind 0 day (M 419 (4 * lv + g)) ago 0 0) (ate - ago), N') := t2
      rw [show F_Law_isTold (ld + 13) M = some 1 from t1, bI_s, if_neg (show ¬ (1 : Int32) = 0 by decide), show F_Law_let (ld + 13) 0 ate M = some (uM M (ld + 13 + 2) 0 ate) from let_e (j := 0) (by decide), bI_s, show F_Law_let (ld + 13) 2 kind (uM M (ld + 13 + 2) 0 ate) = some (uM (uM M (ld + 13 + 2) 0 ate) (ld + 13 + 2) 2 kind) from let_e (j := 2) (by decide), bI_s, s_at (by omega) (by decide), bI_s, uM_diff (by omega), uM_diff (by omega), h.pa hg, show F_Law_let (ld + 13) 5 (M 419 (4 * lv + g)) (uM (uM M (ld + 13 + 2) 0 ate) (ld + 13 + 2) 2 kind) = some (uM (uM (uM M (ld + 13 + 2) 0 ate) (ld + 13 + 2) 2 kind) (ld + 13 + 2) 5 (M 419 (4 * lv + g))) from let_e (j := 5) (by decide), bI_s, show F_Law_let (ld + 13) 6 ago (uM (uM (uM M (ld + 13 + 2) 0 ate) (ld + 13 + 2) 2 kind) (ld + 13 + 2) 5 (M 419 (4 * lv + g))) = some (uM (uM (uM (uM M (ld + 13 + 2) 0 ate) (ld + 13 + 2) 2 kind) (ld + 13 + 2) 5 (M 419 (4 * lv + g))) (ld + 13 + 2) 6 ago) from let_e (j := 6) (by decide), bI_s, show F_Law_let (ld + 13) 4 day (uM (uM (uM (uM M (ld + 13 + 2) 0 ate) (ld + 13 + 2) 2 kind) (ld + 13 + 2) 5 (M 419 (4 * lv + g))) (ld + 13 + 2) 6 ago) = some (uM (uM (uM (uM (uM M (ld + 13 + 2) 0 ate) (ld + 13 + 2) 2 kind) (ld + 13 + 2) 5 (M 419 (4 * lv + g))) (ld + 13 + 2) 6 ago) (ld + 13 + 2) 4 day) from let_e (j := 4) (by decide), bI_s, hN, t3, bI2_s, within_e (by decide), bI_s]
      exact ⟨N', rfl⟩
  obtain ⟨M', e2⟩ := key
  have := Option.some.inj (e1.symm.trans e2)
  injection this with i1 i2
  subst i2
  exact ⟨M1, e2, k1⟩
theorem c_fillOf (h : Lnd ld lv nf nd ng ne M) {f : Nat} {st day : Int32} (hf : f < nf) : ∃ M', F_Land_fillOf ld (nI f) st day M = some (filS M lv f st day, M') ∧ Kl C0 M zL M' zL := by
  have h6 := h.nf6
  obtain ⟨r, M1, e1, _, k1⟩ := tf_Land_fillOf (p1 := nI f) (p2 := st) (p3 := day) (M := M) h.la
  have key : ∃ M', F_Land_fillOf ld (nI f) st day M = some (filS M lv f st day, M') := by
    unfold F_Land_fillOf filS
    generalize hN : uM (uM (uM (uM M (ld + 17 + 2) 7 st) (ld + 17 + 2) 8 (M 413 (6 * lv + f))) (ld + 17 + 2) 2 (nI f)) (ld + 17 + 2) 4 day = N
    have hv : ∀ i, i < 9 → N (ld + 9 + 4 * 2 + 2) i = v9 0 0 (nI f) 0 day 0 0 st (M 413 (6 * lv + f)) i := fun i hi => by
      rw [show ld + 9 + 4 * 2 + 2 = ld + 17 + 2 by omega, ← hN]
      rcases (show i = 7 ∨ i = 8 ∨ i = 2 ∨ i = 4 ∨ i = 0 ∨ i = 1 ∨ i = 3 ∨ i = 5 ∨ i = 6 by omega) with q | q | q | q | q | q | q | q | q <;> subst q
      · rw [uM_diff (by omega), uM_diff (by omega), uM_diff (by omega)]; exact uM_same
      · rw [uM_diff (by omega), uM_diff (by omega)]; exact uM_same
      · rw [uM_diff (by omega)]; exact uM_same
      · exact uM_same
      all_goals (rw [uM_diff (by omega), uM_diff (by omega), uM_diff (by omega), uM_diff (by omega)]; exact h.vz (x := 19) (by decide) (by decide +kernel))
    rcases h.law (w := 2) (p := 0) (by decide) (N := N) (fun c j hc => by rw [← hN, uM_diff (by omega), uM_diff (by omega), uM_diff (by omega), uM_diff (by omega)]) hv with ⟨t1, t2⟩ | ⟨t1, N', t2⟩
    · rw [show F_Law_isTold (ld + 17) M = some 0 from t1, bI_s, if_pos rfl, t2]
      exact ⟨M, rfl⟩
    · have t3 : F_Law_value (ld + 17) N = some (lawS M lv 2 (v9 0 0 (nI f) 0 day 0 0 st (M 413 (6 * lv + f))) 0, N') := t2
      rw [show F_Law_isTold (ld + 17) M = some 1 from t1, bI_s, if_neg (show ¬ (1 : Int32) = 0 by decide), show F_Law_let (ld + 17) 7 st M = some (uM M (ld + 17 + 2) 7 st) from let_e (j := 7) (by decide), bI_s, s_at (by omega) (by decide), bI_s, uM_diff (by omega), h.pr hf, show F_Law_let (ld + 17) 8 (M 413 (6 * lv + f)) (uM M (ld + 17 + 2) 7 st) = some (uM (uM M (ld + 17 + 2) 7 st) (ld + 17 + 2) 8 (M 413 (6 * lv + f))) from let_e (j := 8) (by decide), bI_s, show F_Law_let (ld + 17) 2 (nI f) (uM (uM M (ld + 17 + 2) 7 st) (ld + 17 + 2) 8 (M 413 (6 * lv + f))) = some (uM (uM (uM M (ld + 17 + 2) 7 st) (ld + 17 + 2) 8 (M 413 (6 * lv + f))) (ld + 17 + 2) 2 (nI f)) from let_e (j := 2) (by decide), bI_s, show F_Law_let (ld + 17) 4 day (uM (uM (uM M (ld + 17 + 2) 7 st) (ld + 17 + 2) 8 (M 413 (6 * lv + f))) (ld + 17 + 2) 2 (nI f)) = some (uM (uM (uM (uM M (ld + 17 + 2) 7 st) (ld + 17 + 2) 8 (M 413 (6 * lv + f))) (ld + 17 + 2) 2 (nI f)) (ld + 17 + 2) 4 day) from let_e (j := 4) (by decide), bI_s, hN, t3, bI2_s, within_e (by decide), bI_s]
      exact ⟨N', rfl⟩
  obtain ⟨M', e2⟩ := key
  have := Option.some.inj (e1.symm.trans e2)
  injection this with i1 i2
  subst i2
  exact ⟨M1, e2, k1⟩
theorem c_slipsOf (h : Lnd ld lv nf nd ng ne M) {d : Nat} {day : Int32} (hd : d < nd) : ∃ M', F_Land_slipsOf ld (nI d) day M = some (sliS M lv d (manS M lv nf d) day, M') ∧ Kl C0 M zL M' zL := by
  have h5 := h.nd5
  obtain ⟨r, M1, e1, _, k1⟩ := tf_Land_slipsOf (p1 := nI d) (p2 := day) (M := M) h.la
  have key : ∃ M', F_Land_slipsOf ld (nI d) day M = some (sliS M lv d (manS M lv nf d) day, M') := by
    unfold F_Land_slipsOf sliS
    have hk : Kl C0 M zL (uM M (ld + 21 + 2) 1 (M 416 (5 * lv + d))) zL := Kl.wM Kl.rf ((by decide +kernel : ∀ x ∈ lLa, C0 (x + 21 + 2) 1 = true) ld h.la) rfl
    have hman : F_Land_manyIn ld (nI d) (uM M (ld + 21 + 2) 1 (M 416 (5 * lv + d))) = some (manS M lv nf d) := by
      rw [c_manyIn (h.k0 hk) hd, manS_k (fun c j x y => uM_diff (by rcases La_cases h.la with q | q <;> omega))]
    generalize hN : uM (uM (uM M (ld + 21 + 2) 1 (M 416 (5 * lv + d))) (ld + 21 + 2) 3 (manS M lv nf d)) (ld + 21 + 2) 4 day = N
    have hv : ∀ i, i < 9 → N (ld + 9 + 4 * 3 + 2) i = v9 0 (M 416 (5 * lv + d)) 0 (manS M lv nf d) day 0 0 0 0 i := fun i hi => by
      rw [show ld + 9 + 4 * 3 + 2 = ld + 21 + 2 by omega, ← hN]
      rcases (show i = 1 ∨ i = 3 ∨ i = 4 ∨ i = 2 ∨ i = 0 ∨ i = 5 ∨ i = 6 ∨ i = 7 ∨ i = 8 by omega) with q | q | q | q | q | q | q | q | q <;> subst q
      · rw [uM_diff (by omega), uM_diff (by omega)]; exact uM_same
      · rw [uM_diff (by omega)]; exact uM_same
      · exact uM_same
      all_goals (rw [uM_diff (by omega), uM_diff (by omega), uM_diff (by omega)]; exact h.vz (x := 23) (by decide) (by decide +kernel))
    rcases h.law (w := 3) (p := 0) (by decide) (N := N) (fun c j hc => by rw [← hN, uM_diff (by omega), uM_diff (by omega), uM_diff (by omega)]) hv with ⟨t1, t2⟩ | ⟨t1, N', t2⟩
    · rw [show F_Law_isTold (ld + 21) M = some 0 from t1, bI_s, if_pos rfl, t2]
      exact ⟨M, rfl⟩
    · have t3 : F_Law_value (ld + 21) N = some (lawS M lv 3 (v9 0 (M 416 (5 * lv + d)) 0 (manS M lv nf d) day 0 0 0 0) 0, N') := t2
      rw [show F_Law_isTold (ld + 21) M = some 1 from t1, bI_s, if_neg (show ¬ (1 : Int32) = 0 by decide), s_at (by omega) (by decide), bI_s, h.htE hd, show F_Law_let (ld + 21) 1 (M 416 (5 * lv + d)) M = some (uM M (ld + 21 + 2) 1 (M 416 (5 * lv + d))) from let_e (j := 1) (by decide), bI_s, hman, bI_s, show F_Law_let (ld + 21) 3 (manS M lv nf d) (uM M (ld + 21 + 2) 1 (M 416 (5 * lv + d))) = some (uM (uM M (ld + 21 + 2) 1 (M 416 (5 * lv + d))) (ld + 21 + 2) 3 (manS M lv nf d)) from let_e (j := 3) (by decide), bI_s, show F_Law_let (ld + 21) 4 day (uM (uM M (ld + 21 + 2) 1 (M 416 (5 * lv + d))) (ld + 21 + 2) 3 (manS M lv nf d)) = some (uM (uM (uM M (ld + 21 + 2) 1 (M 416 (5 * lv + d))) (ld + 21 + 2) 3 (manS M lv nf d)) (ld + 21 + 2) 4 day) from let_e (j := 4) (by decide), bI_s, hN, t3, bI2_s, within_e (by decide), bI_s]
      exact ⟨N', rfl⟩
  obtain ⟨M', e2⟩ := key
  have := Option.some.inj (e1.symm.trans e2)
  injection this with i1 i2
  subst i2
  exact ⟨M1, e2, k1⟩
/-- a dish's force: with one more of a food, or none -/
def disS (M : gM) (lv nf d : Nat) (more : Option Nat) (j : Nat) (day : Int32) : Int32 := match more with
  | none => potS M lv (nI j) (sumS M lv nf d j) (M 416 (5 * lv + d)) (manS M lv nf d) day
  | some f => potS M lv (nI j) (sumS M lv nf d j + M 414 (3 * (6 * lv + f) + j)) (M 416 (5 * lv + d)) (manS M lv nf d + 1) day
def moreI (more : Option Nat) : Int32 := match more with
  | none => -2
  | some f => nI f
theorem c_dishForce (h : Lnd ld lv nf nd ng ne M) {d j : Nat} {more : Option Nat} {day : Int32} (hd : d < nd) (hj : j < 3) (hm : ∀ f, more = some f → f < nf) : ∃ M', F_Land_dishForce ld (nI d) (moreI more) (nI j) day M = some (disS M lv nf d more j day, M') ∧ Kl C0 M zL M' zL := by
  have h5 := h.nd5
  have h6 := h.nf6
  unfold F_Land_dishForce J_Land_dishForce_33
  rw [c_sumOf h hd hj, bI_s, c_manyIn h hd, bI_s, s_at (by omega) (by decide), h.htE hd]
  match more, hm with
  | none, _ =>
    obtain ⟨M', e1, k1⟩ := c_potForce h (kind := nI j) (sum := sumS M lv nf d j) (heat := M 416 (5 * lv + d)) (many := manS M lv nf d) (day := day)
    rw [if_pos (show moreI none < 0 by decide), bI_s, e1, bI2_s]
    exact ⟨M', rfl, k1⟩
  | some f, hm =>
    have hf := hm f rfl
    obtain ⟨M', e1, k1⟩ := c_potForce h (kind := nI j) (sum := sumS M lv nf d j + M 414 (3 * (6 * lv + f) + j)) (heat := M 416 (5 * lv + d)) (many := manS M lv nf d + 1) (day := day)
    rw [show moreI (some f) = nI f from rfl, if_neg (nI_pos (by omega)), c_brought h hf hj, bI_s, nmI_e, nmI_e, bI_s, e1, bI2_s]
    exact ⟨M', rfl, k1⟩
end CLS
end LND
end PAR32
