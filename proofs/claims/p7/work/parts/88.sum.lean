/-! sums in both parsers -/
def Cd (c k v : Int32) : Prop := (∃ x, x ≤ 9999 ∧ k = nI 0 ∧ v = nI x ∧ c = nI x) ∨ (∃ x, x < 9 ∧ k = nI 1 ∧ v = nI x ∧ c = nI (10000 + x)) ∨ (k = nI 2 ∧ c = nI 20043) ∨ (k = nI 3 ∧ c = nI 20045) ∨ (k = nI 4 ∧ c = nI 20042) ∨ (k = nI 5 ∧ c = nI 20047)
def Cs (W i0 j0 len : Nat) (M N : gM) : Prop := ∀ k, k < len → Cd (M (W + 1) (i0 + k)) (N 431 (j0 + k)) (N 432 (j0 + k))
def Hd (M N : gM) : List Nat → Prop
  | [] => True
  | x :: r => M 11 r.length = nI x ∧ N 433 r.length = nI (phi x) ∧ Hd M N r
def okR : List Nat → Prop
  | [] => True
  | x :: r => okR r ∧ (x = 40 ∨ ((x = 43 ∨ x = 45) ∧ ∀ y, r.head? = some y → y = 40) ∨ ((x = 42 ∨ x = 47) ∧ ∀ y, r.head? = some y → y ≠ 42 ∧ y ≠ 47))
def sg : List Nat → Nat
  | [] => 0
  | x :: r => sg r + if x = 40 then 0 else 1
def cn : List Nat → Nat
  | [] => 0
  | x :: r => cn r + if x = 40 then 1 else 0
theorem sg_cn : ∀ R : List Nat, R.length = sg R + cn R
  | [] => rfl
  | x :: r => by
    have := sg_cn r
    simp only [List.length_cons, sg, cn]
    split <;> omega
def hh : List Nat → Nat
  | [] => 0
  | x :: _ => if x = 40 then 0 else if x = 43 ∨ x = 45 then 1 else 2
theorem hh_le (R : List Nat) : hh R ≤ 2 := by
  cases R with
  | nil => decide
  | cons x r => simp only [hh]; split <;> (try split) <;> omega
theorem okR_len : ∀ R : List Nat, okR R → sg R ≤ 2 * cn R + hh R
  | [], _ => by decide
  | x :: r, h => by
    have ih := okR_len r h.1
    have h2 := hh_le r
    rcases h.2 with rfl | ⟨hx, hy⟩ | ⟨hx, hy⟩
    · have e1 : sg (40 :: r) = sg r := rfl
      have e2 : cn (40 :: r) = cn r + 1 := rfl
      have e3 : hh (40 :: r) = 0 := rfl
      omega
    · have h0 : hh r = 0 := by
        cases r with
        | nil => rfl
        | cons y r => simp only [hh]; rw [if_pos (hy y rfl)]
      have hn : x ≠ 40 := by omega
      simp only [sg, cn, hh, if_neg hn, if_pos hx]
      omega
    · have h0 : hh r ≤ 1 := by
        cases r with
        | nil => exact Nat.zero_le _
        | cons y r =>
          have := hy y rfl
          have h3 := h.1.2
          simp only [hh]
          split
          · omega
          · rw [if_pos (by omega)]; exact Nat.le_refl _
      have hn : x ≠ 40 := by omega
      have hn2 : ¬ (x = 43 ∨ x = 45) := by omega
      simp only [sg, cn, hh, if_neg hn, if_neg hn2]
      omega
theorem okR_max {R : List Nat} (h : okR R) (hc : cn R ≤ 6) : sg R ≤ 14 ∧ R.length ≤ 20 := by
  have h1 := okR_len R h
  have h2 := hh_le R
  have h3 := sg_cn R
  omega
theorem okR_sg {x : Nat} {r : List Nat} (h : okR (x :: r)) : x = 40 ∨ x = 43 ∨ x = 45 ∨ x = 42 ∨ x = 47 := by
  have := h.2
  omega
theorem Hd.keep {M N M' N' : gM} (h1 : ∀ j, M' 11 j = M 11 j) (h2 : ∀ j, N' 433 j = N 433 j) : ∀ R, Hd M N R → Hd M' N' R
  | [], _ => trivial
  | x :: r, h => ⟨(h1 _).trans h.1, (h2 _).trans h.2.1, Hd.keep h1 h2 r h.2.2⟩
/-- the entries below k alone -/
theorem Hd.keepB {M N M' N' : gM} : ∀ R, (∀ j, j < R.length → M' 11 j = M 11 j) → (∀ j, j < R.length → N' 433 j = N 433 j) → Hd M N R → Hd M' N' R
  | [], _, _, _ => trivial
  | x :: r, h1, h2, h => ⟨(h1 _ (by simp)).trans h.1, (h2 _ (by simp)).trans h.2.1, Hd.keepB r (fun j hj => h1 j (by simp; omega)) (fun j hj => h2 j (by simp; omega)) h.2.2⟩
theorem vdp_upto {M M' : gM} {a : Nat} : ∀ k, (∀ j, a ≤ j → j < a + k → M' 431 j = M 431 j) → vdp M' a k = vdp M a k := by
  intro k
  induction k with
  | zero => intro _; rfl
  | succ k ih =>
    intro h
    simp only [vdp]
    rw [ih (fun j h1 h2 => h j h1 (by omega)), h (a + k) (by omega) (by omega)]
def Ex (W b0 c0 len : Nat) (R : List Nat) (e : Nat) (M N : gM) : Prop := (M W 1 = nI (b0 + len)) ∧ (N 401 44 = nI (c0 + len)) ∧ (Cs W b0 c0 len M N) ∧ (vdp N c0 len = some (sg R + e)) ∧ (∀ k d, k ≤ len → vdp N c0 k = some d → d ≤ 16) ∧ (M 3 10 = nI R.length) ∧ (N 401 48 = nI R.length) ∧ (Hd M N R) ∧ (okR R)
section EX
variable {W b0 c0 len e : Nat} {R : List Nat} {M N : gM}
theorem Ex.hl (h : Ex W b0 c0 len R e M N) : M W 1 = nI (b0 + len) := h.1
theorem Ex.hc (h : Ex W b0 c0 len R e M N) : N 401 44 = nI (c0 + len) := h.2.1
theorem Ex.cs (h : Ex W b0 c0 len R e M N) : Cs W b0 c0 len M N := h.2.2.1
theorem Ex.vd (h : Ex W b0 c0 len R e M N) : vdp N c0 len = some (sg R + e) := h.2.2.2.1
theorem Ex.dp (h : Ex W b0 c0 len R e M N) : ∀ k d, k ≤ len → vdp N c0 k = some d → d ≤ 16 := h.2.2.2.2.1
theorem Ex.hn (h : Ex W b0 c0 len R e M N) : M 3 10 = nI R.length := h.2.2.2.2.2.1
theorem Ex.wn (h : Ex W b0 c0 len R e M N) : N 401 48 = nI R.length := h.2.2.2.2.2.2.1
theorem Ex.hd (h : Ex W b0 c0 len R e M N) : Hd M N R := h.2.2.2.2.2.2.2.1
theorem Ex.ok (h : Ex W b0 c0 len R e M N) : okR R := h.2.2.2.2.2.2.2.2
end EX
theorem Ex.fr {W b0 c0 len e : Nat} {R : List Nat} {M N M' N' : gM} (h : Ex W b0 c0 len R e M N) (hW : 12 ≤ W) (h1 : Eo (fun c j => c = 3 ∧ j ≠ 10) M M') (h2 : Eo (fun c j => c = 401 ∧ j ≠ 44 ∧ j ≠ 48) N N') : Ex W b0 c0 len R e M' N' :=
  ⟨((h1 W 1 (by omega)).trans h.hl),
   ((h2 401 44 (by omega)).trans h.hc),
   (fun k hk => by rw [h1 (W + 1) _ (by omega), h2 431 _ (by omega), h2 432 _ (by omega)]; exact h.cs k hk),
   (by rw [vdp_upto len (fun j _ _ => h2 431 j (by omega))]; exact h.vd),
   (fun k d hk hv => h.dp k d hk (by rw [vdp_upto k (fun j _ _ => h2 431 j (by omega))] at hv; exact hv)),
   ((h1 3 10 (by omega)).trans h.hn),
   ((h2 401 48 (by omega)).trans h.wn),
   (Hd.keep (fun j => h1 11 j (by omega)) (fun j => h2 433 j (by omega)) R h.hd),
   (h.ok)⟩
theorem c_add {W q : Nat} {x : Int32} {M : gM} (h : M W 1 = nI q) (hq : q < 400) : F_Law_add W x M = some (uM (uM M (W + 1) q x) W 1 (nI (q + 1))) := by
  unfold F_Law_add
  rw [h, if_neg (nI_pos (by omega)), if_neg (by rw [show (400 : Int32) = nI 400 from rfl, nI_leI (by omega) (by omega)]; omega), if_neg (nI_in hq (by decide)), nI_clamp (by omega), nmM_e, uM_diff (by omega), h, nI_1]
  rfl
def emM (q : Nat) (k v : Int32) (N : gM) : gM := uM (uM (uM N 431 q k) 432 q v) 401 44 (nI (q + 1))
theorem m_emit {q : Nat} {k v : Int32} {N : gM} (h : N 401 44 = nI q) (hq : q < 840) : F_Mod_emit k v N = some (emM q k v N) := by
  unfold F_Mod_emit
  rw [h, if_neg (nI_in hq (by decide)), nI_clamp (by omega), nmM_e, uM_diff (by omega), h, if_neg (nI_in hq (by decide)), nI_clamp (by omega), nmM_e, uM_diff (by omega), uM_diff (by omega), h, nI_1]
  rfl
/-- one code more, for both -/
theorem Ex.put {W b0 c0 len e e' : Nat} {R R' : List Nat} {x k v : Int32} {M N : gM} (h : Ex W b0 c0 len R e M N) (hW : 12 ≤ W) (hcd : Cd x k v) (hv : (k.toInt < 2 ∧ sg R' + e' = sg R + e + 1) ∨ (¬ k.toInt < 2 ∧ sg R + e = sg R' + e' + 1 ∧ 2 ≤ sg R + e)) (hd16 : sg R' + e' ≤ 16) (hn : (uM (uM M (W + 1) (b0 + len) x) W 1 (nI (b0 + len + 1))) 3 10 = nI R'.length) (wn : N 401 48 = nI R'.length) (hd : Hd M N R') (ok : okR R') :
    Ex W b0 c0 (len + 1) R' e' (uM (uM M (W + 1) (b0 + len) x) W 1 (nI (b0 + len + 1))) (emM (c0 + len) k v N) :=
  ⟨(by rw [uM_same, show b0 + (len + 1) = b0 + len + 1 by omega]),
   (by unfold emM; rw [uM_same, show c0 + (len + 1) = c0 + len + 1 by omega]),
   (fun j hj => by
    unfold emM
    by_cases hl : j = len
    · subst hl
      rw [uM_diff (by omega), uM_same, uM_diff (by omega), uM_diff (by omega), uM_same, uM_diff (by omega), uM_same]
      exact hcd
    · rw [uM_diff (by omega), uM_diff (by omega), uM_diff (by omega), uM_diff (by omega), uM_diff (by omega), uM_diff (by omega), uM_diff (by omega), uM_diff (by omega)]
      exact h.cs j (by omega)),
   (by
    have e1 : vdp (emM (c0 + len) k v N) c0 len = some (sg R + e) := by
      rw [vdp_upto len (fun j _ h2 => by unfold emM; rw [uM_diff (by omega), uM_diff (by omega), uM_diff (by omega)])]; exact h.vd
    have e2 : emM (c0 + len) k v N 431 (c0 + len) = k := by unfold emM; rw [uM_diff (by omega), uM_diff (by omega), uM_same]
    simp only [vdp, e1, e2]
    rcases hv with ⟨h1, h2⟩ | ⟨h1, h2, h3⟩
    · rw [if_pos h1, h2]
    · rw [if_neg h1, if_pos h3, h2]; rfl),
   (fun j d hj hv' => by
    by_cases hl : j = len + 1
    · subst hl
      have e1 : vdp (emM (c0 + len) k v N) c0 len = some (sg R + e) := by
        rw [vdp_upto len (fun j _ h2 => by unfold emM; rw [uM_diff (by omega), uM_diff (by omega), uM_diff (by omega)])]; exact h.vd
      have e2 : emM (c0 + len) k v N 431 (c0 + len) = k := by unfold emM; rw [uM_diff (by omega), uM_diff (by omega), uM_same]
      simp only [vdp, e1, e2] at hv'
      rcases hv with ⟨h1, h2⟩ | ⟨h1, h2, h3⟩
      · rw [if_pos h1] at hv'
        have := Option.some.inj hv'
        omega
      · rw [if_neg h1, if_pos h3] at hv'
        have := Option.some.inj hv'
        omega
    · exact h.dp j d (by omega) (by rw [vdp_upto j (fun j _ h2 => by unfold emM; rw [uM_diff (by omega), uM_diff (by omega), uM_diff (by omega)])] at hv'; exact hv')),
   (hn),
   (by unfold emM; rw [uM_diff (by omega), uM_diff (by omega), uM_diff (by omega)]; exact wn),
   (Hd.keep (fun j => by rw [uM_diff (by omega), uM_diff (by omega)]) (fun j => by unfold emM; rw [uM_diff (by omega), uM_diff (by omega), uM_diff (by omega)]) R' hd),
   (ok)⟩
def mk (x : Nat) : Nat := if x = 43 then 2 else if x = 45 then 3 else if x = 42 then 4 else 5
def cE (W b0 c j : Nat) : Prop := (c = 3 ∧ (j = 1 ∨ j = 2 ∨ j = 3 ∨ j = 10 ∨ j = 11)) ∨ c = 11 ∨ (c = W ∧ j = 1) ∨ (c = W + 1 ∧ b0 ≤ j)
def mE (c0 B c j : Nat) : Prop := (c = 401 ∧ (j = 11 ∨ j = 12 ∨ j = 13 ∨ j = 14 ∨ j = 44 ∨ j = 48)) ∨ c = 433 ∨ ((c = 431 ∨ c = 432) ∧ c0 ≤ j ∧ j < B)
theorem r_rank {x : Nat} (h : x ≤ 148) : F_Reader_rank (nI x) = some (if x = 42 ∨ x = 47 then 2 else if x = 43 ∨ x = 45 then 1 else 0) := (by decide +kernel : ∀ x, x < 149 → F_Reader_rank (nI x) = some (if x = 42 ∨ x = 47 then 2 else if x = 43 ∨ x = 45 then 1 else 0)) x (by omega)
/-- layHeld and comesOut -/
theorem p_lay {W b0 c0 B : Nat} (hW : 12 ≤ W) {p : Nat} {s : Int32} (hp : (p = 1 ∧ s = 0) ∨ (p = 2 ∧ s = 1)) : ∀ (R : List Nat) (len f g : Nat) (M N : gM), Ex W b0 c0 len R 1 M N → cn R ≤ 6 → b0 + len + R.length ≤ 400 → c0 + len + R.length ≤ B → B ≤ 840 → R.length < f → R.length < g →
    ∃ M' N' len' R', H_Reader_layHeld_0 W (nI p) f M = some M' ∧ H_Mod_comesOut_0 s g N = some N' ∧ Ex W b0 c0 len' R' 1 M' N' ∧ len' + R'.length = len + R.length ∧ cn R' = cn R ∧ (∀ y, R'.head? = some y → y = 40 ∨ (p = 2 ∧ y ≠ 42 ∧ y ≠ 47)) ∧ Eo (fun c j => (c = 3 ∧ j = 10) ∨ (c = W ∧ j = 1) ∨ (c = W + 1 ∧ b0 ≤ j)) M M' ∧ Eo (fun c j => (c = 401 ∧ (j = 44 ∨ j = 48)) ∨ ((c = 431 ∨ c = 432) ∧ c0 ≤ j ∧ j < B)) N N' := by
  intro R
  induction R with
  | nil =>
    intro len f g M N h hc h1 h2 h3 hf hg
    obtain ⟨f, rfl⟩ : ∃ x, f = x + 1 := ⟨f - 1, by omega⟩
    obtain ⟨g, rfl⟩ : ∃ x, g = x + 1 := ⟨g - 1, by omega⟩
    refine ⟨M, N, len, [], ?_, ?_, h, rfl, rfl, (fun y hy => by cases hy), Eo.rf, Eo.rf⟩
    · show B_Reader_layHeld_0 W (nI p) (H_Reader_layHeld_0 W (nI p) f) M = _
      unfold B_Reader_layHeld_0
      rw [h.hn, if_pos (by decide)]
    · show B_Mod_comesOut_0 s (H_Mod_comesOut_0 s g) N = _
      unfold B_Mod_comesOut_0
      rw [h.wn, if_pos (by decide)]
  | cons x r ih =>
    intro len f g M N h hc h1 h2 h3 hf hg
    obtain ⟨f, rfl⟩ : ∃ x, f = x + 1 := ⟨f - 1, by omega⟩
    obtain ⟨g, rfl⟩ : ∃ x, g = x + 1 := ⟨g - 1, by omega⟩
    have hmax := okR_max h.ok hc
    simp only [List.length_cons] at h1 h2 hf hg hmax
    have hx := okR_sg h.ok
    obtain ⟨d1, d2, d3⟩ := h.hd
    have hn := h.hn
    have wn := h.wn
    simp only [List.length_cons] at hn wn
    have eM : H_Reader_layHeld_0 W (nI p) (f + 1) M = if (if x = 42 ∨ x = 47 then 2 else if x = 43 ∨ x = 45 then 1 else 0) < nI p then some M else H_Reader_layHeld_0 W (nI p) f (uM (uM (uM M 3 10 (nI r.length)) (W + 1) (b0 + len) (nI (20000 + x))) W 1 (nI (b0 + len + 1))) := by
      show B_Reader_layHeld_0 W (nI p) (H_Reader_layHeld_0 W (nI p) f) M = _
      unfold B_Reader_layHeld_0
      have e1 : nI (r.length + 1) - 1 = nI r.length := by rw [show (1 : Int32) = nI 1 from rfl, nI_sub (by omega)]; rfl
      rw [hn, if_neg (nI_nle (by omega) (by omega)), e1, s_at (by omega) (by decide), bI_s, d1, r_rank (by omega), bI_s, nmM_e, uM_same, s_at (by omega) (by decide), bI_s, uM_diff (by omega), d1, show (20000 : Int32) = nI 20000 from rfl, nI_add, c_add (by rw [uM_diff (by omega)]; exact h.hl) (by omega), bI_s]
    have eN : H_Mod_comesOut_0 s (g + 1) N = if x = 40 then some N else if s = 1 ∧ (x = 43 ∨ x = 45) then some N else H_Mod_comesOut_0 s g (emM (c0 + len) (nI (mk x)) 0 (uM N 401 48 (nI r.length))) := by
      show B_Mod_comesOut_0 s (H_Mod_comesOut_0 s g) N = _
      unfold B_Mod_comesOut_0
      have e1 : nI (r.length + 1) - 1 = nI r.length := by rw [show (1 : Int32) = nI 1 from rfl, nI_sub (by omega)]; rfl
      have eJ : ∀ y, (x = 43 ∨ x = 45 ∨ x = 42 ∨ x = 47) → y = nI (phi x) → J_Mod_comesOut_42 (H_Mod_comesOut_0 s g) s y N = H_Mod_comesOut_0 s g (emM (c0 + len) (nI (mk x)) 0 (uM N 401 48 (nI r.length))) := by
        intro y hx hy
        unfold J_Mod_comesOut_42 J_Mod_comesOut_84
        rw [wn, e1, nmM_e]
        have em : ∀ k : Int32, F_Mod_emit k 0 (uM N 401 48 (nI r.length)) = some (emM (c0 + len) k 0 (uM N 401 48 (nI r.length))) := fun k => m_emit (by rw [uM_diff (by omega)]; exact h.hc) (by omega)
        rw [em, em, em, em]
        rcases hx with rfl | rfl | rfl | rfl <;> subst hy <;> rfl
      rw [wn, if_neg (nI_nle (by omega) (by omega)), e1, if_neg (nI_in (by omega) (by decide)), nI_clamp (by omega), d2, nmI_e]
      rcases hp with ⟨_, rfl⟩ | ⟨_, rfl⟩
      · rcases hx with rfl | rfl | rfl | rfl | rfl
        · rfl
        · rw [if_neg (by decide), if_pos rfl, eJ _ (by decide) rfl]; rfl
        · rw [if_neg (by decide), if_pos rfl, eJ _ (by decide) rfl]; rfl
        · rw [if_neg (by decide), if_pos rfl, eJ _ (by decide) rfl]; rfl
        · rw [if_neg (by decide), if_pos rfl, eJ _ (by decide) rfl]; rfl
      · rcases hx with rfl | rfl | rfl | rfl | rfl
        · rfl
        · rfl
        · rfl
        · rw [if_neg (by decide), if_neg (by decide), if_neg (by decide), if_neg (by decide), eJ _ (by decide) rfl]; rfl
        · rw [if_neg (by decide), if_neg (by decide), if_neg (by decide), if_neg (by decide), eJ _ (by decide) rfl]; rfl
    rw [eM, eN]
    have stop : x = 40 ∨ (p = 2 ∧ x ≠ 42 ∧ x ≠ 47) → ∃ M' N' len' R', some M = some M' ∧ some N = some N' ∧ Ex W b0 c0 len' R' 1 M' N' ∧ len' + R'.length = len + (x :: r).length ∧ cn R' = cn (x :: r) ∧ (∀ y, R'.head? = some y → y = 40 ∨ (p = 2 ∧ y ≠ 42 ∧ y ≠ 47)) ∧ Eo (fun c j => (c = 3 ∧ j = 10) ∨ (c = W ∧ j = 1) ∨ (c = W + 1 ∧ b0 ≤ j)) M M' ∧ Eo (fun c j => (c = 401 ∧ (j = 44 ∨ j = 48)) ∨ ((c = 431 ∨ c = 432) ∧ c0 ≤ j ∧ j < B)) N N' :=
      fun q => ⟨M, N, len, x :: r, rfl, rfl, h, rfl, rfl, fun y hy => by
        have : x = y := Option.some.inj hy
        subst this; exact q, Eo.rf, Eo.rf⟩
    have go : (x = 43 ∨ x = 45 ∨ x = 42 ∨ x = 47) → ∃ M' N' len' R', H_Reader_layHeld_0 W (nI p) f (uM (uM (uM M 3 10 (nI r.length)) (W + 1) (b0 + len) (nI (20000 + x))) W 1 (nI (b0 + len + 1))) = some M' ∧ H_Mod_comesOut_0 s g (emM (c0 + len) (nI (mk x)) 0 (uM N 401 48 (nI r.length))) = some N' ∧ Ex W b0 c0 len' R' 1 M' N' ∧ len' + R'.length = len + (x :: r).length ∧ cn R' = cn (x :: r) ∧ (∀ y, R'.head? = some y → y = 40 ∨ (p = 2 ∧ y ≠ 42 ∧ y ≠ 47)) ∧ Eo (fun c j => (c = 3 ∧ j = 10) ∨ (c = W ∧ j = 1) ∨ (c = W + 1 ∧ b0 ≤ j)) M M' ∧ Eo (fun c j => (c = 401 ∧ (j = 44 ∨ j = 48)) ∨ ((c = 431 ∨ c = 432) ∧ c0 ≤ j ∧ j < B)) N N' := by
      intro hx4
      have hx40 : x ≠ 40 := by omega
      have hsg : sg (x :: r) = sg r + 1 := by simp only [sg, if_neg hx40]
      have hcn : cn (x :: r) = cn r := by simp only [cn, if_neg hx40]; rfl
      have hE0 : Ex W b0 c0 len (x :: r) 1 (uM M 3 10 (nI (r.length + 1))) (uM N 401 48 (nI (r.length + 1))) := by
        have e1 : uM M 3 10 (nI (r.length + 1)) = M := by
          funext c j; rw [uM_at]; split
          · next q => rw [q.1, q.2, hn]
          · rfl
        have e2 : uM N 401 48 (nI (r.length + 1)) = N := by
          funext c j; rw [uM_at]; split
          · next q => rw [q.1, q.2, wn]
          · rfl
        rw [e1, e2]; exact h
      have hcd : Cd (nI (20000 + x)) (nI (mk x)) 0 := by
        rcases hx4 with rfl | rfl | rfl | rfl
        · exact Or.inr (Or.inr (Or.inl ⟨rfl, rfl⟩))
        · exact Or.inr (Or.inr (Or.inr (Or.inl ⟨rfl, rfl⟩)))
        · exact Or.inr (Or.inr (Or.inr (Or.inr (Or.inl ⟨rfl, rfl⟩))))
        · exact Or.inr (Or.inr (Or.inr (Or.inr (Or.inr ⟨rfl, rfl⟩))))
      have hmk : ¬ (nI (mk x)).toInt < 2 := by rcases hx4 with rfl | rfl | rfl | rfl <;> decide
      have hE1 : Ex W b0 c0 (len + 1) r 1 (uM (uM (uM M 3 10 (nI r.length)) (W + 1) (b0 + len) (nI (20000 + x))) W 1 (nI (b0 + len + 1))) (emM (c0 + len) (nI (mk x)) 0 (uM N 401 48 (nI r.length))) := by
        have hp0 : ∀ {M : gM} {N : gM}, M W 1 = nI (b0 + len) → N 401 44 = nI (c0 + len) → Cs W b0 c0 len M N → vdp N c0 len = some (sg (x :: r) + 1) → (∀ k d, k ≤ len → vdp N c0 k = some d → d ≤ 16) → M 3 10 = nI r.length → N 401 48 = nI r.length → Hd M N r → Ex W b0 c0 (len + 1) r 1 (uM (uM M (W + 1) (b0 + len) (nI (20000 + x))) W 1 (nI (b0 + len + 1))) (emM (c0 + len) (nI (mk x)) 0 N) := by
          intro M N a1 a2 a3 a4 a5 a6 a7 a8
          exact Ex.put (e := 2) (R := r) ⟨a1, a2, a3, by rw [a4, hsg], a5, a6, a7, a8, h.ok.1⟩ hW hcd (Or.inr ⟨hmk, rfl, by omega⟩) (by omega) (by rw [uM_diff (by omega), uM_diff (by omega)]; exact a6) a7 a8 h.ok.1
        refine hp0 (by rw [uM_diff (by omega)]; exact h.hl) (by rw [uM_diff (by omega)]; exact h.hc) (fun k hk => by rw [uM_diff (by omega), uM_diff (by omega), uM_diff (by omega)]; exact h.cs k hk) (by rw [vdp_upto len (fun j _ _ => uM_diff (by omega))]; exact h.vd) (fun k d hk hv => h.dp k d hk (by rw [vdp_upto k (fun j _ _ => uM_diff (by omega))] at hv; exact hv)) uM_same uM_same (Hd.keep (fun j => uM_diff (by omega)) (fun j => uM_diff (by omega)) r d3)
      obtain ⟨M', N', len', R', g1, g2, g3, g4, g5, g6, g7, g8⟩ := ih (len + 1) f g _ _ hE1 (by omega) (by omega) (by omega) h3 (by omega) (by omega)
      refine ⟨M', N', len', R', g1, g2, g3, by simp only [List.length_cons]; omega, by omega, g6, Eo.tr ?_ g7, Eo.tr ?_ g8⟩
      · exact ((Eo.rf.u (by omega)).u (by omega)).u (by omega)
      · unfold emM
        exact (((Eo.rf.u (by omega)).u (by omega)).u (by omega)).u (by omega)
    rcases hp with ⟨rfl, rfl⟩ | ⟨rfl, rfl⟩
    · rcases hx with rfl | rfl | rfl | rfl | rfl
      · exact stop (Or.inl rfl)
      · exact go (by decide)
      · exact go (by decide)
      · exact go (by decide)
      · exact go (by decide)
    · rcases hx with rfl | rfl | rfl | rfl | rfl
      · exact stop (Or.inl rfl)
      · exact stop (Or.inr ⟨rfl, by decide, by decide⟩)
      · exact stop (Or.inr ⟨rfl, by decide, by decide⟩)
      · exact go (by decide)
      · exact go (by decide)
