/-! the ways kept: both halves; blame -/
section PAR50
def wK (M : gM) (lv nf k : Nat) (day : Int32) (n : Nat) : Bool := wOk M lv nf (n / 13) (n % 13) && allK (kP M lv nf (n / 13) (n % 13) day) k 0
def wl (W : Nat → Bool) : Nat → List Nat
  | 0 => []
  | n + 1 => if W n = true then wl W n ++ [n] else wl W n
theorem wl_len (W : Nat → Bool) : ∀ n, (wl W n).length ≤ n
  | 0 => Nat.le_refl _
  | n + 1 => by
    have := wl_len W n
    show (if W n = true then wl W n ++ [n] else wl W n).length ≤ n + 1
    by_cases w : W n = true
    · rw [if_pos w, List.length_append]; simp only [List.length_cons, List.length_nil]; omega
    · rw [if_neg w]; omega
def gF (x y : Nat) : Prop := C0 x y = true ∨ (387 ≤ x ∧ x ≤ 389) ∨ (x = 383 ∧ y = 7)
/-- the rows of the ways kept -/
def Rw (M : gM) (lv nf : Nat) (l : List Nat) (N : gM) : Prop := N 383 7 = nI l.length ∧ ∀ i, i < l.length → N 387 i = nI (l.getD i 0 / 13) ∧ N 388 i = wMan M lv nf (l.getD i 0 / 13) (l.getD i 0 % 13) ∧ ∀ j, j < 3 → N 389 (3 * i + j) = wSum M lv nf (l.getD i 0 / 13) (l.getD i 0 % 13) j
section BL
variable {D Q q ld lv nf nd ng ne : Nat} {M M' M1 Mc Mb : gM} {L : gL} {r : Nat → Int32}
theorem gF_n {x y : Nat} (h1 : 64 ≤ x) (h2 : x ≠ 390) (h3 : ¬ (387 ≤ x ∧ x ≤ 389)) (h4 : ¬ (x = 383 ∧ y = 7)) : ¬ gF x y := fun h => by
  rcases h with h | h | h
  · rw [C0_M h1 h2] at h; cases h
  · exact h3 h
  · exact h4 h
theorem Lnd.kG (h : Lnd ld lv nf nd ng ne M) (e : Eo gF M M') : Lnd ld lv nf nd ng ne M' := h.keep (fun c j q => e c j (fun w => by
  rcases w with w | w
  · rw [gv_C0 q] at w; cases w
  · have := gv_num q; omega))
theorem Td.kG (h : Td M) (e : Eo gF M M') : Td M' := h.keep2 (e 383 3 (gF_n (by decide) (by decide) (by omega) (by omega))) (e 401 64 (gF_n (by decide) (by decide) (by omega) (by omega))) (fun c j w => e c j (gF_n (by omega) (by omega) (by omega) (by omega)))
theorem gF_M (e : Eo gF M M') : ∀ c j, 411 ≤ c → c ≤ 432 → M' c j = M c j := fun c j a b => e c j (gF_n (by omega) (by omega) (by omega) (by omega))
theorem allK_c {p p' : Nat → Bool} : ∀ s i, (∀ x, i ≤ x → x < i + s → p x = p' x) → allK p s i = allK p' s i
  | 0, _, _ => rfl
  | s + 1, i, h => by
    unfold allK
    rw [h i (Nat.le_refl _) (by omega), allK_c s (i + 1) (fun x a b => h x (by omega) (by omega))]
theorem kP_k (e : ∀ c j, 411 ≤ c → c ≤ 432 → M' c j = M c j) (e4 : ∀ c j, 441 ≤ c → c ≤ 443 → M' c j = M c j) {d v : Nat} {day : Int32} : kP M' lv nf d v day = kP M lv nf d v day := funext fun i => by
  unfold kP
  rw [wFo_k e, e4 441 i (by decide) (by decide), e4 442 i (by decide) (by decide), e4 443 i (by decide) (by decide)]
theorem Rw.c0 {l : List Nat} {N N' : gM} (h : Rw M lv nf l N) (k : Kl C0 N zL N' zL) : Rw M lv nf l N' := by
  have f : ∀ x y, 64 ≤ x → x ≠ 390 → N' x y = N x y := fun x y a b => k.m (C0_M a b)
  refine ⟨(f 383 7 (by decide) (by decide)).trans h.1, fun i hi => ?_⟩
  rw [f 387 i (by decide) (by decide), f 388 i (by decide) (by decide)]
  exact ⟨(h.2 i hi).1, (h.2 i hi).2.1, fun j hj => by rw [f 389 _ (by decide) (by decide)]; exact (h.2 i hi).2.2 j hj⟩
/-- one way, by the class -/
theorem c_wayStep (hL : Lnd ld lv nf nd ng ne M) (hT : Td M) {k : Nat} {day : Int32} (hk : ∃ n, n ≤ 20 ∧ M 383 3 = nI n ∧ k ≤ n) {d v : Nat} (hd : d < nd) (hv : v < 13) {l : List Nat} (hl : l.length ≤ 64) {N : gM} (eN : Eo gF M N) (hR : Rw M lv nf l N) {τ : Type} (J : gM → Option τ) :
    ∃ X, bI2 (F_Told_lay ld (nI d) (nI v) N) (fun r6 M7 => if r6 = 0 then J M7 else bI2 (F_Told_isAsKnown ld day (nI k) M7) (fun r11 M12 => if r11 = 0 then J M12 else nmM (uM M12 383 7 ((M12 383 7) + 1)) (fun M14 => J M14))) = J X ∧ Eo gF M X ∧ Rw M lv nf (if wK M lv nf k day (13 * d + v) = true then l ++ [13 * d + v] else l) X := by
  have h5 := hL.nd5
  have hN := hL.kG eN
  have mN := gF_M eN
  have e13 : (13 * d + v) / 13 = d ∧ (13 * d + v) % 13 = v := by omega
  obtain ⟨X, y1, y2, y3, y4, y5⟩ := c_lay hN hd hv hl hR.1
  rw [wOk_k mN] at y1 y5
  have eX : Eo gF M X := eN.tr (fun x y w => y2 x y (fun z => w (Or.inr (Or.inl z))))
  have hRX : Rw M lv nf l X := by
    refine ⟨(y2 383 7 (by omega)).trans hR.1, fun i hi => ?_⟩
    rw [(y3 i hi).1, (y3 i hi).2]
    exact ⟨(hR.2 i hi).1, (hR.2 i hi).2.1, fun j hj => by rw [y4 _ (by omega)]; exact (hR.2 i hi).2.2 j hj⟩
  have hWu : wK M lv nf k day (13 * d + v) = (wOk M lv nf d v && allK (kP M lv nf d v day) k 0) := by
    unfold wK; rw [e13.1, e13.2]
  by_cases w : wOk M lv nf d v = true
  rotate_left
  · have w' : wOk M lv nf d v = false := by simpa using w
    refine ⟨X, ?_, eX, ?_⟩
    · rw [y1, bI2_s, if_neg w, if_pos rfl]
    · rw [hWu, w', Bool.false_and, if_neg (by decide)]; exact hRX
  obtain ⟨z1, z2, z3⟩ := y5 w
  rw [wMan_k mN] at z2
  have hX := hL.kG eX
  have mX := gF_M eX
  have m4 : ∀ c j, 441 ≤ c → c ≤ 443 → X c j = M c j := fun c j a b => eX c j (gF_n (by omega) (by omega) (by omega) (by omega))
  obtain ⟨g, hg⟩ := FU_k (1 + k) (by obtain ⟨n, a, _, b⟩ := hk; omega)
  obtain ⟨Y, u1, u2⟩ := c_known hX (hT.kG eX) (d := d) (v := v) (c := l.length) (k := k) (day := day) hl hRX.1 (by
    obtain ⟨n, a, b, c⟩ := hk
    exact ⟨n, a, (eX 383 3 (gF_n (by decide) (by decide) (by omega) (by omega))).trans b, c⟩) (by rw [wMan_k mX]; exact z2) (fun j hj => by rw [z3 j hj, wSum_k mN, wSum_k mX]) k 0 g X (Nat.zero_add _) Kl.rf
  rw [kP_k mX m4] at u1
  have c1 : F_Told_isAsKnown ld day (nI k) X = some (if allK (kP M lv nf d v day) k 0 = true then 1 else 0, Y) := by
    unfold F_Told_isAsKnown
    rw [hg, ← Nat.add_assoc]
    exact u1
  have eY : Eo gF M Y := eX.tr (fun x y z => by
    have : C0 x y = false := by
      cases q : C0 x y with
      | false => rfl
      | true => exact absurd (Or.inl q) z
    exact u2.m this)
  have hRY := hRX.c0 u2
  by_cases w2 : allK (kP M lv nf d v day) k 0 = true
  rotate_left
  · have w' : allK (kP M lv nf d v day) k 0 = false := by simpa using w2
    refine ⟨Y, ?_, eY, ?_⟩
    · rw [y1, bI2_s, if_pos w, if_neg (by decide), c1, bI2_s, if_neg w2, if_pos rfl]
    · rw [hWu, w', Bool.and_false, if_neg (by decide)]; exact hRY
  refine ⟨uM Y 383 7 (nI (l.length + 1)), ?_, eY.u (Or.inr (Or.inr ⟨rfl, rfl⟩)), ?_⟩
  · rw [y1, bI2_s, if_pos w, if_neg (by decide), c1, bI2_s, if_pos w2, if_neg (by decide), nmM_e, hRY.1, nI_1]
  · rw [hWu, w, w2, if_pos (by decide)]
    have f : ∀ x y, 64 ≤ x → x ≠ 390 → Y x y = X x y := fun x y a b => u2.m (C0_M a b)
    refine ⟨by rw [uM_same, List.length_append]; rfl, fun i hi => ?_⟩
    rw [List.length_append] at hi
    simp only [List.length_cons, List.length_nil] at hi
    rw [uM_diff (by omega), uM_diff (by omega)]
    by_cases wi : i < l.length
    · have eg : (l ++ [13 * d + v]).getD i 0 = l.getD i 0 := by
        simp only [List.getD_eq_getElem?_getD, List.getElem?_append_left wi]
      rw [eg]
      exact ⟨(hRY.2 i wi).1, (hRY.2 i wi).2.1, fun j hj => by rw [uM_diff (by omega)]; exact (hRY.2 i wi).2.2 j hj⟩
    · obtain rfl : i = l.length := by omega
      have eg : (l ++ [13 * d + v]).getD l.length 0 = 13 * d + v := by
        simp only [List.getD_eq_getElem?_getD, List.getElem?_append_right (Nat.le_refl _), Nat.sub_self]
        rfl
      rw [eg, e13.1, e13.2, f 387 _ (by decide) (by decide), f 388 _ (by decide) (by decide)]
      exact ⟨z1, z2, fun j hj => by rw [uM_diff (by omega), f 389 _ (by decide) (by decide), z3 j hj, wSum_k mN]⟩
end BL
end PAR50
