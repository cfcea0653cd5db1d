/-! taste -/
section PAR53
def mxN (c : Nat → Nat) : Nat → Nat
  | 0 => 0
  | n + 1 => max (mxN c n) (c n)
theorem mxN_c {c c' : Nat → Nat} : ∀ n, (∀ i, i < n → c i = c' i) → mxN c n = mxN c' n
  | 0, _ => rfl
  | n + 1, h => by unfold mxN; rw [mxN_c n (fun i hi => h i (by omega)), h n (by omega)]
theorem mxN_up {c c' : Nat → Nat} {y : Nat} (h : ∀ z, z ≠ y → c' z = c z) (hy : c' y = c y + 1) : ∀ n, mxN c' n = if y < n then max (mxN c n) (c y + 1) else mxN c n
  | 0 => rfl
  | n + 1 => by
    show max (mxN c' n) (c' n) = if y < n + 1 then max (max (mxN c n) (c n)) (c y + 1) else max (mxN c n) (c n)
    rw [mxN_up h hy n]
    by_cases w : n = y
    · subst w
      rw [if_neg (by omega), if_pos (by omega), hy]
      omega
    · rw [h n w]
      by_cases w2 : y < n
      · rw [if_pos w2, if_pos (by omega)]; omega
      · rw [if_neg w2, if_neg (by omega)]
section TS
variable {D Q q ld lv nf nd ng ne : Nat} {M M' M1 Mc Mb : gM} {L : gL} {r : Nat → Int32}
theorem c_potForce9 (h : Lnd ld lv nf nd ng ne M) {kind sum heat many day : Int32} : ∃ M', F_Land_potForce ld kind sum heat many day M = some (potS M lv kind sum heat many day, M') ∧ Kl C9 M zL M' zL := by
  obtain ⟨X, y1, _⟩ := c_potForce h (kind := kind) (sum := sum) (heat := heat) (many := many) (day := day)
  obtain ⟨_, X', z1, -, z2⟩ := tz_Land_potForce (p1 := kind) (p2 := sum) (p3 := heat) (p4 := many) (p5 := day) (M := M) h.la
  have e := (Prod.mk.inj (Option.some.inj (z1.symm.trans y1))).2
  exact ⟨X, y1, by rw [← e]; exact z2⟩
/-- the force of a way as a number -/
def yF (M : gM) (lv nf a b : Nat) (day : Int32) (n : Nat) : Nat := (wFo M lv nf (n / 13) (n % 13) (nI a) (nI b) day).toInt.toNat
theorem yF_e {a b n : Nat} {day : Int32} : wFo M lv nf (n / 13) (n % 13) (nI a) (nI b) day = nI (yF M lv nf a b day n) ∧ yF M lv nf a b day n ≤ 99 := by
  obtain ⟨y, _, h2, h3⟩ := hb_r (x := lawS M lv 0 (v9 (wSum M lv nf (n / 13) (n % 13) (nI a).toInt.toNat) (nI b) (nI a) (wMan M lv nf (n / 13) (n % 13)) day 0 0 0 0) (wSum M lv nf (n / 13) (n % 13) (nI a).toInt.toNat)) (a := 0) (b := 99) (by decide) (by decide)
  have e : wFo M lv nf (n / 13) (n % 13) (nI a) (nI b) day = nI y := h3
  unfold yF
  rw [e, nI_tn (by omega)]
  exact ⟨rfl, h2⟩
/-- how many of the ways have this force -/
def cnW (M : gM) (lv nf a b : Nat) (day : Int32) (l : List Nat) (x : Nat) : Nat := (l.filter (fun n => yF M lv nf a b day n == x)).length
theorem cnW_app {a b n x : Nat} {day : Int32} {l : List Nat} : cnW M lv nf a b day (l ++ [n]) x = if yF M lv nf a b day n = x then cnW M lv nf a b day l x + 1 else cnW M lv nf a b day l x := by
  unfold cnW
  rw [List.filter_append, List.length_append]
  by_cases w : yF M lv nf a b day n = x
  · rw [if_pos w, List.filter_cons_of_pos (by rw [w]; exact beq_self_eq_true _)]; rfl
  · rw [if_neg w, List.filter_cons_of_neg (by rw [beq_eq_false_iff_ne.mpr w]; decide)]; rfl
theorem cnW_le {a b x : Nat} {day : Int32} {l : List Nat} : cnW M lv nf a b day l x ≤ l.length := List.length_filter_le _ _
/-- the class: how many ways at most answer a question alike -/
theorem c_most (hL : Lnd ld lv nf nd ng ne M) {l : List Nat} {day : Int32} (hl : l.length ≤ 65) {N0 : gM} (e0 : Eo gF M N0) (hR : Rw M lv nf l N0) {a b : Nat} (ha : a ≤ 2) (hb : b ≤ 9) : ∃ X, F_Told_mostAlike ld day (nI a) (nI b) N0 = some (nI (mxN (cnW M lv nf a b day l) 100), X) ∧ Kl C0 N0 zL X zL := by
  have key : ∀ (rest p : List Nat) (f : Nat) (N : gM), l = p ++ rest → Kl C0 N0 zL N zL → (∀ x, x < 100 → N 390 x = nI (cnW M lv nf a b day p x)) → ∃ X, H_Told_mostAlike_13 ld day (nI a) (nI b) (f + 1 + rest.length) (nI (mxN (cnW M lv nf a b day p) 100)) (nI p.length) N = some (nI (mxN (cnW M lv nf a b day l) 100), X) ∧ Kl C0 N0 zL X zL := by
    intro rest
    induction rest with
    | nil =>
      intro p f N hp kN hc
      obtain rfl : l = p := by rw [hp, List.append_nil]
      refine ⟨N, ?_, kN⟩
      show B_Told_mostAlike_13 ld day (nI a) (nI b) (H_Told_mostAlike_13 ld day (nI a) (nI b) f) _ (nI l.length) N = _
      unfold B_Told_mostAlike_13
      rw [(hR.c0 kN).1, if_pos (by rw [nI_leI (by omega) (by omega)]; omega)]
    | cons n rest ih =>
      intro p f N hp kN hc
      have ll : l.length = p.length + (rest.length + 1) := by rw [hp, List.length_append, List.length_cons]
      have hRN := hR.c0 kN
      have eg : l.getD p.length 0 = n := by
        rw [hp]
        simp only [List.getD_eq_getElem?_getD, List.getElem?_append_right (Nat.le_refl _), Nat.sub_self, List.getElem?_cons_zero]
        rfl
      obtain ⟨_, r2, r3⟩ := hRN.2 p.length (by omega)
      rw [eg] at r2 r3
      have eN : Eo gF M N := e0.tr (fun x y z => kN.m (by
        cases q : C0 x y with
        | false => rfl
        | true => exact absurd (Or.inl q) z))
      have hN := hL.kG eN
      obtain ⟨yE, y99⟩ := yF_e (M := M) (lv := lv) (nf := nf) (a := a) (b := b) (n := n) (day := day)
      generalize hy : yF M lv nf a b day n = y at yE y99
      obtain ⟨X, u1, u2⟩ := c_potForce9 hN (kind := nI a) (sum := wSum M lv nf (n / 13) (n % 13) a) (heat := nI b) (many := wMan M lv nf (n / 13) (n % 13)) (day := day)
      have ef : F_Told_forceOf ld day (nI p.length) (nI a) (nI b) N = some (nI y, X) := by
        have e1 : potS M lv (nI a) (wSum M lv nf (n / 13) (n % 13) a) (nI b) (wMan M lv nf (n / 13) (n % 13)) day = nI y := by
          rw [← yE]; unfold wFo; rw [nI_tn (by omega)]
        unfold F_Told_forceOf
        rw [show (3 : Int32) = nI 3 from rfl, nI_mul, nI_add, s_at (by omega) (by decide), bI_s, s_at (by omega) (by decide), bI_s, Nat.mul_comm p.length 3, r3 a (by omega), r2, u1, bI2_s, potS_k (gF_M eN), e1]
      have x390 : X 390 y = nI (cnW M lv nf a b day p y) := by rw [u2.m C9_390]; exact hc y (by omega)
      have cl := cnW_le (M := M) (lv := lv) (nf := nf) (a := a) (b := b) (x := y) (day := day) (l := p)
      have app : ∀ x, cnW M lv nf a b day (p ++ [n]) x = if y = x then cnW M lv nf a b day p x + 1 else cnW M lv nf a b day p x := fun x => by rw [cnW_app, hy]
      have mx : mxN (cnW M lv nf a b day (p ++ [n])) 100 = max (mxN (cnW M lv nf a b day p) 100) (cnW M lv nf a b day p y + 1) := by
        rw [mxN_up (y := y) (fun z hz => by rw [app, if_neg (fun q => hz q.symm)]) (by rw [app, if_pos rfl]) 100, if_pos (by omega)]
      have mb : mxN (cnW M lv nf a b day p) 100 ≤ 65 := by
        have : ∀ m, mxN (cnW M lv nf a b day p) m ≤ 65 := fun m => by
          induction m with
          | zero => exact Nat.zero_le _
          | succ m ih =>
            have := cnW_le (M := M) (lv := lv) (nf := nf) (a := a) (b := b) (x := m) (day := day) (l := p)
            show max (mxN _ m) (cnW _ _ _ _ _ _ _ m) ≤ 65
            omega
        exact this 100
      obtain ⟨X', z1, z2⟩ := ih (p ++ [n]) f (uM X 390 y (nI (cnW M lv nf a b day p y + 1))) (by rw [hp, List.append_assoc]; rfl) (Kl.wM (kN.trans (u2.mono C9_C0)) (C0_list 390 (by decide) (by decide) y) rfl) (fun x hx => by
        by_cases w : x = y
        · rw [w, uM_same, app, if_pos rfl]
        · rw [uM_diff (by omega), app, if_neg (fun q => w q.symm), u2.m C9_390]; exact hc x hx)
      refine ⟨X', ?_, z2⟩
      rw [← z1, List.length_append]
      show B_Told_mostAlike_13 ld day (nI a) (nI b) (H_Told_mostAlike_13 ld day (nI a) (nI b) (f + 1 + rest.length)) _ (nI p.length) N = _
      generalize H_Told_mostAlike_13 ld day (nI a) (nI b) (f + 1 + rest.length) = H
      unfold B_Told_mostAlike_13
      rw [hRN.1, if_neg (by rw [nI_leI (by omega) (by omega)]; omega), ef, bI2_s, s_at (by omega) (by decide), bI_s, x390, nI_1, nmI_e, s_put (by omega) (by decide), bI_s, nmI_e, nmI_e, nI_1, mx]
      by_cases w : nI (mxN (cnW M lv nf a b day p) 100) < nI (cnW M lv nf a b day p y + 1)
      · rw [if_pos w]
        rw [nI_ltI (by omega) (by omega)] at w
        rw [Nat.max_eq_right (by omega)]
        rfl
      · rw [if_neg w]
        rw [nI_ltI (by omega) (by omega)] at w
        rw [Nat.max_eq_left (by omega)]
        rfl
  unfold F_Told_mostAlike
  rw [s_wipe (by decide), bI_s]
  obtain ⟨g, hg⟩ := FU_k (1 + l.length) (by omega)
  rw [hg, ← Nat.add_assoc]
  have m0 : mxN (cnW M lv nf a b day []) 100 = 0 := by
    have : ∀ m, mxN (cnW M lv nf a b day []) m = 0 := fun m => by
      induction m with
      | zero => rfl
      | succ m ih => show max (mxN _ m) (cnW M lv nf a b day [] m) = 0; rw [ih]; rfl
    exact this 100
  have h0 := key l [] g (fl N0 390 0 100 (fun _ => 0)) rfl (fun c j w => ⟨fl_out (fun z => by
    rw [z.1, C0_list 390 (by decide) (by decide) j] at w; cases w), rfl⟩) (fun x hx => by rw [fl_in (by omega)]; rfl)
  rw [m0] at h0
  exact h0
theorem cnW_le65 {a b : Nat} {day : Int32} {l : List Nat} (hl : l.length ≤ 65) : ∀ m, mxN (cnW M lv nf a b day l) m ≤ l.length
  | 0 => Nat.zero_le _
  | m + 1 => by
    have h1 := cnW_le (M := M) (lv := lv) (nf := nf) (a := a) (b := b) (x := m) (day := day) (l := l)
    have h2 := cnW_le65 (a := a) (b := b) (day := day) hl m
    show max (mxN _ m) (cnW _ _ _ _ _ _ _ m) ≤ _
    omega
/-- the greatest count of a question -/
def qM (M : gM) (lv nf : Nat) (day : Int32) (l : List Nat) (u : Nat) : Nat := mxN (cnW M lv nf (u / 10) (u % 10) day l) 100
/-- the first least -/
def amn (c : Nat → Nat) : Nat → Nat
  | 0 => 0
  | n + 1 => if c (n + 1) < c (amn c n) then n + 1 else amn c n
theorem amn_le (c : Nat → Nat) : ∀ n, amn c n ≤ n
  | 0 => Nat.le_refl _
  | n + 1 => by
    have := amn_le c n
    show (if c (n + 1) < c (amn c n) then n + 1 else amn c n) ≤ n + 1
    by_cases w : c (n + 1) < c (amn c n)
    · rw [if_pos w]; omega
    · rw [if_neg w]; omega
def tasS (M : gM) (lv nf : Nat) (day : Int32) (l : List Nat) : Int32 := if l = [] then -2 else nI (amn (qM M lv nf day l) 29)
def Bst (c : Nat → Nat) (len u : Nat) (fw fi : Int32) : Prop := (u = 0 ∧ fw = nI (len + 1) ∧ fi = -2) ∨ ∃ w, u = w + 1 ∧ fw = nI (c (amn c w)) ∧ fi = nI (amn c w)
theorem Bst.step {c : Nat → Nat} {len u : Nat} {fw fi : Int32} (h : Bst c len u fw fi) (hl : len ≤ 65) (hc : ∀ u, c u ≤ len) : (fw ≤ nI (c u) → Bst c len (u + 1) fw fi) ∧ (¬ fw ≤ nI (c u) → Bst c len (u + 1) (nI (c u)) (nI u)) := by
  have h0 := hc u
  rcases h with ⟨rfl, rfl, rfl⟩ | ⟨w, rfl, rfl, rfl⟩
  · refine ⟨fun z => ?_, fun _ => Or.inr ⟨0, rfl, rfl, rfl⟩⟩
    rw [nI_leI (by omega) (by omega)] at z
    omega
  · have h1 := hc (amn c w)
    have e : amn c (w + 1) = if c (w + 1) < c (amn c w) then w + 1 else amn c w := rfl
    refine ⟨fun z => Or.inr ⟨w + 1, rfl, ?_⟩, fun z => Or.inr ⟨w + 1, rfl, ?_⟩⟩
    · rw [nI_leI (by omega) (by omega)] at z
      rw [e, if_neg (by omega)]
      exact ⟨rfl, rfl⟩
    · rw [nI_leI (by omega) (by omega)] at z
      rw [e, if_pos (by omega)]
      exact ⟨rfl, rfl⟩
/-- the class goes through the questions -/
theorem c_nextTaste (hL : Lnd ld lv nf nd ng ne M) {l : List Nat} {day : Int32} (hl : l.length ≤ 65) {N0 : gM} (e0 : Eo gF M N0) (hR : Rw M lv nf l N0) : ∃ X, F_Told_nextTaste ld day N0 = some (tasS M lv nf day l, X) := by
  have hc : ∀ u, qM M lv nf day l u ≤ l.length := fun u => cnW_le65 hl 100
  have kk : ∀ {N : gM}, Kl C0 N0 zL N zL → Eo gF M N ∧ Rw M lv nf l N := fun {N} kN => ⟨e0.tr (fun x y z => kN.m (by
    cases q : C0 x y with
    | false => rfl
    | true => exact absurd (Or.inl q) z)), hR.c0 kN⟩
  have inner : ∀ (a : Nat) (K14 : Int32 → Int32 → Int32 → gM → Option (Int32 × gM)), a < 3 → ∀ (s b f : Nat) (N : gM) (fw fi : Int32), b + s = 10 → Kl C0 N0 zL N zL → Bst (qM M lv nf day l) l.length (10 * a + b) fw fi → ∃ X fw' fi', H_Told_nextTaste_30 ld K14 day (nI a) (f + 1 + s) fw fi (nI b) N = J_Told_nextTaste_74 ld K14 day fw' fi' (nI a) X ∧ Kl C0 N0 zL X zL ∧ Bst (qM M lv nf day l) l.length (10 * (a + 1)) fw' fi' := by
    intro a K14 ha s
    induction s with
    | zero =>
      intro b f N fw fi hb kN hB
      obtain rfl : b = 10 := by omega
      refine ⟨N, fw, fi, ?_, kN, hB⟩
      show B_Told_nextTaste_30 ld K14 day (nI a) (H_Told_nextTaste_30 ld K14 day (nI a) f) fw fi (nI 10) N = _
      generalize H_Told_nextTaste_30 ld K14 day (nI a) f = H
      unfold B_Told_nextTaste_30
      rw [if_pos (by decide)]
    | succ s ih =>
      intro b f N fw fi hb kN hB
      obtain ⟨eN, hN⟩ := kk kN
      obtain ⟨X, y1, y2⟩ := c_most hL hl eN hN (a := a) (b := b) (day := day) (by omega) (by omega)
      have ec : mxN (cnW M lv nf a b day l) 100 = qM M lv nf day l (10 * a + b) := by
        unfold qM
        rw [show (10 * a + b) / 10 = a by omega, show (10 * a + b) % 10 = b by omega]
      rw [ec] at y1
      obtain ⟨b1, b2⟩ := hB.step hl hc
      have e1 : H_Told_nextTaste_30 ld K14 day (nI a) (f + 1 + (s + 1)) fw fi (nI b) N = (if fw ≤ nI (qM M lv nf day l (10 * a + b)) then H_Told_nextTaste_30 ld K14 day (nI a) (f + 1 + s) fw fi (nI (b + 1)) X else H_Told_nextTaste_30 ld K14 day (nI a) (f + 1 + s) (nI (qM M lv nf day l (10 * a + b))) (nI (10 * a + b)) (nI (b + 1)) X) := by
        show B_Told_nextTaste_30 ld K14 day (nI a) (H_Told_nextTaste_30 ld K14 day (nI a) (f + 1 + s)) fw fi (nI b) N = _
        generalize H_Told_nextTaste_30 ld K14 day (nI a) (f + 1 + s) = H
        unfold B_Told_nextTaste_30 J_Told_nextTaste_68
        rw [if_neg (by rw [show (10 : Int32) = nI 10 from rfl, nI_leI (by omega) (by omega)]; omega), y1, bI2_s, nmI_e, nmI_e, nmI_e, nI_1, show (10 : Int32) = nI 10 from rfl, nI_mul, nI_add]
      rw [e1]
      by_cases w : fw ≤ nI (qM M lv nf day l (10 * a + b))
      · rw [if_pos w]
        exact ih (b + 1) f X fw fi (by omega) (kN.trans y2) (b1 w)
      · rw [if_neg w]
        exact ih (b + 1) f X _ _ (by omega) (kN.trans y2) (b2 w)
  have outer : ∀ (s a f : Nat) (N : gM) (fw fi : Int32), a + s = 3 → l ≠ [] → Kl C0 N0 zL N zL → Bst (qM M lv nf day l) l.length (10 * a) fw fi → ∃ X, H_Told_nextTaste_14 ld day (f + 1 + s) fw fi (nI a) N = some (nI (amn (qM M lv nf day l) 29), X) := by
    intro s
    induction s with
    | zero =>
      intro a f N fw fi ha hn kN hB
      obtain rfl : a = 3 := by omega
      refine ⟨N, ?_⟩
      show B_Told_nextTaste_14 ld day (H_Told_nextTaste_14 ld day f) fw fi (nI 3) N = _
      unfold B_Told_nextTaste_14
      have hp : 0 < l.length := List.length_pos_iff.mpr hn
      rw [(kk kN).2.1, if_neg (by rw [show (0 : Int32) = nI 0 from rfl, nI_leI (by omega) (by omega)]; omega), if_pos (by decide)]
      rcases hB with ⟨z, _⟩ | ⟨w, z, _, e⟩
      · omega
      · obtain rfl : w = 29 := by omega
        rw [e]
    | succ s ih =>
      intro a f N fw fi ha hn kN hB
      have hp : 0 < l.length := List.length_pos_iff.mpr hn
      obtain ⟨g, hg⟩ := FU_k (1 + 10) (by omega)
      obtain ⟨X, fw', fi', y1, y2, y3⟩ := inner a (H_Told_nextTaste_14 ld day (f + 1 + s)) (by omega) 10 0 g N fw fi (by omega) kN hB
      obtain ⟨X', z1⟩ := ih (a + 1) f X fw' fi' (by omega) hn y2 y3
      refine ⟨X', ?_⟩
      rw [← z1]
      show B_Told_nextTaste_14 ld day (H_Told_nextTaste_14 ld day (f + 1 + s)) fw fi (nI a) N = _
      have c1 : H_Told_nextTaste_30 ld (H_Told_nextTaste_14 ld day (f + 1 + s)) day (nI a) FU fw fi 0 N = J_Told_nextTaste_74 ld (H_Told_nextTaste_14 ld day (f + 1 + s)) day fw' fi' (nI a) X := by
        rw [hg, ← Nat.add_assoc]; exact y1
      generalize H_Told_nextTaste_14 ld day (f + 1 + s) = H at c1 ⊢
      unfold B_Told_nextTaste_14
      rw [(kk kN).2.1, if_neg (by rw [show (0 : Int32) = nI 0 from rfl, nI_leI (by omega) (by omega)]; omega), if_neg (by rw [show (3 : Int32) = nI 3 from rfl, nI_leI (by omega) (by omega)]; omega), c1]
      unfold J_Told_nextTaste_74
      rw [nmI_e, nI_1]
  unfold F_Told_nextTaste tasS
  rw [nmI_e, hR.1, nI_1]
  obtain ⟨g, hg⟩ := FU_k (1 + 3) (by omega)
  rw [hg, ← Nat.add_assoc]
  by_cases w : l = []
  · refine ⟨N0, ?_⟩
    rw [if_pos w]
    show B_Told_nextTaste_14 ld day (H_Told_nextTaste_14 ld day (g + 1 + 2)) _ (-2) 0 N0 = _
    generalize H_Told_nextTaste_14 ld day (g + 1 + 2) = H
    unfold B_Told_nextTaste_14
    rw [hR.1, w, if_pos (by decide)]
  · rw [if_neg w]
    exact outer 3 0 g N0 _ _ (by omega) w Kl.rf (Or.inl ⟨rfl, rfl, rfl⟩)
/-- one way, by the model, with its pot -/
theorem m_isWayP (hL : Lnd ld lv nf nd ng ne M) (hT : Td M) {k : Nat} {day : Int32} (hk : ∃ n, n ≤ 20 ∧ M 401 64 = nI n ∧ k ≤ n) (e35 : M 437 35 = day) {n : Nat} (hn : n < 13 * nd) : ∃ X, F_Mod_isWay (nI n) (nI k) M = some (if wK M lv nf k day n = true then 1 else 0, X) ∧ Eo mP8 M X ∧ (wK M lv nf k day n = true → wOk M lv nf (n / 13) (n % 13) = true ∧ ∀ i, i < 6 → X 438 i = if n % 13 ≠ 0 ∧ i = wF (n % 13) then potD M lv nf (n / 13) i + wD (n % 13) else potD M lv nf (n / 13) i) := by
  have h5 := hL.nd5
  obtain ⟨A, a1, a2, a3⟩ := m_fillsWay hL (d := n / 13) (v := n % 13) (by omega) (by omega)
  rw [show 13 * (n / 13) + n % 13 = n by omega] at a1
  have eA : Eo mP8 M A := fun c j w => a2 c j (fun z => w (Or.inr z))
  unfold F_Mod_isWay wK
  rw [a1, bI2_s]
  by_cases w : wOk M lv nf (n / 13) (n % 13) = true
  rotate_left
  · have w' : wOk M lv nf (n / 13) (n % 13) = false := by simpa using w
    rw [if_neg w, if_pos rfl, w', Bool.false_and, if_neg (by decide)]
    exact ⟨A, rfl, eA, fun z => nomatch z⟩
  rw [if_pos w, if_neg (by decide), w, Bool.true_and]
  have hA := hL.kQ (mP8_Q eA)
  have mA : ∀ c j, 411 ≤ c → c ≤ 432 → A c j = M c j := mQ_M (mP8_Q eA)
  have fr : ∀ x y, x ≠ 434 → x ≠ 435 → x ≠ 438 → ¬ (x = 401 ∧ y = 51) → A x y = M x y := fun x y p1 p2 p3 p4 => eA x y (by unfold mP8 mV; omega)
  have m4 : ∀ c j, 441 ≤ c → c ≤ 443 → A c j = M c j := fun c j a b => fr c j (by omega) (by omega) (by omega) (by omega)
  have hTA : Td A := hT.keep2 (fr 383 3 (by decide) (by decide) (by decide) (by decide)) (fr 401 64 (by decide) (by decide) (by decide) (by decide)) (fun c j w => fr c j (by omega) (by omega) (by omega) (by omega))
  obtain ⟨g, hg⟩ := FU_k (1 + k) (by obtain ⟨n, a, _, b⟩ := hk; omega)
  obtain ⟨Y, u1, u2⟩ := m_known hA hTA (d := n / 13) (v := n % 13) (k := k) (day := day) (by omega) (by
    obtain ⟨n, a, b, c⟩ := hk
    exact ⟨n, a, (fr 401 64 (by decide) (by decide) (by decide) (by decide)).trans b, c⟩) (by rw [wOk_k mA]; exact w) (fun i hi => by rw [a3 w i hi, potD_k mA]) (by rw [fr 437 35 (by decide) (by decide) (by decide) (by decide)]; exact e35) k 0 g A (Nat.zero_add _) Eo.rf
  rw [kP_k mA m4] at u1
  have c1 : F_Mod_isAsKnown (nI k) A = some (if allK (kP M lv nf (n / 13) (n % 13) day) k 0 = true then 1 else 0, Y) := by
    unfold F_Mod_isAsKnown
    rw [hg, ← Nat.add_assoc]
    exact u1
  refine ⟨Y, ?_, eA.tr (mV_P8 u2), fun _ => ⟨rfl, fun i hi => by rw [u2 438 i (by unfold mV; omega)]; exact a3 w i hi⟩⟩
  rw [c1, bI2_s]
  by_cases w2 : allK (kP M lv nf (n / 13) (n % 13) day) k 0 = true
  · rw [if_pos w2, if_neg (by decide)]
  · rw [if_neg w2, if_pos rfl]
def mTs (c j : Nat) : Prop := mP8 c j ∨ c = 444
theorem mTs_Q : ∀ c j, mTs c j → mQ c j := fun c j h => by unfold mTs mP8 mV at h; unfold mQ; omega
theorem mTs_n {c j : Nat} (h1 : c ≠ 434) (h2 : c ≠ 435) (h3 : c ≠ 438) (h4 : c ≠ 444) (h5 : ¬ (c = 401 ∧ j = 51)) : ¬ mTs c j := by unfold mTs mP8 mV; omega
theorem tq_n : ∀ u, u < 30 → nI u / 10 = nI (u / 10) ∧ nI u - nI u / 10 * 10 = nI (u % 10) := by decide +kernel
/-- the counts, of the questions below u with one way more -/
def Tb (M : gM) (lv nf : Nat) (day : Int32) (l l' : List Nat) (u : Nat) (N : gM) : Prop := ∀ v x, v < 30 → x < 100 → N 444 (100 * v + x) = nI (cnW M lv nf (v / 10) (v % 10) day (if v < u then l' else l) x)
/-- the model asks a way all questions -/
theorem m_ask (hL : Lnd ld lv nf nd ng ne M) {n : Nat} {day : Int32} (e35 : M 437 35 = day) (hw : wOk M lv nf (n / 13) (n % 13) = true) {l : List Nat} {K44 : Int32 → Int32 → gM → Option (Int32 × gM)} {v1 v2 : Int32} : ∀ (s u f : Nat) (N : gM), u + s = 30 → Eo mTs M N → (∀ i, i < 6 → N 438 i = if n % 13 ≠ 0 ∧ i = wF (n % 13) then potD M lv nf (n / 13) i + wD (n % 13) else potD M lv nf (n / 13) i) → Tb M lv nf day l (l ++ [n]) u N → ∃ X, H_Mod_taste_78 K44 v1 v2 (nI n) (f + 1 + s) (nI u) N = J_Mod_taste_120 K44 v1 v2 (nI n) X ∧ Eo mTs M X ∧ Tb M lv nf day (l ++ [n]) (l ++ [n]) 0 X := by
  intro s
  induction s with
  | zero =>
    intro u f N hu eN hp hT
    obtain rfl : u = 30 := by omega
    refine ⟨N, ?_, eN, fun v x hv hx => ?_⟩
    · show B_Mod_taste_78 K44 v1 v2 (nI n) (H_Mod_taste_78 K44 v1 v2 (nI n) f) (nI 30) N = _
      generalize H_Mod_taste_78 K44 v1 v2 (nI n) f = H
      unfold B_Mod_taste_78
      rw [if_pos (by decide)]
    · rw [hT v x hv hx, if_pos hv, if_neg (Nat.not_lt_zero _)]
  | succ s ih =>
    intro u f N hu eN hp hT
    have hN := hL.kQ (eN.mono mTs_Q)
    have mN := mQ_M (eN.mono mTs_Q)
    obtain ⟨q1, q2⟩ := tq_n u (by omega)
    obtain ⟨Y, y1, y2⟩ := m_wayForce hN (d := n / 13) (v := n % 13) (j := u / 10) (heat := nI (u % 10)) (by omega) (by rw [wOk_k mN]; exact hw) (fun i hi => by rw [hp i hi, potD_k mN]) (by omega)
    obtain ⟨yE, y99⟩ := yF_e (M := M) (lv := lv) (nf := nf) (a := u / 10) (b := u % 10) (n := n) (day := day)
    rw [wFo_k mN, eN 437 35 (mTs_n (by decide) (by decide) (by decide) (by decide) (by omega)), e35, yE] at y1
    generalize hy : yF M lv nf (u / 10) (u % 10) day n = y at y1 y99
    have g0 : ¬ (nI (100 * u + y) < 0 ∨ 3000 ≤ (nI (100 * u + y)).toNatClampNeg) := nI_in (by omega) (by omega)
    have g1 : (nI (100 * u + y)).toNatClampNeg = 100 * u + y := nI_clamp (by omega)
    have g2 : ¬ (nI (100 * u + y) < 0 ∨ 3000 ≤ 100 * u + y) := nI_inc (by omega) (by omega)
    have eT : Y 444 (100 * u + y) = nI (cnW M lv nf (u / 10) (u % 10) day l y) := by
      rw [y2 444 _ (by unfold mV; omega), hT u y (by omega) (by omega), if_neg (Nat.lt_irrefl _)]
    obtain ⟨X, z1, z2, z3⟩ := ih (u + 1) f (uM Y 444 (100 * u + y) (nI (cnW M lv nf (u / 10) (u % 10) day l y + 1))) (by omega) ((eN.tr (fun c j w => y2 c j (fun z => w (Or.inl (Or.inl z))))).u (Or.inr rfl)) (fun i hi => by rw [uM_diff (by omega), y2 438 i (by unfold mV; omega)]; exact hp i hi) (fun v x hv hx => by
      by_cases w : v = u
      · subst w
        rw [if_pos (Nat.lt_succ_self _), cnW_app, hy]
        by_cases w2 : y = x
        · rw [w2, uM_same, if_pos rfl]
        · rw [uM_diff (by omega), if_neg w2, y2 444 _ (by unfold mV; omega), hT v x hv hx, if_neg (Nat.lt_irrefl _)]
      · rw [uM_diff (by omega), y2 444 _ (by unfold mV; omega), hT v x hv hx]
        by_cases w2 : v < u
        · rw [if_pos w2, if_pos (by omega)]
        · rw [if_neg w2, if_neg (by omega)])
    refine ⟨X, ?_, z2, z3⟩
    rw [← z1]
    show B_Mod_taste_78 K44 v1 v2 (nI n) (H_Mod_taste_78 K44 v1 v2 (nI n) (f + 1 + s)) (nI u) N = _
    generalize H_Mod_taste_78 K44 v1 v2 (nI n) (f + 1 + s) = H
    unfold B_Mod_taste_78
    rw [if_neg (by rw [show (30 : Int32) = nI 30 from rfl, nI_leI (by omega) (by omega)]; omega), q2, q1, y1, bI2_s, show (100 : Int32) = nI 100 from rfl, nI_mul, nI_add, if_neg g0, if_neg g0, g1, nmM_e, nmI_e, nI_1, eT, nI_1]
/-- the model takes the first least of the greatest counts -/
theorem m_worst {K142 : Int32 → Int32 → Int32 → Option (Int32 × gM)} {v3 v4 : Int32} {u : Nat} {c : Nat → Nat} (hu : u < 30) {N : gM} (hc : ∀ x, x < 100 → N 444 (100 * u + x) = nI (c x)) (hb : ∀ x, c x ≤ 65) : ∀ (s x f : Nat), x + s = 100 → H_Mod_taste_155 K142 v3 v4 (nI u) N (f + 1 + s) (nI (mxN c x)) (nI x) = J_Mod_taste_201 K142 v3 v4 (nI u) (nI (mxN c 100)) N := by
  have mb : ∀ m, mxN c m ≤ 65 := fun m => by
    induction m with
    | zero => exact Nat.zero_le _
    | succ m ih => have := hb m; show max (mxN c m) (c m) ≤ 65; omega
  intro s
  induction s with
  | zero =>
    intro x f hx
    obtain rfl : x = 100 := by omega
    show B_Mod_taste_155 K142 v3 v4 (nI u) N (H_Mod_taste_155 K142 v3 v4 (nI u) N f) _ (nI 100) = _
    generalize H_Mod_taste_155 K142 v3 v4 (nI u) N f = H
    unfold B_Mod_taste_155
    rw [if_pos (by decide)]
  | succ s ih =>
    intro x f hx
    have z1 := ih (x + 1) f (by omega)
    rw [← z1]
    show B_Mod_taste_155 K142 v3 v4 (nI u) N (H_Mod_taste_155 K142 v3 v4 (nI u) N (f + 1 + s)) _ (nI x) = _
    generalize H_Mod_taste_155 K142 v3 v4 (nI u) N (f + 1 + s) = H
    have g0 : ¬ (nI (100 * u + x) < 0 ∨ 3000 ≤ (nI (100 * u + x)).toNatClampNeg) := nI_in (by omega) (by omega)
    have g1 : (nI (100 * u + x)).toNatClampNeg = 100 * u + x := nI_clamp (by omega)
    have g2 : ¬ (nI (100 * u + x) < 0 ∨ 3000 ≤ 100 * u + x) := nI_inc (by omega) (by omega)
    have m1 := mb x
    have m2 := hb x
    unfold B_Mod_taste_155 J_Mod_taste_195
    rw [if_neg (by rw [show (100 : Int32) = nI 100 from rfl, nI_leI (by omega) (by omega)]; omega), show (100 : Int32) = nI 100 from rfl, nI_mul, nI_add, if_neg g0, g1, hc x (by omega), nmI_e, nmI_e, nmI_e, nI_1]
    show _ = H (nI (max (mxN c x) (c x))) (nI (x + 1))
    by_cases w : nI (c x) ≤ nI (mxN c x)
    · rw [if_pos w]
      rw [nI_leI (by omega) (by omega)] at w
      rw [Nat.max_eq_left w]
    · rw [if_neg w, if_neg g2]
      rw [nI_leI (by omega) (by omega)] at w
      rw [Nat.max_eq_right (by omega)]
def Mst (c : Nat → Nat) (u : Nat) (v3 v4 : Int32) : Prop := (u = 0 ∧ v3 = -2) ∨ ∃ w, u = w + 1 ∧ v3 = nI (amn c w) ∧ v4 = nI (c (amn c w))
theorem m_least {l : List Nat} {day : Int32} (hl : l.length ≤ 65) {N : gM} (hT : Tb M lv nf day l l 0 N) : ∀ (s u f : Nat) (v3 v4 : Int32), u + s = 30 → Mst (qM M lv nf day l) u v3 v4 → H_Mod_taste_142 N (f + 1 + s) v3 v4 (nI u) = some (nI (amn (qM M lv nf day l) 29), N) := by
  have hc : ∀ u, qM M lv nf day l u ≤ l.length := fun u => cnW_le65 hl 100
  intro s
  induction s with
  | zero =>
    intro u f v3 v4 hu hM
    obtain rfl : u = 30 := by omega
    show B_Mod_taste_142 N (H_Mod_taste_142 N f) v3 v4 (nI 30) = _
    unfold B_Mod_taste_142
    rw [if_pos (by decide)]
    rcases hM with ⟨z, _⟩ | ⟨w, z, e, _⟩
    · omega
    · obtain rfl : w = 29 := by omega
      rw [e]
  | succ s ih =>
    intro u f v3 v4 hu hM
    obtain ⟨g, hg⟩ := FU_k (1 + 100) (by omega)
    have c1 : H_Mod_taste_155 (H_Mod_taste_142 N (f + 1 + s)) v3 v4 (nI u) N FU 0 0 = J_Mod_taste_201 (H_Mod_taste_142 N (f + 1 + s)) v3 v4 (nI u) (nI (qM M lv nf day l u)) N := by
      rw [hg, ← Nat.add_assoc]
      exact m_worst (by omega) (c := cnW M lv nf (u / 10) (u % 10) day l) (fun x hx => by
        rw [hT u x (by omega) hx, if_neg (Nat.not_lt_zero _)]) (fun x => Nat.le_trans cnW_le hl) 100 0 g (by omega)
    have e1 : H_Mod_taste_142 N (f + 1 + (s + 1)) v3 v4 (nI u) = (if v3 < 0 then H_Mod_taste_142 N (f + 1 + s) (nI u) (nI (qM M lv nf day l u)) (nI (u + 1)) else if nI (qM M lv nf day l u) < v4 then H_Mod_taste_142 N (f + 1 + s) (nI u) (nI (qM M lv nf day l u)) (nI (u + 1)) else H_Mod_taste_142 N (f + 1 + s) v3 v4 (nI (u + 1))) := by
      show B_Mod_taste_142 N (H_Mod_taste_142 N (f + 1 + s)) v3 v4 (nI u) = _
      generalize H_Mod_taste_142 N (f + 1 + s) = H at c1 ⊢
      unfold B_Mod_taste_142
      rw [if_neg (by rw [show (30 : Int32) = nI 30 from rfl, nI_leI (by omega) (by omega)]; omega), c1]
      unfold J_Mod_taste_201 J_Mod_taste_215 J_Mod_taste_222
      rw [nmI_e, nmI_e, nI_1]
    rw [e1]
    rcases hM with ⟨rfl, rfl⟩ | ⟨w, rfl, rfl, rfl⟩
    · rw [if_pos (by decide)]
      exact ih 1 f _ _ (by omega) (Or.inr ⟨0, rfl, rfl, rfl⟩)
    · have h1 := hc (amn (qM M lv nf day l) w)
      have h2 := hc (w + 1)
      have h3 := amn_le (qM M lv nf day l) w
      have e : amn (qM M lv nf day l) (w + 1) = if qM M lv nf day l (w + 1) < qM M lv nf day l (amn (qM M lv nf day l) w) then w + 1 else amn (qM M lv nf day l) w := rfl
      rw [if_neg (nI_pos (by omega))]
      by_cases z : qM M lv nf day l (w + 1) < qM M lv nf day l (amn (qM M lv nf day l) w)
      · rw [if_pos (by rw [nI_ltI (by omega) (by omega)]; exact z)]
        exact ih (w + 1 + 1) f _ _ (by omega) (Or.inr ⟨w + 1, rfl, by rw [e, if_pos z], by rw [e, if_pos z]⟩)
      · rw [if_neg (by rw [nI_ltI (by omega) (by omega)]; exact z)]
        exact ih (w + 1 + 1) f _ _ (by omega) (Or.inr ⟨w + 1, rfl, by rw [e, if_neg z], by rw [e, if_neg z]⟩)
theorem m_taste (hL : Lnd ld lv nf nd ng ne M) (hT : Td M) {k : Nat} {day : Int32} (hk : ∃ n, n ≤ 20 ∧ M 401 64 = nI n ∧ k ≤ n) (e35 : M 437 35 = day) : ∀ (s n f : Nat) (N : gM), n + s = 13 * nd → Eo mTs M N → Tb M lv nf day (wl (wK M lv nf k day) n) (wl (wK M lv nf k day) n) 0 N → ∃ X, H_Mod_taste_44 (nI k) (f + 1 + s) (nI (wl (wK M lv nf k day) n).length) (nI n) N = some (tasS M lv nf day (wl (wK M lv nf k day) (13 * nd)), X) := by
  have h5 := hL.nd5
  have h1 := hL.l1
  intro s
  induction s with
  | zero =>
    intro n f N hn eN hB
    obtain rfl : n = 13 * nd := by omega
    have hN := hL.kQ (eN.mono mTs_Q)
    have ln := wl_len (wK M lv nf k day) (13 * nd)
    generalize wl (wK M lv nf k day) (13 * nd) = l at hB ln
    refine ⟨N, ?_⟩
    show B_Mod_taste_44 (nI k) (H_Mod_taste_44 (nI k) f) (nI l.length) (nI (13 * nd)) N = _
    unfold B_Mod_taste_44 J_Mod_taste_126 tasS
    rw [hN.l18, if_neg (nI_in (by omega) (by omega)), nI_clamp (by omega), hN.md, show (13 : Int32) = nI 13 from rfl, nI_mul, if_pos (by rw [nI_leI (by omega) (by omega)]; omega)]
    by_cases w : l = []
    · rw [if_pos w, w, if_pos (by decide)]
    · have hp : 0 < l.length := List.length_pos_iff.mpr w
      rw [if_neg w, if_neg (fun z => by
        have := (nI_eq (a := l.length) (b := 0) (by omega) (by omega)).mp z
        omega)]
      obtain ⟨g, hg⟩ := FU_k (1 + 30) (by omega)
      rw [hg, ← Nat.add_assoc]
      exact m_least (by omega) hB 30 0 g (-2) 0 (by omega) (Or.inl ⟨rfl, rfl⟩)
  | succ s ih =>
    intro n f N hn eN hB
    have hN := hL.kQ (eN.mono mTs_Q)
    have mN := mQ_M (eN.mono mTs_Q)
    have fN : ∀ c j, c ≠ 434 → c ≠ 435 → c ≠ 438 → c ≠ 444 → ¬ (c = 401 ∧ j = 51) → N c j = M c j := fun c j a b c' d e => eN c j (mTs_n a b c' d e)
    have hTN : Td N := hT.keep2 (fN 383 3 (by decide) (by decide) (by decide) (by decide) (by omega)) (fN 401 64 (by decide) (by decide) (by decide) (by decide) (by omega)) (fun c j w => fN c j (by omega) (by omega) (by omega) (by omega) (by omega))
    obtain ⟨X, y1, y2, y3⟩ := m_isWayP hN hTN (k := k) (day := day) (by
      obtain ⟨n, a, b, c⟩ := hk
      exact ⟨n, a, (fN 401 64 (by decide) (by decide) (by decide) (by decide) (by omega)).trans b, c⟩) ((fN 437 35 (by decide) (by decide) (by decide) (by decide) (by omega)).trans e35) (n := n) (by omega)
    have hW : wK N lv nf k day n = wK M lv nf k day n := by
      unfold wK
      rw [wOk_k mN, kP_k mN (fun c j a b => fN c j (by omega) (by omega) (by omega) (by omega) (by omega))]
    rw [hW] at y1 y3
    have eX : Eo mTs M X := eN.tr (fun c j w => y2 c j (fun z => w (Or.inl z)))
    have x444 : ∀ j, X 444 j = N 444 j := fun j => y2 444 j (by unfold mP8 mV; omega)
    have hu : wl (wK M lv nf k day) (n + 1) = if wK M lv nf k day n = true then wl (wK M lv nf k day) n ++ [n] else wl (wK M lv nf k day) n := rfl
    have ln := wl_len (wK M lv nf k day) n
    have e0 : H_Mod_taste_44 (nI k) (f + 1 + (s + 1)) (nI (wl (wK M lv nf k day) n).length) (nI n) N = (if wK M lv nf k day n = true then H_Mod_taste_78 (H_Mod_taste_44 (nI k) (f + 1 + s)) (nI k) (nI ((wl (wK M lv nf k day) n).length + 1)) (nI n) FU 0 X else H_Mod_taste_44 (nI k) (f + 1 + s) (nI (wl (wK M lv nf k day) n).length) (nI (n + 1)) X) := by
      show B_Mod_taste_44 (nI k) (H_Mod_taste_44 (nI k) (f + 1 + s)) _ (nI n) N = _
      generalize H_Mod_taste_44 (nI k) (f + 1 + s) = H
      unfold B_Mod_taste_44 J_Mod_taste_120
      rw [hN.l18, if_neg (nI_in (by omega) (by omega)), nI_clamp (by omega), hN.md, show (13 : Int32) = nI 13 from rfl, nI_mul, if_neg (by rw [nI_leI (by omega) (by omega)]; omega), y1, bI2_s, nmI_e, nmI_e, nI_1, nI_1]
      by_cases w : wK M lv nf k day n = true
      · rw [if_pos w, if_neg (by decide), if_pos w]
      · rw [if_neg w, if_pos rfl, if_neg w]
    rw [e0]
    by_cases w : wK M lv nf k day n = true
    rotate_left
    · rw [if_neg w] at hu ⊢
      have hB' : Tb M lv nf day (wl (wK M lv nf k day) (n + 1)) (wl (wK M lv nf k day) (n + 1)) 0 X := by
        rw [hu]
        exact fun v x a b => by rw [x444]; exact hB v x a b
      have := ih (n + 1) f X (by omega) eX hB'
      rw [hu] at this
      exact this
    rw [if_pos w] at hu ⊢
    obtain ⟨w1, w2⟩ := y3 w
    rw [wOk_k mN] at w1
    obtain ⟨g, hg⟩ := FU_k (1 + 30) (by omega)
    obtain ⟨Y, z1, z2, z3⟩ := m_ask hL e35 w1 (l := wl (wK M lv nf k day) n) (K44 := H_Mod_taste_44 (nI k) (f + 1 + s)) (v1 := nI k) (v2 := nI ((wl (wK M lv nf k day) n).length + 1)) 30 0 g X (by omega) eX (fun i hi => by rw [w2 i hi, potD_k mN]) (fun v x a b => by
      rw [x444, if_neg (Nat.not_lt_zero _), hB v x a b, if_neg (Nat.not_lt_zero _)])
    have c1 : H_Mod_taste_78 (H_Mod_taste_44 (nI k) (f + 1 + s)) (nI k) (nI ((wl (wK M lv nf k day) n).length + 1)) (nI n) FU 0 X = H_Mod_taste_44 (nI k) (f + 1 + s) (nI ((wl (wK M lv nf k day) n).length + 1)) (nI (n + 1)) Y := by
      rw [hg, ← Nat.add_assoc]
      refine z1.trans ?_
      unfold J_Mod_taste_120
      rw [nmI_e, nI_1]
    rw [c1]
    rw [← hu] at z3
    have hlen : (wl (wK M lv nf k day) (n + 1)).length = (wl (wK M lv nf k day) n).length + 1 := by rw [hu, List.length_append]; rfl
    have := ih (n + 1) f Y (by omega) z2 z3
    rw [hlen] at this
    exact this
/-- the row of counts is wiped -/
theorem m_wipe444 {v1 : Int32} : ∀ (s j f : Nat) (N : gM), j + s = 3000 → H_Mod_taste_20 v1 (f + 1 + s) (nI j) N = J_Mod_taste_40 v1 (fl N 444 j s (fun _ => 0)) := by
  intro s
  induction s with
  | zero =>
    intro j f N hj
    obtain rfl : j = 3000 := by omega
    show B_Mod_taste_20 v1 (H_Mod_taste_20 v1 f) (nI 3000) N = _
    generalize H_Mod_taste_20 v1 f = H
    unfold B_Mod_taste_20
    rw [if_pos (by decide), fl_0]
  | succ s ih =>
    intro j f N hj
    rw [← fl_cons (x := 0) rfl, ← ih (j + 1) f (uM N 444 j 0) (by omega)]
    show B_Mod_taste_20 v1 (H_Mod_taste_20 v1 (f + 1 + s)) (nI j) N = _
    generalize H_Mod_taste_20 v1 (f + 1 + s) = H
    unfold B_Mod_taste_20
    rw [if_neg (by rw [show (3000 : Int32) = nI 3000 from rfl, nI_leI (by omega) (by omega)]; omega), if_neg (nI_in (by omega) (by omega)), nI_clamp (by omega), nmM_e, nmI_e, nI_1]
theorem v_taste (h : G1 q ld M L) (hq : q < 512) (a : Int32) : ∃ r M1 r' M2, F_Main_taste ld a M = some (r, M1) ∧ F_Mod_taste a M1 = some (r', M2) ∧ G1 (q + 1) ld M2 L ∧ r = r' := by
  obtain ⟨r, M1, e1, -, k1⟩ := tf_Main_taste (p1 := a) (M := M) h.1.la
  have g1 := h.1.kC1 k1
  obtain ⟨r', M2, e2, -, k2⟩ := tf_Mod_taste (p0 := a) g1.inv
  refine ⟨r, M1, r', M2, e1, e2, h.q2 (g1.kM1 k2) k1 k2, ?_⟩
  obtain ⟨lv, nf, nd, ng, ne, hL, hS⟩ := h.get
  obtain ⟨hL1, m1, Mc, x1, x2, x3, hLc, mc⟩ := cop hL k1
  have hT : Td M := h.1.2.2.2.2.2.2.2.1
  have hT1 : Td M1 := g1.2.2.2.2.2.2.2.1
  obtain ⟨n, t1, t2, t3, t4⟩ := id hT
  have h5 := hL.nd5
  unfold F_Main_taste at e1
  unfold F_Mod_taste at e2
  rw [t2, nI_1] at e1
  rw [m1 401 64 (by decide), t3] at e2
  rcases one_in0 a (n := n) (by omega) with ⟨d1, d2⟩ | ⟨k, hk, rfl, d1, d2⟩
  · rw [d1, bI_s, if_pos rfl] at e1
    rw [d2, bI_s, if_pos rfl] at e2
    exact pair_fin e1 e2 rfl
  obtain ⟨X, y1, y2, y3⟩ := c_gather hL hT (day := M 436 35) ⟨n, t1, t2, hk⟩
  have ln := wl_len (wK M lv nf k (M 436 35)) (13 * nd)
  have x64 : X 64 0 = M 64 0 := y2 64 0 (gF_n (by decide) (by decide) (by omega) (by omega))
  obtain ⟨X2, c0⟩ := c_nextTaste hL (day := M 436 35) (by omega) y2 y3
  rw [d1, bI_s, if_neg (by decide), hS.1.d0, y1, bI_s, x64, hS.1.d0, c0, bI2_s] at e1
  rw [d2, bI_s, if_neg (by decide), x1, bI_s] at e2
  obtain ⟨Mq, w1, w2, w3, w4⟩ := m_copies hL1
  have eMq : Mq = Mc := Option.some.inj (w1.symm.trans x1)
  rw [eMq] at w4
  have hTc : Td Mc := hT1.keep2 (w4 383 3 (by unfold mQ; omega)) (w4 401 64 (by unfold mQ; omega)) (fun c j w => w4 c j (by unfold mQ; omega))
  have c64 : Mc 401 64 = nI n := by rw [w4 401 64 (by unfold mQ; omega), m1 401 64 (by decide), t3]
  obtain ⟨f, hf⟩ := FU_k (1 + 3000) (by omega)
  have c2 : H_Mod_taste_20 (nI k) FU 0 Mc = J_Mod_taste_40 (nI k) (fl Mc 444 0 3000 (fun _ => 0)) := by rw [hf, ← Nat.add_assoc]; exact m_wipe444 3000 0 f Mc (by omega)
  rw [c2] at e2
  unfold J_Mod_taste_40 at e2
  obtain ⟨f, hf⟩ := FU_k (1 + 13 * nd) (by omega)
  obtain ⟨Y, z1⟩ := m_taste hLc hTc (k := k) (day := M 436 35) ⟨n, t1, c64, hk⟩ (x2 35 (by omega)) (13 * nd) 0 f (fl Mc 444 0 3000 (fun _ => 0)) (Nat.zero_add _) (fun c j w => fl_out (fun z => w (Or.inr z.1))) (fun v x a b => by rw [fl_in (by omega)]; rfl)
  have c3 : H_Mod_taste_44 (nI k) FU 0 0 (fl Mc 444 0 3000 (fun _ => 0)) = some (tasS Mc lv nf (M 436 35) (wl (wK Mc lv nf k (M 436 35)) (13 * nd)), Y) := by rw [hf, ← Nat.add_assoc]; exact z1
  rw [c3] at e2
  have hW : wK Mc lv nf k (M 436 35) = wK M lv nf k (M 436 35) := funext fun n => by
    unfold wK
    rw [wOk_k mc, kP_k mc (fun c j a b => by rw [w4 c j (by unfold mQ; omega), m1 c j (by omega)])]
  have hY : ∀ l, tasS Mc lv nf (M 436 35) l = tasS M lv nf (M 436 35) l := fun l => by
    have e : qM Mc lv nf (M 436 35) l = qM M lv nf (M 436 35) l := funext fun u => by
      unfold qM
      refine mxN_c 100 (fun i _ => ?_)
      unfold cnW
      have : ∀ n, yF Mc lv nf (u / 10) (u % 10) (M 436 35) n = yF M lv nf (u / 10) (u % 10) (M 436 35) n := fun n => by unfold yF; rw [wFo_k mc]
      simp only [this]
    unfold tasS
    rw [e]
  rw [hW, hY] at e2
  exact pair_fin e1 e2 rfl
end TS
end PAR53
