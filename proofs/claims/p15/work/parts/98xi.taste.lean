section MG17x0
/-! taste -/
section PAR53
def mxN (c : Nat → Nat) : Nat → Nat
  | 0 => 0
  | n + 1 => max (mxN c n) (c n)
theorem mxN_c {c c' : Nat → Nat} : ∀ n, (∀ i, i < n → c i = c' i) → mxN c n = mxN c' n
  | 0, _ => rfl
  | n + 1, h => by unfold mxN; rw [mxN_c n (fun i hi => h i (by omega)), h n (by omega)]
theorem mxN_up {c c' : Nat → Nat} {y : Nat} (h : ∀ z, z ≠ y → c' z = c z) (hy : c' y = c y + 1) : ∀ n, mxN c' n = if y < n then max (mxN c n) (c y + 1) else mxN c n
  | 0 => rfl
  | n + 1 => by
    show max (mxN c' n) (c' n) = if y < n + 1 then max (max (mxN c n) (c n)) (c y + 1) else max (mxN c n) (c n)
    rw [mxN_up h hy n]
    by_cases w : n = y
    · subst w
      rw [if_neg (by omega), if_pos (by omega), hy]
      omega
    · rw [h n w]
      by_cases w2 : y < n
      · rw [if_pos w2, if_pos (by omega)]; omega
      · rw [if_neg w2, if_neg (by omega)]
section TS
variable {D Q q ld lv nf nd ng ne : Nat} {M M' M1 Mc Mb : gM} {L : gL} {r : Nat → Int32}
theorem c_potForce9 (h : Lnd ld lv nf nd ng ne M) {kind sum heat many day : Int32} : ∃ M', F_Land_potForce ld kind sum heat many day M = some (potS M lv kind sum heat many day, M') ∧ Kl C9 M zL M' zL := by
  obtain ⟨X, y1, _⟩ := c_potForce h (kind := kind) (sum := sum) (heat := heat) (many := many) (day := day)
  obtain ⟨_, X', z1, -, z2⟩ := tz_Land_potForce (p1 := kind) (p2 := sum) (p3 := heat) (p4 := many) (p5 := day) (M := M) h.la
  have e := (Prod.mk.inj (Option.some.inj (z1.symm.trans y1))).2
  exact ⟨X, y1, by rw [← e]; exact z2⟩
/-- the force of a way as a number -/
def yF (M : gM) (lv nf a b : Nat) (day : Int32) (n : Nat) : Nat := (wFo M lv nf (n / 13) (n % 13) (nI a) (nI b) day).toInt.toNat
theorem yF_e {a b n : Nat} {day : Int32} : wFo M lv nf (n / 13) (n % 13) (nI a) (nI b) day = nI (yF M lv nf a b day n) ∧ yF M lv nf a b day n ≤ 99 := by
  obtain ⟨y, _, h2, h3⟩ := hb_r (x := lawS M lv 0 (v9 (wSum M lv nf (n / 13) (n % 13) (nI a).toInt.toNat) (nI b) (nI a) (wMan M lv nf (n / 13) (n % 13)) day 0 0 0 0) (wSum M lv nf (n / 13) (n % 13) (nI a).toInt.toNat)) (a := 0) (b := 99) (by decide) (by decide)
  have e : wFo M lv nf (n / 13) (n % 13) (nI a) (nI b) day = nI y := h3
  unfold yF
  rw [e, nI_tn (by omega)]
  exact ⟨rfl, h2⟩
/-- how many of the ways have this force -/
def cnW (M : gM) (lv nf a b : Nat) (day : Int32) (l : List Nat) (x : Nat) : Nat := (l.filter (fun n => yF M lv nf a b day n == x)).length
theorem cnW_app {a b n x : Nat} {day : Int32} {l : List Nat} : cnW M lv nf a b day (l ++ [n]) x = if yF M lv nf a b day n = x then cnW M lv nf a b day l x + 1 else cnW M lv nf a b day l x := by
  unfold cnW
  rw [List.filter_append, List.length_append]
  by_cases w : yF M lv nf a b day n = x
  · rw [if_pos w, List.filter_cons_of_pos (by rw [w]; exact beq_self_eq_true _)]; rfl
  · rw [if_neg w, List.filter_cons_of_neg (by rw [beq_eq_false_iff_ne.mpr w]; decide)]; rfl
theorem cnW_le {a b x : Nat} {day : Int32} {l : List Nat} : cnW M lv nf a b day l x ≤ l.length := List.length_filter_le _ _
/-- the class: how many ways at most answer a question alike -/
theorem c_most (hL : Lnd ld lv nf nd ng ne M) {l : List Nat} {day : Int32} (hl : l.length ≤ 65) {N0 : gM} (e0 : Eo gF M N0) (hR : Rw M lv nf l N0) {a b : Nat} (ha : a ≤ 2) (hb : b ≤ 9) : ∃ X, F_Told_mostAlike ld day (nI a) (nI b) N0 = some (nI (mxN (cnW M lv nf a b day l) 100), X) ∧ Kl C0 N0 zL X zL := by
  have key : ∀ (rest p : List Nat) (f : Nat) (N : gM), l = p ++ rest → Kl C0 N0 zL N zL → (∀ x, x < 100 → N 390 x = nI (cnW M lv nf a b day p x)) → ∃ X, H_Told_mostAlike_13 ld day (nI a) (nI b) (f + 1 + rest.length) (nI (mxN (cnW M lv nf a b day p) 100)) (nI p.length) N = some (nI (mxN (cnW M lv nf a b day l) 100), X) ∧ Kl C0 N0 zL X zL := by
    intro rest
    induction rest with
    | nil =>
      intro p f N hp kN hc
      obtain rfl : l = p := by rw [hp, List.append_nil]
      refine ⟨N, ?_, kN⟩
      show B_Told_mostAlike_13 ld day (nI a) (nI b) (H_Told_mostAlike_13 ld day (nI a) (nI b) f) _ (nI l.length) N = _
      unfold B_Told_mostAlike_13
      rw [(hR.c0 kN).1, if_pos (by rw [nI_leI (by omega) (by omega)]; omega)]
    | cons n rest ih =>
      intro p f N hp kN hc
      have ll : l.length = p.length + (rest.length + 1) := by rw [hp, List.length_append, List.length_cons]
      have hRN := hR.c0 kN
      have eg : l.getD p.length 0 = n := by
        rw [hp]
        simp only [List.getD_eq_getElem?_getD, List.getElem?_append_right (Nat.le_refl _), Nat.sub_self, List.getElem?_cons_zero]
        rfl
      obtain ⟨_, r2, r3⟩ := hRN.2 p.length (by omega)
      rw [eg] at r2 r3
      have eN : Eo gF M N := e0.tr (fun x y z => kN.m (by
        cases q : C0 x y with
        | false => rfl
        | true => exact absurd (Or.inl q) z))
      have hN := hL.kG eN
      obtain ⟨yE, y99⟩ := yF_e (M := M) (lv := lv) (nf := nf) (a := a) (b := b) (n := n) (day := day)
      generalize hy : yF M lv nf a b day n = y at yE y99
      obtain ⟨X, u1, u2⟩ := c_potForce9 hN (kind := nI a) (sum := wSum M lv nf (n / 13) (n % 13) a) (heat := nI b) (many := wMan M lv nf (n / 13) (n % 13)) (day := day)
      have ef : F_Told_forceOf ld day (nI p.length) (nI a) (nI b) N = some (nI y, X) := by
        have e1 : potS M lv (nI a) (wSum M lv nf (n / 13) (n % 13) a) (nI b) (wMan M lv nf (n / 13) (n % 13)) day = nI y := by
          rw [← yE]; unfold wFo; rw [nI_tn (by omega)]
        unfold F_Told_forceOf
        rw [show (3 : Int32) = nI 3 from rfl, nI_mul, nI_add, s_at (by omega) (by decide), bI_s, s_at (by omega) (by decide), bI_s, Nat.mul_comm p.length 3, r3 a (by omega), r2, u1, bI2_s, potS_k (gF_M eN), e1]
      have x390 : X 390 y = nI (cnW M lv nf a b day p y) := by rw [u2.m C9_390]; exact hc y (by omega)
      have cl := cnW_le (M := M) (lv := lv) (nf := nf) (a := a) (b := b) (x := y) (day := day) (l := p)
      have app : ∀ x, cnW M lv nf a b day (p ++ [n]) x = if y = x then cnW M lv nf a b day p x + 1 else cnW M lv nf a b day p x := fun x => by rw [cnW_app, hy]
      have mx : mxN (cnW M lv nf a b day (p ++ [n])) 100 = max (mxN (cnW M lv nf a b day p) 100) (cnW M lv nf a b day p y + 1) := by
        rw [mxN_up (y := y) (fun z hz => by rw [app, if_neg (fun q => hz q.symm)]) (by rw [app, if_pos rfl]) 100, if_pos (by omega)]
      have mb : mxN (cnW M lv nf a b day p) 100 ≤ 65 := by
        have : ∀ m, mxN (cnW M lv nf a b day p) m ≤ 65 := fun m => by
          induction m with
          | zero => exact Nat.zero_le _
          | succ m ih =>
            have := cnW_le (M := M) (lv := lv) (nf := nf) (a := a) (b := b) (x := m) (day := day) (l := p)
            show max (mxN _ m) (cnW _ _ _ _ _ _ _ m) ≤ 65
            omega
        exact this 100
      obtain ⟨X', z1, z2⟩ := ih (p ++ [n]) f (uM X 390 y (nI (cnW M lv nf a b day p y + 1))) (by rw [hp, List.append_assoc]; rfl) (Kl.wM (kN.trans (u2.mono C9_C0)) (C0_list 390 (by decide) (by decide) y) rfl) (fun x hx => by
        by_cases w : x = y
        · rw [w, uM_same, app, if_pos rfl]
        · rw [uM_diff (by omega), app, if_neg (fun q => w q.symm), u2.m C9_390]; exact hc x hx)
      refine ⟨X', ?_, z2⟩
      rw [← z1, List.length_append]
      show B_Told_mostAlike_13 ld day (nI a) (nI b) (H_Told_mostAlike_13 ld day (nI a) (nI b) (f + 1 + rest.length)) _ (nI p.length) N = _
      generalize H_Told_mostAlike_13 ld day (nI a) (nI b) (f + 1 + rest.length) = H
      unfold B_Told_mostAlike_13
      rw [hRN.1, if_neg (by rw [nI_leI (by omega) (by omega)]; omega), ef, bI2_s, s_at (by omega) (by decide), bI_s, x390, nI_1, nmI_e, s_put (by omega) (by decide), bI_s, nmI_e, nmI_e, nI_1, mx]
      by_cases w : nI (mxN (cnW M lv nf a b day p) 100) < nI (cnW M lv nf a b day p y + 1)
      · rw [if_pos w]
        rw [nI_ltI (by omega) (by omega)] at w
        rw [Nat.max_eq_right (by omega)]
        rfl
      · rw [if_neg w]
        rw [nI_ltI (by omega) (by omega)] at w
        rw [Nat.max_eq_left (by omega)]
        rfl
  unfold F_Told_mostAlike
  rw [s_wipe (by decide), bI_s]
  obtain ⟨g, hg⟩ := FU_k (1 + l.length) (by omega)
  rw [hg, ← Nat.add_assoc]
  have m0 : mxN (cnW M lv nf a b day []) 100 = 0 := by
    have : ∀ m, mxN (cnW M lv nf a b day []) m = 0 := fun m => by
      induction m with
      | zero => rfl
      | succ m ih => show max (mxN _ m) (cnW M lv nf a b day [] m) = 0; rw [ih]; rfl
    exact this 100
  have h0 := key l [] g (fl N0 390 0 100 (fun _ => 0)) rfl (fun c j w => ⟨fl_out (fun z => by
    rw [z.1, C0_list 390 (by decide) (by decide) j] at w; cases w), rfl⟩) (fun x hx => by rw [fl_in (by omega)]; rfl)
  rw [m0] at h0
  exact h0
theorem cnW_le65 {a b : Nat} {day : Int32} {l : List Nat} (hl : l.length ≤ 65) : ∀ m, mxN (cnW M lv nf a b day l) m ≤ l.length
  | 0 => Nat.zero_le _
  | m + 1 => by
    have h1 := cnW_le (M := M) (lv := lv) (nf := nf) (a := a) (b := b) (x := m) (day := day) (l := l)
    have h2 := cnW_le65 (a := a) (b := b) (day := day) hl m
    show max (mxN _ m) (cnW _ _ _ _ _ _ _ m) ≤ _
    omega
/-- the greatest count of a question -/
def qM (M : gM) (lv nf : Nat) (day : Int32) (l : List Nat) (u : Nat) : Nat := mxN (cnW M lv nf (u / 10) (u % 10) day l) 100
/-- the first least -/
def amn (c : Nat → Nat) : Nat → Nat
  | 0 => 0
  | n + 1 => if c (n + 1) < c (amn c n) then n + 1 else amn c n
theorem amn_le (c : Nat → Nat) : ∀ n, amn c n ≤ n
  | 0 => Nat.le_refl _
  | n + 1 => by
    have := amn_le c n
    show (if c (n + 1) < c (amn c n) then n + 1 else amn c n) ≤ n + 1
    by_cases w : c (n + 1) < c (amn c n)
    · rw [if_pos w]; omega
    · rw [if_neg w]; omega
def tasS (M : gM) (lv nf : Nat) (day : Int32) (l : List Nat) : Int32 := if l = [] then -2 else nI (amn (qM M lv nf day l) 29)
def Bst (c : Nat → Nat) (len u : Nat) (fw fi : Int32) : Prop := (u = 0 ∧ fw = nI (len + 1) ∧ fi = -2) ∨ ∃ w, u = w + 1 ∧ fw = nI (c (amn c w)) ∧ fi = nI (amn c w)
theorem Bst.step {c : Nat → Nat} {len u : Nat} {fw fi : Int32} (h : Bst c len u fw fi) (hl : len ≤ 65) (hc : ∀ u, c u ≤ len) : (fw ≤ nI (c u) → Bst c len (u + 1) fw fi) ∧ (¬ fw ≤ nI (c u) → Bst c len (u + 1) (nI (c u)) (nI u)) := by
  have h0 := hc u
  rcases h with ⟨rfl, rfl, rfl⟩ | ⟨w, rfl, rfl, rfl⟩
  · refine ⟨fun z => ?_, fun _ => Or.inr ⟨0, rfl, rfl, rfl⟩⟩
    rw [nI_leI (by omega) (by omega)] at z
    omega
  · have h1 := hc (amn c w)
    have e : amn c (w + 1) = if c (w + 1) < c (amn c w) then w + 1 else amn c w := rfl
    refine ⟨fun z => Or.inr ⟨w + 1, rfl, ?_⟩, fun z => Or.inr ⟨w + 1, rfl, ?_⟩⟩
    · rw [nI_leI (by omega) (by omega)] at z
      rw [e, if_neg (by omega)]
      exact ⟨rfl, rfl⟩
    · rw [nI_leI (by omega) (by omega)] at z
      rw [e, if_pos (by omega)]
      exact ⟨rfl, rfl⟩
/-- the class goes through the questions -/
theorem c_nextTaste (hL : Lnd ld lv nf nd ng ne M) {l : List Nat} {day : Int32} (hl : l.length ≤ 65) {N0 : gM} (e0 : Eo gF M N0) (hR : Rw M lv nf l N0) : ∃ X, F_Told_nextTaste ld day N0 = some (tasS M lv nf day l, X) := by
  have hc : ∀ u, qM M lv nf day l u ≤ l.length := fun u => cnW_le65 hl 100
  have kk : ∀ {N : gM}, Kl C0 N0 zL N zL → Eo gF M N ∧ Rw M lv nf l N := fun {N} kN => ⟨e0.tr (fun x y z => kN.m (by
    cases q : C0 x y with
    | false => rfl
    | true => exact absurd (Or.inl q) z)), hR.c0 kN⟩
  have inner : ∀ (a : Nat) (K14 : Int32 → Int32 → Int32 → gM → Option (Int32 × gM)), a < 3 → ∀ (s b f : Nat) (N : gM) (fw fi : Int32), b + s = 10 → Kl C0 N0 zL N zL → Bst (qM M lv nf day l) l.length (10 * a + b) fw fi → ∃ X fw' fi', H_Told_nextTaste_30 ld K14 day (nI a) (f + 1 + s) fw fi (nI b) N = J_Told_nextTaste_74 ld K14 day fw' fi' (nI a) X ∧ Kl C0 N0 zL X zL ∧ Bst (qM M lv nf day l) l.length (10 * (a + 1)) fw' fi' := by
    intro a K14 ha s
    induction s with
    | zero =>
      intro b f N fw fi hb kN hB
      obtain rfl : b = 10 := by omega
      refine ⟨N, fw, fi, ?_, kN, hB⟩
      show B_Told_nextTaste_30 ld K14 day (nI a) (H_Told_nextTaste_30 ld K14 day (nI a) f) fw fi (nI 10) N = _
      generalize H_Told_nextTaste_30 ld K14 day (nI a) f = H
      unfold B_Told_nextTaste_30
      rw [if_pos (by decide)]
    | succ s ih =>
      intro b f N fw fi hb kN hB
      obtain ⟨eN, hN⟩ := kk kN
      obtain ⟨X, y1, y2⟩ := c_most hL hl eN hN (a := a) (b := b) (day := day) (by omega) (by omega)
      have ec : mxN (cnW M lv nf a b day l) 100 = qM M lv nf day l (10 * a + b) := by
        unfold qM
        rw [show (10 * a + b) / 10 = a by omega, show (10 * a + b) % 10 = b by omega]
      rw [ec] at y1
      obtain ⟨b1, b2⟩ := hB.step hl hc
      have e1 : H_Told_nextTaste_30 ld K14 day (nI a) (f + 1 + (s + 1)) fw fi (nI b) N = (if fw ≤ nI (qM M lv nf day l (10 * a + b)) then H_Told_nextTaste_30 ld K14 day (nI a) (f + 1 + s) fw fi (nI (b + 1)) X else H_Told_nextTaste_30 ld K14 day (nI a) (f + 1 + s) (nI (qM M lv nf day l (10 * a + b))) (nI (10 * a + b)) (nI (b + 1)) X) := by
        show B_Told_nextTaste_30 ld K14 day (nI a) (H_Told_nextTaste_30 ld K14 day (nI a) (f + 1 + s)) fw fi (nI b) N = _
        generalize H_Told_nextTaste_30 ld K14 day (nI a) (f + 1 + s) = H
        unfold B_Told_nextTaste_30 J_Told_nextTaste_68
        rw [if_neg (by rw [show (10 : Int32) = nI 10 from rfl, nI_leI (by omega) (by omega)]; omega), y1, bI2_s, nmI_e, nmI_e, nmI_e, nI_1, show (10 : Int32) = nI 10 from rfl, nI_mul, nI_add]
      rw [e1]
      by_cases w : fw ≤ nI (qM M lv nf day l (10 * a + b))
      · rw [if_pos w]
        exact ih (b + 1) f X fw fi (by omega) (kN.trans y2) (b1 w)
      · rw [if_neg w]
        exact ih (b + 1) f X _ _ (by omega) (kN.trans y2) (b2 w)
  have outer : ∀ (s a f : Nat) (N : gM) (fw fi : Int32), a + s = 3 → l ≠ [] → Kl C0 N0 zL N zL → Bst (qM M lv nf day l) l.length (10 * a) fw fi → ∃ X, H_Told_nextTaste_14 ld day (f + 1 + s) fw fi (nI a) N = some (nI (amn (qM M lv nf day l) 29), X) := by
    intro s
    induction s with
    | zero =>
      intro a f N fw fi ha hn kN hB
      obtain rfl : a = 3 := by omega
      refine ⟨N, ?_⟩
      show B_Told_nextTaste_14 ld day (H_Told_nextTaste_14 ld day f) fw fi (nI 3) N = _
      unfold B_Told_nextTaste_14
      have hp : 0 < l.length := List.length_pos_iff.mpr hn
      rw [(kk kN).2.1, if_neg (by rw [show (0 : Int32) = nI 0 from rfl, nI_leI (by omega) (by omega)]; omega), if_pos (by decide)]
      rcases hB with ⟨z, _⟩ | ⟨w, z, _, e⟩
      · omega
      · obtain rfl : w = 29 := by omega
        rw [e]
    | succ s ih =>
      intro a f N fw fi ha hn kN hB
      have hp : 0 < l.length := List.length_pos_iff.mpr hn
      obtain ⟨g, hg⟩ := FU_k (1 + 10) (by omega)
      obtain ⟨X, fw', fi', y1, y2, y3⟩ := inner a (H_Told_nextTaste_14 ld day (f + 1 + s)) (by omega) 10 0 g N fw fi (by omega) kN hB
      obtain ⟨X', z1⟩ := ih (a + 1) f X fw' fi' (by omega) hn y2 y3
      refine ⟨X', ?_⟩
      rw [← z1]
      show B_Told_nextTaste_14 ld day (H_Told_nextTaste_14 ld day (f + 1 + s)) fw fi (nI a) N = _
      have c1 : H_Told_nextTaste_30 ld (H_Told_nextTaste_14 ld day (f + 1 + s)) day (nI a) FU fw fi 0 N = J_Told_nextTaste_74 ld (H_Told_nextTaste_14 ld day (f + 1 + s)) day fw' fi' (nI a) X := by
        rw [hg, ← Nat.add_assoc]; exact y1
      generalize H_Told_nextTaste_14 ld day (f + 1 + s) = H at c1 ⊢
      unfold B_Told_nextTaste_14
      rw [(kk kN).2.1, if_neg (by rw [show (0 : Int32) = nI 0 from rfl, nI_leI (by omega) (by omega)]; omega), if_neg (by rw [show (3 : Int32) = nI 3 from rfl, nI_leI (by omega) (by omega)]; omega), c1]
      unfold J_Told_nextTaste_74
      rw [nmI_e, nI_1]
  unfold F_Told_nextTaste tasS
  rw [nmI_e, hR.1, nI_1]
  obtain ⟨g, hg⟩ := FU_k (1 + 3) (by omega)
  rw [hg, ← Nat.add_assoc]
  by_cases w : l = []
  · refine ⟨N0, ?_⟩
    rw [if_pos w]
    show B_Told_nextTaste_14 ld day (H_Told_nextTaste_14 ld day (g + 1 + 2)) _ (-2) 0 N0 = _
    generalize H_Told_nextTaste_14 ld day (g + 1 + 2) = H
    unfold B_Told_nextTaste_14
    rw [hR.1, w, if_pos (by decide)]
  · rw [if_neg w]
    exact outer 3 0 g N0 _ _ (by omega) w Kl.rf (Or.inl ⟨rfl, rfl, rfl⟩)
/-- one way, by the model, with its pot -/
theorem m_isWayP (hL : Lnd ld lv nf nd ng ne M) (hT : Td M) {k : Nat} {day : Int32} (hk : ∃ n, n ≤ 20 ∧ M 401 64 = nI n ∧ k ≤ n) (e35 : M 437 35 = day) {n : Nat} (hn : n < 13 * nd) : ∃ X, F_Mod_isWay (nI n) (nI k) M = some (if wK M lv nf k day n = true then 1 else 0, X) ∧ Eo mP8 M X ∧ (wK M lv nf k day n = true → wOk M lv nf (n / 13) (n % 13) = true ∧ ∀ i, i < 6 → X 438 i = if n % 13 ≠ 0 ∧ i = wF (n % 13) then potD M lv nf (n / 13) i + wD (n % 13) else potD M lv nf (n / 13) i) := by
  have h5 := hL.nd5
  obtain ⟨A, a1, a2, a3⟩ := m_fillsWay hL (d := n / 13) (v := n % 13) (by omega) (by omega)
  rw [show 13 * (n / 13) + n % 13 = n by omega] at a1
  have eA : Eo mP8 M A := fun c j w => a2 c j (fun z => w (Or.inr z))
  unfold F_Mod_isWay wK
  rw [a1, bI2_s]
  by_cases w : wOk M lv nf (n / 13) (n % 13) = true
  rotate_left
  · have w' : wOk M lv nf (n / 13) (n % 13) = false := by simpa using w
    rw [if_neg w, if_pos rfl, w', Bool.false_and, if_neg (by decide)]
    exact ⟨A, rfl, eA, fun z => nomatch z⟩
  rw [if_pos w, if_neg (by decide), w, Bool.true_and]
  have hA := hL.kQ (mP8_Q eA)
  have mA : ∀ c j, 411 ≤ c → c ≤ 432 → A c j = M c j := mQ_M (mP8_Q eA)
  have fr : ∀ x y, x ≠ 434 → x ≠ 435 → x ≠ 438 → ¬ (x = 401 ∧ y = 51) → A x y = M x y := fun x y p1 p2 p3 p4 => eA x y (by unfold mP8 mV; omega)
  have m4 : ∀ c j, 441 ≤ c → c ≤ 443 → A c j = M c j := fun c j a b => fr c j (by omega) (by omega) (by omega) (by omega)
  have hTA : Td A := hT.keep2 (fr 383 3 (by decide) (by decide) (by decide) (by decide)) (fr 401 64 (by decide) (by decide) (by decide) (by decide)) (fun c j w => fr c j (by omega) (by omega) (by omega) (by omega))
  obtain ⟨g, hg⟩ := FU_k (1 + k) (by obtain ⟨n, a, _, b⟩ := hk; omega)
  obtain ⟨Y, u1, u2⟩ := m_known hA hTA (d := n / 13) (v := n % 13) (k := k) (day := day) (by omega) (by
    obtain ⟨n, a, b, c⟩ := hk
    exact ⟨n, a, (fr 401 64 (by decide) (by decide) (by decide) (by decide)).trans b, c⟩) (by rw [wOk_k mA]; exact w) (fun i hi => by rw [a3 w i hi, potD_k mA]) (by rw [fr 437 35 (by decide) (by decide) (by decide) (by decide)]; exact e35) k 0 g A (Nat.zero_add _) Eo.rf
  rw [kP_k mA m4] at u1
  have c1 : F_Mod_isAsKnown (nI k) A = some (if allK (kP M lv nf (n / 13) (n % 13) day) k 0 = true then 1 else 0, Y) := by
    unfold F_Mod_isAsKnown
    rw [hg, ← Nat.add_assoc]
    exact u1
  refine ⟨Y, ?_, eA.tr (mV_P8 u2), fun _ => ⟨rfl, fun i hi => by rw [u2 438 i (by unfold mV; omega)]; exact a3 w i hi⟩⟩
  rw [c1, bI2_s]
  by_cases w2 : allK (kP M lv nf (n / 13) (n % 13) day) k 0 = true
  · rw [if_pos w2, if_neg (by decide)]
  · rw [if_neg w2, if_pos rfl]
def mTs (c j : Nat) : Prop := mP8 c j ∨ c = 444
theorem mTs_Q : ∀ c j, mTs c j → mQ c j := fun c j h => by unfold mTs mP8 mV at h; unfold mQ; omega
theorem mTs_n {c j : Nat} (h1 : c ≠ 434) (h2 : c ≠ 435) (h3 : c ≠ 438) (h4 : c ≠ 444) (h5 : ¬ (c = 401 ∧ j = 51)) : ¬ mTs c j := by unfold mTs mP8 mV; omega
theorem tq_n : ∀ u, u < 30 → nI u / 10 = nI (u / 10) ∧ nI u - nI u / 10 * 10 = nI (u % 10) := by decide +kernel
/-- the counts, of the questions below u with one way more -/
def Tb (M : gM) (lv nf : Nat) (day : Int32) (l l' : List Nat) (u : Nat) (N : gM) : Prop := ∀ v x, v < 30 → x < 100 → N 444 (100 * v + x) = nI (cnW M lv nf (v / 10) (v % 10) day (if v < u then l' else l) x)
/-- the model asks a way all questions -/
theorem m_ask (hL : Lnd ld lv nf nd ng ne M) {n : Nat} {day : Int32} (e35 : M 437 35 = day) (hw : wOk M lv nf (n / 13) (n % 13) = true) {l : List Nat} {K44 : Int32 → Int32 → gM → Option (Int32 × gM)} {v1 v2 : Int32} : ∀ (s u f : Nat) (N : gM), u + s = 30 → Eo mTs M N → (∀ i, i < 6 → N 438 i = if n % 13 ≠ 0 ∧ i = wF (n % 13) then potD M lv nf (n / 13) i + wD (n % 13) else potD M lv nf (n / 13) i) → Tb M lv nf day l (l ++ [n]) u N → ∃ X, H_Mod_taste_78 K44 v1 v2 (nI n) (f + 1 + s) (nI u) N = J_Mod_taste_120 K44 v1 v2 (nI n) X ∧ Eo mTs M X ∧ Tb M lv nf day (l ++ [n]) (l ++ [n]) 0 X := by
  intro s
  induction s with
  | zero =>
    intro u f N hu eN hp hT
    obtain rfl : u = 30 := by omega
    refine ⟨N, ?_, eN, fun v x hv hx => ?_⟩
    · show B_Mod_taste_78 K44 v1 v2 (nI n) (H_Mod_taste_78 K44 v1 v2 (nI n) f) (nI 30) N = _
      generalize H_Mod_taste_78 K44 v1 v2 (nI n) f = H
      unfold B_Mod_taste_78
      rw [if_pos (by decide)]
    · rw [hT v x hv hx, if_pos hv, if_neg (Nat.not_lt_zero _)]
  | succ s ih =>
    intro u f N hu eN hp hT
    have hN := hL.kQ (eN.mono mTs_Q)
    have mN := mQ_M (eN.mono mTs_Q)
    obtain ⟨q1, q2⟩ := tq_n u (by omega)
    obtain ⟨Y, y1, y2⟩ := m_wayForce hN (d := n / 13) (v := n % 13) (j := u / 10) (heat := nI (u % 10)) (by omega) (by rw [wOk_k mN]; exact hw) (fun i hi => by rw [hp i hi, potD_k mN]) (by omega)
    obtain ⟨yE, y99⟩ := yF_e (M := M) (lv := lv) (nf := nf) (a := u / 10) (b := u % 10) (n := n) (day := day)
    rw [wFo_k mN, eN 437 35 (mTs_n (by decide) (by decide) (by decide) (by decide) (by omega)), e35, yE] at y1
    generalize hy : yF M lv nf (u / 10) (u % 10) day n = y at y1 y99
    have g0 : ¬ (nI (100 * u + y) < 0 ∨ 3000 ≤ (nI (100 * u + y)).toNatClampNeg) := nI_in (by omega) (by omega)
    have g1 : (nI (100 * u + y)).toNatClampNeg = 100 * u + y := nI_clamp (by omega)
    have g2 : ¬ (nI (100 * u + y) < 0 ∨ 3000 ≤ 100 * u + y) := nI_inc (by omega) (by omega)
    have eT : Y 444 (100 * u + y) = nI (cnW M lv nf (u / 10) (u % 10) day l y) := by
      rw [y2 444 _ (by unfold mV; omega), hT u y (by omega) (by omega), if_neg (Nat.lt_irrefl _)]
    obtain ⟨X, z1, z2, z3⟩ := ih (u + 1) f (uM Y 444 (100 * u + y) (nI (cnW M lv nf (u / 10) (u % 10) day l y + 1))) (by omega) ((eN.tr (fun c j w => y2 c j (fun z => w (Or.inl (Or.inl z))))).u (Or.inr rfl)) (fun i hi => by rw [uM_diff (by omega), y2 438 i (by unfold mV; omega)]; exact hp i hi) (fun v x hv hx => by
      by_cases w : v = u
      · subst w
        rw [if_pos (Nat.lt_succ_self _), cnW_app, hy]
        by_cases w2 : y = x
        · rw [w2, uM_same, if_pos rfl]
        · rw [uM_diff (by omega), if_neg w2, y2 444 _ (by unfold mV; omega), hT v x hv hx, if_neg (Nat.lt_irrefl _)]
      · rw [uM_diff (by omega), y2 444 _ (by unfold mV; omega), hT v x hv hx]
        by_cases w2 : v < u
        · rw [if_pos w2, if_pos (by omega)]
        · rw [if_neg w2, if_neg (by omega)])
    refine ⟨X, ?_, z2, z3⟩
    rw [← z1]
    show B_Mod_taste_78 K44 v1 v2 (nI n) (H_Mod_taste_78 K44 v1 v2 (nI n) (f + 1 + s)) (nI u) N = _
    generalize H_Mod_taste_78 K44 v1 v2 (nI n) (f + 1 + s) = H
    unfold B_Mod_taste_78
    rw [if_neg (by rw [show (30 : Int32) = nI 30 from rfl, nI_leI (by omega) (by omega)]; omega), q2, q1, y1, bI2_s, show (100 : Int32) = nI 100 from rfl, nI_mul, nI_add, if_neg g0, if_neg g0, g1, nmM_e, nmI_e, nI_1, eT, nI_1]
/-- the model takes the first least of the greatest counts -/
theorem m_worst {K142 : Int32 → Int32 → Int32 → Option (Int32 × gM)} {v3 v4 : Int32} {u : Nat} {c : Nat → Nat} (hu : u < 30) {N : gM} (hc : ∀ x, x < 100 → N 444 (100 * u + x) = nI (c x)) (hb : ∀ x, c x ≤ 65) : ∀ (s x f : Nat), x + s = 100 → H_Mod_taste_155 K142 v3 v4 (nI u) N (f + 1 + s) (nI (mxN c x)) (nI x) = J_Mod_taste_201 K142 v3 v4 (nI u) (nI (mxN c 100)) N := by
  have mb : ∀ m, mxN c m ≤ 65 := fun m => by
    induction m with
    | zero => exact Nat.zero_le _
    | succ m ih => have := hb m; show max (mxN c m) (c m) ≤ 65; omega
  intro s
  induction s with
  | zero =>
    intro x f hx
    obtain rfl : x = 100 := by omega
    show B_Mod_taste_155 K142 v3 v4 (nI u) N (H_Mod_taste_155 K142 v3 v4 (nI u) N f) _ (nI 100) = _
    generalize H_Mod_taste_155 K142 v3 v4 (nI u) N f = H
    unfold B_Mod_taste_155
    rw [if_pos (by decide)]
  | succ s ih =>
    intro x f hx
    have z1 := ih (x + 1) f (by omega)
    rw [← z1]
    show B_Mod_taste_155 K142 v3 v4 (nI u) N (H_Mod_taste_155 K142 v3 v4 (nI u) N (f + 1 + s)) _ (nI x) = _
    generalize H_Mod_taste_155 K142 v3 v4 (nI u) N (f + 1 + s) = H
    have g0 : ¬ (nI (100 * u + x) < 0 ∨ 3000 ≤ (nI (100 * u + x)).toNatClampNeg) := nI_in (by omega) (by omega)
    have g1 : (nI (100 * u + x)).toNatClampNeg = 100 * u + x := nI_clamp (by omega)
    have g2 : ¬ (nI (100 * u + x) < 0 ∨ 3000 ≤ 100 * u + x) := nI_inc (by omega) (by omega)
    have m1 := mb x
    have m2 := hb x
    unfold B_Mod_taste_155 J_Mod_taste_195
    rw [if_neg (by rw [show (100 : Int32) = nI 100 from rfl, nI_leI (by omega) (by omega)]; omega), show (100 : Int32) = nI 100 from rfl, nI_mul, nI_add, if_neg g0, g1, hc x (by omega), nmI_e, nmI_e, nmI_e, nI_1]
    show _ = H (nI (max (mxN c x) (c x))) (nI (x + 1))
    by_cases w : nI (c x) ≤ nI (mxN c x)
    · rw [if_pos w]
      rw [nI_leI (by omega) (by omega)] at w
      rw [Nat.max_eq_left w]
    · rw [if_neg w, if_neg g2]
      rw [nI_leI (by omega) (by omega)] at w
      rw [Nat.max_eq_right (by omega)]
def Mst (c : Nat → Nat) (u : Nat) (v3 v4 : Int32) : Prop := (u = 0 ∧ v3 = -2) ∨ ∃ w, u = w + 1 ∧ v3 = nI (amn c w) ∧ v4 = nI (c (amn c w))
theorem m_least {l : List Nat} {day : Int32} (hl : l.length ≤ 65) {N : gM} (hT : Tb M lv nf day l l 0 N) : ∀ (s u f : Nat) (v3 v4 : Int32), u + s = 30 → Mst (qM M lv nf day l) u v3 v4 → H_Mod_taste_142 N (f + 1 + s) v3 v4 (nI u) = some (nI (amn (qM M lv nf day l) 29), N) := by
  have hc : ∀ u, qM M lv nf day l u ≤ l.length := fun u => cnW_le65 hl 100
  intro s
  induction s with
  | zero =>
    intro u f v3 v4 hu hM
    obtain rfl : u = 30 := by omega
    show B_Mod_taste_142 N (H_Mod_taste_142 N f) v3 v4 (nI 30) = _
    unfold B_Mod_taste_142
    rw [if_pos (by decide)]
    rcases hM with ⟨z, _⟩ | ⟨w, z, e, _⟩
    · omega
    · obtain rfl : w = 29 := by omega
      rw [e]
  | succ s ih =>
    intro u f v3 v4 hu hM
    obtain ⟨g, hg⟩ := FU_k (1 + 100) (by omega)
    have c1 : H_Mod_taste_155 (H_Mod_taste_142 N (f + 1 + s)) v3 v4 (nI u) N FU 0 0 = J_Mod_taste_201 (H_Mod_taste_142 N (f + 1 + s)) v3 v4 (nI u) (nI (qM M lv nf day l u)) N := by
      rw [hg, ← Nat.add_assoc]
      exact m_worst (by omega) (c := cnW M lv nf (u / 10) (u % 10) day l) (fun x hx => by
        rw [hT u x (by omega) hx, if_neg (Nat.not_lt_zero _)]) (fun x => Nat.le_trans cnW_le hl) 100 0 g (by omega)
    have e1 : H_Mod_taste_142 N (f + 1 + (s + 1)) v3 v4 (nI u) = (if v3 < 0 then H_Mod_taste_142 N (f + 1 + s) (nI u) (nI (qM M lv nf day l u)) (nI (u + 1)) else if nI (qM M lv nf day l u) < v4 then H_Mod_taste_142 N (f + 1 + s) (nI u) (nI (qM M lv nf day l u)) (nI (u + 1)) else H_Mod_taste_142 N (f + 1 + s) v3 v4 (nI (u + 1))) := by
      show B_Mod_taste_142 N (H_Mod_taste_142 N (f + 1 + s)) v3 v4 (nI u) = _
      generalize H_Mod_taste_142 N (f + 1 + s) = H at c1 ⊢
      unfold B_Mod_taste_142
      rw [if_neg (by rw [show (30 : Int32) = nI 30 from rfl, nI_leI (by omega) (by omega)]; omega), c1]
      unfold J_Mod_taste_201 J_Mod_taste_215 J_Mod_taste_222
      rw [nmI_e, nmI_e, nI_1]
    rw [e1]
    rcases hM with ⟨rfl, rfl⟩ | ⟨w, rfl, rfl, rfl⟩
    · rw [if_pos (by decide)]
      exact ih 1 f _ _ (by omega) (Or.inr ⟨0, rfl, rfl, rfl⟩)
    · have h1 := hc (amn (qM M lv nf day l) w)
      have h2 := hc (w + 1)
      have h3 := amn_le (qM M lv nf day l) w
      have e : amn (qM M lv nf day l) (w + 1) = if qM M lv nf day l (w + 1) < qM M lv nf day l (amn (qM M lv nf day l) w) then w + 1 else amn (qM M lv nf day l) w := rfl
      rw [if_neg (nI_pos (by omega))]
      by_cases z : qM M lv nf day l (w + 1) < qM M lv nf day l (amn (qM M lv nf day l) w)
      · rw [if_pos (by rw [nI_ltI (by omega) (by omega)]; exact z)]
        exact ih (w + 1 + 1) f _ _ (by omega) (Or.inr ⟨w + 1, rfl, by rw [e, if_pos z], by rw [e, if_pos z]⟩)
      · rw [if_neg (by rw [nI_ltI (by omega) (by omega)]; exact z)]
        exact ih (w + 1 + 1) f _ _ (by omega) (Or.inr ⟨w + 1, rfl, by rw [e, if_neg z], by rw [e, if_neg z]⟩)
theorem m_taste (hL : Lnd ld lv nf nd ng ne M) (hT : Td M) {k : Nat} {day : Int32} (hk : ∃ n, n ≤ 20 ∧ M 401 64 = nI n ∧ k ≤ n) (e35 : M 437 35 = day) : ∀ (s n f : Nat) (N : gM), n + s = 13 * nd → Eo mTs M N → Tb M lv nf day (wl (wK M lv nf k day) n) (wl (wK M lv nf k day) n) 0 N → ∃ X, H_Mod_taste_44 (nI k) (f + 1 + s) (nI (wl (wK M lv nf k day) n).length) (nI n) N = some (tasS M lv nf day (wl (wK M lv nf k day) (13 * nd)), X) := by
  have h5 := hL.nd5
  have h1 := hL.l1
  intro s
  induction s with
  | zero =>
    intro n f N hn eN hB
    obtain rfl : n = 13 * nd := by omega
    have hN := hL.kQ (eN.mono mTs_Q)
    have ln := wl_len (wK M lv nf k day) (13 * nd)
    generalize wl (wK M lv nf k day) (13 * nd) = l at hB ln
    refine ⟨N, ?_⟩
    show B_Mod_taste_44 (nI k) (H_Mod_taste_44 (nI k) f) (nI l.length) (nI (13 * nd)) N = _
    unfold B_Mod_taste_44 J_Mod_taste_126 tasS
    rw [hN.l18, if_neg (nI_in (by omega) (by omega)), nI_clamp (by omega), hN.md, show (13 : Int32) = nI 13 from rfl, nI_mul, if_pos (by rw [nI_leI (by omega) (by omega)]; omega)]
    by_cases w : l = []
    · rw [if_pos w, w, if_pos (by decide)]
    · have hp : 0 < l.length := List.length_pos_iff.mpr w
      rw [if_neg w, if_neg (fun z => by
        have := (nI_eq (a := l.length) (b := 0) (by omega) (by omega)).mp z
        omega)]
      obtain ⟨g, hg⟩ := FU_k (1 + 30) (by omega)
      rw [hg, ← Nat.add_assoc]
      exact m_least (by omega) hB 30 0 g (-2) 0 (by omega) (Or.inl ⟨rfl, rfl⟩)
  | succ s ih =>
    intro n f N hn eN hB
    have hN := hL.kQ (eN.mono mTs_Q)
    have mN := mQ_M (eN.mono mTs_Q)
    have fN : ∀ c j, c ≠ 434 → c ≠ 435 → c ≠ 438 → c ≠ 444 → ¬ (c = 401 ∧ j = 51) → N c j = M c j := fun c j a b c' d e => eN c j (mTs_n a b c' d e)
    have hTN : Td N := hT.keep2 (fN 383 3 (by decide) (by decide) (by decide) (by decide) (by omega)) (fN 401 64 (by decide) (by decide) (by decide) (by decide) (by omega)) (fun c j w => fN c j (by omega) (by omega) (by omega) (by omega) (by omega))
    obtain ⟨X, y1, y2, y3⟩ := m_isWayP hN hTN (k := k) (day := day) (by
      obtain ⟨n, a, b, c⟩ := hk
      exact ⟨n, a, (fN 401 64 (by decide) (by decide) (by decide) (by decide) (by omega)).trans b, c⟩) ((fN 437 35 (by decide) (by decide) (by decide) (by decide) (by omega)).trans e35) (n := n) (by omega)
    have hW : wK N lv nf k day n = wK M lv nf k day n := by
      unfold wK
      rw [wOk_k mN, kP_k mN (fun c j a b => fN c j (by omega) (by omega) (by omega) (by omega) (by omega))]
    rw [hW] at y1 y3
    have eX : Eo mTs M X := eN.tr (fun c j w => y2 c j (fun z => w (Or.inl z)))
    have x444 : ∀ j, X 444 j = N 444 j := fun j => y2 444 j (by unfold mP8 mV; omega)
    have hu : wl (wK M lv nf k day) (n + 1) = if wK M lv nf k day n = true then wl (wK M lv nf k day) n ++ [n] else wl (wK M lv nf k day) n := rfl
    have ln := wl_len (wK M lv nf k day) n
    have e0 : H_Mod_taste_44 (nI k) (f + 1 + (s + 1)) (nI (wl (wK M lv nf k day) n).length) (nI n) N = (if wK M lv nf k day n = true then H_Mod_taste_78 (H_Mod_taste_44 (nI k) (f + 1 + s)) (nI k) (nI ((wl (wK M lv nf k day) n).length + 1)) (nI n) FU 0 X else H_Mod_taste_44 (nI k) (f + 1 + s) (nI (wl (wK M lv nf k day) n).length) (nI (n + 1)) X) := by
      show B_Mod_taste_44 (nI k) (H_Mod_taste_44 (nI k) (f + 1 + s)) _ (nI n) N = _
      generalize H_Mod_taste_44 (nI k) (f + 1 + s) = H
      unfold B_Mod_taste_44 J_Mod_taste_120
      rw [hN.l18, if_neg (nI_in (by omega) (by omega)), nI_clamp (by omega), hN.md, show (13 : Int32) = nI 13 from rfl, nI_mul, if_neg (by rw [nI_leI (by omega) (by omega)]; omega), y1, bI2_s, nmI_e, nmI_e, nI_1, nI_1]
      by_cases w : wK M lv nf k day n = true
      · rw [if_pos w, if_neg (by decide), if_pos w]
      · rw [if_neg w, if_pos rfl, if_neg w]
    rw [e0]
    by_cases w : wK M lv nf k day n = true
    rotate_left
    · rw [if_neg w] at hu ⊢
      have hB' : Tb M lv nf day (wl (wK M lv nf k day) (n + 1)) (wl (wK M lv nf k day) (n + 1)) 0 X := by
        rw [hu]
        exact fun v x a b => by rw [x444]; exact hB v x a b
      have := ih (n + 1) f X (by omega) eX hB'
      rw [hu] at this
      exact this
    rw [if_pos w] at hu ⊢
    obtain ⟨w1, w2⟩ := y3 w
    rw [wOk_k mN] at w1
    obtain ⟨g, hg⟩ := FU_k (1 + 30) (by omega)
    obtain ⟨Y, z1, z2, z3⟩ := m_ask hL e35 w1 (l := wl (wK M lv nf k day) n) (K44 := H_Mod_taste_44 (nI k) (f + 1 + s)) (v1 := nI k) (v2 := nI ((wl (wK M lv nf k day) n).length + 1)) 30 0 g X (by omega) eX (fun i hi => by rw [w2 i hi, potD_k mN]) (fun v x a b => by
      rw [x444, if_neg (Nat.not_lt_zero _), hB v x a b, if_neg (Nat.not_lt_zero _)])
    have c1 : H_Mod_taste_78 (H_Mod_taste_44 (nI k) (f + 1 + s)) (nI k) (nI ((wl (wK M lv nf k day) n).length + 1)) (nI n) FU 0 X = H_Mod_taste_44 (nI k) (f + 1 + s) (nI ((wl (wK M lv nf k day) n).length + 1)) (nI (n + 1)) Y := by
      rw [hg, ← Nat.add_assoc]
      refine z1.trans ?_
      unfold J_Mod_taste_120
      rw [nmI_e, nI_1]
    rw [c1]
    rw [← hu] at z3
    have hlen : (wl (wK M lv nf k day) (n + 1)).length = (wl (wK M lv nf k day) n).length + 1 := by rw [hu, List.length_append]; rfl
    have := ih (n + 1) f Y (by omega) z2 z3
    rw [hlen] at this
    exact this
/-- the row of counts is wiped -/
theorem m_wipe444 {v1 : Int32} : ∀ (s j f : Nat) (N : gM), j + s = 3000 → H_Mod_taste_20 v1 (f + 1 + s) (nI j) N = J_Mod_taste_40 v1 (fl N 444 j s (fun _ => 0)) := by
  intro s
  induction s with
  | zero =>
    intro j f N hj
    obtain rfl : j = 3000 := by omega
    show B_Mod_taste_20 v1 (H_Mod_taste_20 v1 f) (nI 3000) N = _
    generalize H_Mod_taste_20 v1 f = H
    unfold B_Mod_taste_20
    rw [if_pos (by decide), fl_0]
  | succ s ih =>
    intro j f N hj
    rw [← fl_cons (x := 0) rfl, ← ih (j + 1) f (uM N 444 j 0) (by omega)]
    show B_Mod_taste_20 v1 (H_Mod_taste_20 v1 (f + 1 + s)) (nI j) N = _
    generalize H_Mod_taste_20 v1 (f + 1 + s) = H
    unfold B_Mod_taste_20
    rw [if_neg (by rw [show (3000 : Int32) = nI 3000 from rfl, nI_leI (by omega) (by omega)]; omega), if_neg (nI_in (by omega) (by omega)), nI_clamp (by omega), nmM_e, nmI_e, nI_1]
theorem v_taste (h : G1 q ld M L) (hq : q < 512) (a : Int32) : ∃ r M1 r' M2, F_Main_taste ld a M = some (r, M1) ∧ F_Mod_taste a M1 = some (r', M2) ∧ G1 (q + 1) ld M2 L ∧ r = r' := by
  obtain ⟨r, M1, e1, -, k1⟩ := tf_Main_taste (p1 := a) (M := M) h.1.la
  have g1 := h.1.kC1 k1
  obtain ⟨r', M2, e2, -, k2⟩ := tf_Mod_taste (p0 := a) g1.inv
  refine ⟨r, M1, r', M2, e1, e2, h.q2 (g1.kM1 k2) k1 k2, ?_⟩
  obtain ⟨lv, nf, nd, ng, ne, hL, hS⟩ := h.get
  obtain ⟨hL1, m1, Mc, x1, x2, x3, hLc, mc⟩ := cop hL k1
  have hT : Td M := h.1.2.2.2.2.2.2.2.1
  have hT1 : Td M1 := g1.2.2.2.2.2.2.2.1
  obtain ⟨n, t1, t2, t3, t4⟩ := id hT
  have h5 := hL.nd5
  unfold F_Main_taste at e1
  unfold F_Mod_taste at e2
  rw [t2, nI_1] at e1
  rw [m1 401 64 (by decide), t3] at e2
  rcases one_in0 a (n := n) (by omega) with ⟨d1, d2⟩ | ⟨k, hk, rfl, d1, d2⟩
  · rw [d1, bI_s, if_pos rfl] at e1
    rw [d2, bI_s, if_pos rfl] at e2
    exact pair_fin e1 e2 rfl
  obtain ⟨X, y1, y2, y3⟩ := c_gather hL hT (day := M 436 35) ⟨n, t1, t2, hk⟩
  have ln := wl_len (wK M lv nf k (M 436 35)) (13 * nd)
  have x64 : X 64 0 = M 64 0 := y2 64 0 (gF_n (by decide) (by decide) (by omega) (by omega))
  obtain ⟨X2, c0⟩ := c_nextTaste hL (day := M 436 35) (by omega) y2 y3
  rw [d1, bI_s, if_neg (by decide), hS.1.d0, y1, bI_s, x64, hS.1.d0, c0, bI2_s] at e1
  rw [d2, bI_s, if_neg (by decide), x1, bI_s] at e2
  obtain ⟨Mq, w1, w2, w3, w4⟩ := m_copies hL1
  have eMq : Mq = Mc := Option.some.inj (w1.symm.trans x1)
  rw [eMq] at w4
  have hTc : Td Mc := hT1.keep2 (w4 383 3 (by unfold mQ; omega)) (w4 401 64 (by unfold mQ; omega)) (fun c j w => w4 c j (by unfold mQ; omega))
  have c64 : Mc 401 64 = nI n := by rw [w4 401 64 (by unfold mQ; omega), m1 401 64 (by decide), t3]
  obtain ⟨f, hf⟩ := FU_k (1 + 3000) (by omega)
  have c2 : H_Mod_taste_20 (nI k) FU 0 Mc = J_Mod_taste_40 (nI k) (fl Mc 444 0 3000 (fun _ => 0)) := by rw [hf, ← Nat.add_assoc]; exact m_wipe444 3000 0 f Mc (by omega)
  rw [c2] at e2
  unfold J_Mod_taste_40 at e2
  obtain ⟨f, hf⟩ := FU_k (1 + 13 * nd) (by omega)
  obtain ⟨Y, z1⟩ := m_taste hLc hTc (k := k) (day := M 436 35) ⟨n, t1, c64, hk⟩ (x2 35 (by omega)) (13 * nd) 0 f (fl Mc 444 0 3000 (fun _ => 0)) (Nat.zero_add _) (fun c j w => fl_out (fun z => w (Or.inr z.1))) (fun v x a b => by rw [fl_in (by omega)]; rfl)
  have c3 : H_Mod_taste_44 (nI k) FU 0 0 (fl Mc 444 0 3000 (fun _ => 0)) = some (tasS Mc lv nf (M 436 35) (wl (wK Mc lv nf k (M 436 35)) (13 * nd)), Y) := by rw [hf, ← Nat.add_assoc]; exact z1
  rw [c3] at e2
  have hW : wK Mc lv nf k (M 436 35) = wK M lv nf k (M 436 35) := funext fun n => by
    unfold wK
    rw [wOk_k mc, kP_k mc (fun c j a b => by rw [w4 c j (by unfold mQ; omega), m1 c j (by omega)])]
  have hY : ∀ l, tasS Mc lv nf (M 436 35) l = tasS M lv nf (M 436 35) l := fun l => by
    have e : qM Mc lv nf (M 436 35) l = qM M lv nf (M 436 35) l := funext fun u => by
      unfold qM
      refine mxN_c 100 (fun i _ => ?_)
      unfold cnW
      have : ∀ n, yF Mc lv nf (u / 10) (u % 10) (M 436 35) n = yF M lv nf (u / 10) (u % 10) (M 436 35) n := fun n => by unfold yF; rw [wFo_k mc]
      simp only [this]
    unfold tasS
    rw [e]
  rw [hW, hY] at e2
  exact pair_fin e1 e2 rfl
end TS
end PAR53
end MG17x0
section MG17x1
/-! ways as digits: six choices a day -/
section PAR54
def p6 : Nat → Nat
  | 0 => 1
  | k + 1 => p6 k * 6
/-- the digit of weight k -/
def dgk (w k : Nat) : Nat := w / p6 k % 6
/-- the choice of day i, of n days -/
def dg (n w i : Nat) : Nat := if i < n then dgk w (n - 1 - i) else 0
theorem p6_pos : ∀ k, 0 < p6 k
  | 0 => Nat.one_pos
  | k + 1 => Nat.mul_pos (p6_pos k) (by decide)
theorem p6_add (a : Nat) : ∀ b, p6 (a + b) = p6 a * p6 b
  | 0 => (Nat.mul_one _).symm
  | b + 1 => by
    show p6 (a + b) * 6 = p6 a * (p6 b * 6)
    rw [p6_add a b, Nat.mul_assoc]
theorem dgk_5 (w k : Nat) : dgk w k ≤ 5 := by
  have := Nat.mod_lt (w / p6 k) (show 0 < 6 by decide)
  unfold dgk
  omega
theorem dg_5 (n w i : Nat) : dg n w i ≤ 5 := by
  unfold dg
  by_cases h : i < n
  · rw [if_pos h]; exact dgk_5 _ _
  · rw [if_neg h]; omega
theorem p6_mod (w k : Nat) : w % p6 (k + 1) = w % p6 k + p6 k * dgk w k := Nat.mod_mul
/-- k digits that are all nd -/
def rpn (nd : Nat) : Nat → Nat
  | 0 => 0
  | k + 1 => rpn nd k + p6 k * nd
theorem rpn_lt {nd : Nat} (h : nd ≤ 5) : ∀ k, rpn nd k < p6 k
  | 0 => Nat.one_pos
  | k + 1 => by
    have h1 := rpn_lt h k
    have h2 : p6 k * nd ≤ p6 k * 5 := Nat.mul_le_mul_left _ h
    show rpn nd k + p6 k * nd < p6 k * 6
    omega
theorem low_le {nd w : Nat} : ∀ k, (∀ x, x < k → dgk w x ≤ nd) → w % p6 k ≤ rpn nd k
  | 0, _ => by
    show w % 1 ≤ 0
    omega
  | k + 1, h => by
    have h1 := low_le k (fun x hx => h x (by omega))
    have h2 : p6 k * dgk w k ≤ p6 k * nd := Nat.mul_le_mul_left _ (h k (by omega))
    rw [p6_mod]
    show _ ≤ rpn nd k + p6 k * nd
    omega
/-- all choices are dishes that there are -/
def vld (n nd w : Nat) : Prop := ∀ x, x < n → dgk w x ≤ nd
theorem vld_dg {n nd w : Nat} : vld n nd w ↔ ∀ i, i < n → dg n w i ≤ nd := by
  constructor
  · intro h i hi
    unfold dg
    rw [if_pos hi]
    exact h _ (by omega)
  · intro h x hx
    have := h (n - 1 - x) (by omega)
    unfold dg at this
    rw [if_pos (by omega), show n - 1 - (n - 1 - x) = x by omega] at this
    exact this
section NXT
variable {W k nd : Nat}
theorem nx_at : dgk (p6 k * (W / p6 k + 1)) k = (W / p6 k + 1) % 6 := by
  unfold dgk
  rw [Nat.mul_div_cancel_left _ (p6_pos k)]
theorem nx_up (hc : dgk W k < 5) {x : Nat} (hx : k < x) : dgk (p6 k * (W / p6 k + 1)) x = dgk W x := by
  unfold dgk at hc ⊢
  obtain ⟨m, rfl⟩ : ∃ m, x = k + (m + 1) := ⟨x - k - 1, by omega⟩
  rw [p6_add, ← Nat.div_div_eq_div_mul, ← Nat.div_div_eq_div_mul, Nat.mul_div_cancel_left _ (p6_pos k)]
  show (W / p6 k + 1) / (p6 m * 6) % 6 = W / p6 k / (p6 m * 6) % 6
  generalize W / p6 k = B at hc ⊢
  rw [Nat.mul_comm, ← Nat.div_div_eq_div_mul, ← Nat.div_div_eq_div_mul, show (B + 1) / 6 = B / 6 by omega]
theorem nx_dn {x : Nat} (hx : x < k) : dgk (p6 k * (W / p6 k + 1)) x = 0 := by
  unfold dgk
  obtain ⟨m, rfl⟩ : ∃ m, k = x + (m + 1) := ⟨k - x - 1, by omega⟩
  generalize W / p6 (x + (m + 1)) + 1 = B
  rw [p6_add, Nat.mul_assoc, Nat.mul_div_cancel_left _ (p6_pos x)]
  show p6 m * 6 * B % 6 = 0
  rw [Nat.mul_right_comm, Nat.mul_mod_left]
theorem nx_gt : W < p6 k * (W / p6 k + 1) := by
  have h1 := Nat.div_add_mod W (p6 k)
  have h2 := Nat.mod_lt W (p6_pos k)
  rw [Nat.mul_add]
  omega
/-- none in between -/
theorem nx_no {n w : Nat} (hr : W % p6 k = rpn nd k) (hk : k ≤ n) (h1 : W < w) (h2 : w < p6 k * (W / p6 k + 1)) : ¬ vld n nd w := fun hv => by
  have e1 : w / p6 k = W / p6 k := by
    have a : W / p6 k ≤ w / p6 k := Nat.div_le_div_right (Nat.le_of_lt h1)
    have b : w / p6 k < W / p6 k + 1 := Nat.div_lt_of_lt_mul h2
    omega
  have h3 := Nat.div_add_mod W (p6 k)
  have h4 := Nat.div_add_mod w (p6 k)
  have h5 := low_le k (fun x hx => hv x (by omega)) (w := w) (nd := nd)
  rw [e1] at h4
  omega
theorem nx_lt {n : Nat} (hc : dgk W k < 5) (hk : k < n) (hW : W < p6 n) : p6 k * (W / p6 k + 1) < p6 n := by
  unfold dgk at hc
  obtain ⟨m, rfl⟩ : ∃ m, n = k + (m + 1) := ⟨n - k - 1, by omega⟩
  rw [p6_add] at hW ⊢
  refine Nat.mul_lt_mul_of_pos_left ?_ (p6_pos k)
  have h1 : W / p6 k < p6 (m + 1) := Nat.div_lt_of_lt_mul hW
  have h2 : p6 (m + 1) = p6 m * 6 := rfl
  omega
end NXT
/-- the first with fewest, of the ways below w -/
def bsW (v : Nat → Option Nat) : Nat → Option (Nat × Nat)
  | 0 => none
  | w + 1 => match v w with
    | none => bsW v w
    | some m => match bsW v w with
      | none => some (w, m)
      | some (b, l) => if m < l then some (w, m) else some (b, l)
theorem bsW_none {v : Nat → Option Nat} {w : Nat} (h : v w = none) : bsW v (w + 1) = bsW v w := by
  show (match v w with | none => bsW v w | some m => _) = _
  rw [h]
theorem bsW_first {v : Nat → Option Nat} {w m : Nat} (h : v w = some m) (h2 : bsW v w = none) : bsW v (w + 1) = some (w, m) := by
  show (match v w with | none => bsW v w | some m => match bsW v w with | none => some (w, m) | some (b, l) => if m < l then some (w, m) else some (b, l)) = _
  rw [h, h2]
theorem bsW_some {v : Nat → Option Nat} {w m b l : Nat} (h : v w = some m) (h2 : bsW v w = some (b, l)) : bsW v (w + 1) = if m < l then some (w, m) else some (b, l) := by
  show (match v w with | none => bsW v w | some m => match bsW v w with | none => some (w, m) | some (b, l) => if m < l then some (w, m) else some (b, l)) = _
  rw [h, h2]
theorem bsW_skip {v : Nat → Option Nat} {a : Nat} : ∀ d, (∀ w, a ≤ w → w < a + d → v w = none) → bsW v (a + d) = bsW v a
  | 0, _ => rfl
  | d + 1, h => by
    rw [← Nat.add_assoc, bsW_none (h (a + d) (by omega) (by omega))]
    exact bsW_skip d (fun w p q => h w p (by omega))
/-- the meals of a menu, if all is free on all days -/
def mls (nd : Nat) (ok : Nat → Nat → Nat → Bool) (ch : Nat → Nat) : Nat → Nat → Nat → Nat → Nat → Option Nat
  | 0, _, _, _, cnt => some cnt
  | s + 1, i, meal, c, cnt => if nd < ch i then none else if ch i = 0 then (if ok i meal c = true then mls nd ok ch s (i + 1) meal c cnt else none) else (if ok i i (ch i) = true then mls nd ok ch s (i + 1) i (ch i) (cnt + 1) else none)
theorem mls_le {nd : Nat} {ok : Nat → Nat → Nat → Bool} {ch : Nat → Nat} : ∀ (s i meal c cnt m : Nat), mls nd ok ch s i meal c cnt = some m → m ≤ cnt + s
  | 0, _, _, _, cnt, m, h => by
    have := Option.some.inj h
    omega
  | s + 1, i, meal, c, cnt, m, h => by
    unfold mls at h
    by_cases w : nd < ch i
    · rw [if_pos w] at h; cases h
    rw [if_neg w] at h
    by_cases z : ch i = 0
    · rw [if_pos z] at h
      by_cases y : ok i meal c = true
      · rw [if_pos y] at h
        have := mls_le s _ _ _ _ m h
        omega
      · rw [if_neg y] at h; cases h
    · rw [if_neg z] at h
      by_cases y : ok i i (ch i) = true
      · rw [if_pos y] at h
        have := mls_le s _ _ _ _ m h
        omega
      · rw [if_neg y] at h; cases h
theorem mls_v {nd : Nat} {ok : Nat → Nat → Nat → Bool} {ch : Nat → Nat} : ∀ (s i meal c cnt : Nat), (∃ x, i ≤ x ∧ x < i + s ∧ nd < ch x) → mls nd ok ch s i meal c cnt = none
  | 0, i, _, _, _, ⟨x, a, b, _⟩ => by omega
  | s + 1, i, meal, c, cnt, ⟨x, a, b, e⟩ => by
    unfold mls
    by_cases w : nd < ch i
    · rw [if_pos w]
    rw [if_neg w]
    have hx : x ≠ i := fun z => w (z ▸ e)
    have h1 := fun meal c cnt => mls_v (nd := nd) (ok := ok) (ch := ch) s (i + 1) meal c cnt ⟨x, by omega, by omega, e⟩
    rw [h1, h1]
    by_cases z : ch i = 0
    · rw [if_pos z]
      by_cases y : ok i meal c = true
      · rw [if_pos y]
      · rw [if_neg y]
    · rw [if_neg z]
      by_cases y : ok i i (ch i) = true
      · rw [if_pos y]
      · rw [if_neg y]
theorem mls_c {nd : Nat} {ok ok' : Nat → Nat → Nat → Bool} {ch : Nat → Nat} {n : Nat} : ∀ (s i meal c cnt : Nat), i + s = n → meal ≤ i → c ≤ nd → (∀ i m c, i < n → m ≤ i → c ≤ nd → ok i m c = ok' i m c) → mls nd ok ch s i meal c cnt = mls nd ok' ch s i meal c cnt
  | 0, _, _, _, _, _, _, _, _ => rfl
  | s + 1, i, meal, c, cnt, hi, hm, hc, h => by
    unfold mls
    by_cases w : nd < ch i
    · rw [if_pos w, if_pos w]
    rw [if_neg w, if_neg w, h i meal c (by omega) hm hc, h i i (ch i) (by omega) (Nat.le_refl _) (by omega), mls_c s (i + 1) meal c cnt (by omega) (by omega) hc h, mls_c s (i + 1) i (ch i) (cnt + 1) (by omega) (by omega) (by omega) h]
/-- the test of a set of bits -/
def oks (x s : Int32) : Bool := decide (x &&& s = s)
theorem frP_64 : ∀ b0 b1 b2 b3 b4 b5 : Bool, ∀ n, n < 7 → (frP (q6 b0 b1 b2 b3 b4 b5) n).toInt.toNat < 64 ∧ frP (q6 b0 b1 b2 b3 b4 b5) n = nI (frP (q6 b0 b1 b2 b3 b4 b5) n).toInt.toNat := by decide +kernel
theorem set_64 : ∀ y, y < 64 → ∀ t, t < 64 → ((nI y &&& nI t = nI t) ↔ (nI t &&& (nI y ^^^ (-1)) = 0)) := by decide +kernel
theorem frS_set {M : gM} {lv ne t : Nat} {b : Nat → Int32} (h6 : ne ≤ 6) (ht : t < 64) : (nI t &&& (frS M lv b ne ^^^ (-1)) = 0) ↔ oks (frS M lv b ne) (nI t) = true := by
  have e : ∃ y, y < 64 ∧ frS M lv b ne = nI y := by
    rw [frS_P, frP_c (p' := q6 _ _ _ _ _ _) ne (fun i hi => q6_e _ (by omega))]
    exact ⟨_, (frP_64 _ _ _ _ _ _ ne (by omega)).1, (frP_64 _ _ _ _ _ _ ne (by omega)).2⟩
  obtain ⟨y, y1, y2⟩ := e
  unfold oks
  rw [decide_eq_true_eq, y2]
  exact (set_64 y y1 t ht).symm
theorem ch_n1 : ∀ c, c < 6 → ∀ nd, nd < 6 → (nI c - 1 < nI nd ↔ c ≤ nd) := by decide +kernel
theorem ch_n2 : ∀ c, c < 6 → (nI c - 1 < 0 ↔ c = 0) ∧ (0 ≤ nI c - 1 ↔ 0 < c) ∧ (nI c = 0 ↔ c = 0) := by decide +kernel
theorem ch_n3 : ∀ c, c < 6 → 0 < c → nI c - 1 = nI (c - 1) := by decide +kernel
theorem ch_n (c : Nat) (hc : c < 6) (nd : Nat) (hn : nd < 6) : (nI c - 1 < nI nd ↔ c ≤ nd) ∧ (nI c - 1 < 0 ↔ c = 0) ∧ (0 ≤ nI c - 1 ↔ c ≠ 0) ∧ (c ≠ 0 → nI c - 1 = nI (c - 1)) ∧ (nI c = 0 ↔ c = 0) := ⟨ch_n1 c hc nd hn, (ch_n2 c hc).1, by rw [(ch_n2 c hc).2.1]; omega, fun h => ch_n3 c hc (by omega), (ch_n2 c hc).2.2⟩
theorem sh_n : ∀ ne, ne < 7 → (1 : Int32) <<< (nI ne &&& 31) = nI (2 ^ ne) ∧ 2 ^ ne ≤ 64 := by decide +kernel
theorem m_sixes {k : Nat} (hk : k ≤ 4) : F_Mod_sixes (nI k) = some (nI (p6 k)) := by
  have key : ∀ (s i f : Nat), i + s = k → H_Mod_sixes_4 (nI k) (f + 1 + s) (nI (p6 i)) (nI i) = some (nI (p6 k)) := by
    intro s
    induction s with
    | zero =>
      intro i f hi
      obtain rfl : i = k := by omega
      show B_Mod_sixes_4 (nI i) (H_Mod_sixes_4 (nI i) f) _ (nI i) = _
      unfold B_Mod_sixes_4
      rw [if_pos (by rw [nI_leI (by omega) (by omega)]; omega)]
    | succ s ih =>
      intro i f hi
      rw [← ih (i + 1) f (by omega)]
      show B_Mod_sixes_4 (nI k) (H_Mod_sixes_4 (nI k) (f + 1 + s)) _ (nI i) = _
      generalize H_Mod_sixes_4 (nI k) (f + 1 + s) = H
      unfold B_Mod_sixes_4
      rw [if_neg (by rw [nI_leI (by omega) (by omega)]; omega), nmI_e, nmI_e, nI_1, show (6 : Int32) = nI 6 from rfl, nI_mul]
      rfl
  unfold F_Mod_sixes
  obtain ⟨g, hg⟩ := FU_k (1 + k) (by omega)
  rw [hg, ← Nat.add_assoc]
  exact key k 0 g (Nat.zero_add _)
theorem p6_4 : ∀ k, k < 5 → p6 k ≤ 1296 := by decide
end PAR54
end MG17x1
section MG17x2
/-! menu, by the class -/
section PAR55
/-- what the menu's search may change -/
def gN (x y : Nat) : Prop := C0 x y = true ∨ (396 ≤ x ∧ x ≤ 400)
theorem gN_n {x y : Nat} (h1 : 64 ≤ x) (h2 : x ≠ 390) (h3 : ¬ (396 ≤ x ∧ x ≤ 400)) : ¬ gN x y := fun h => by
  rcases h with h | h
  · rw [C0_M h1 h2] at h; cases h
  · exact h3 h
theorem gN_0 {M M' : gM} (k : Kl C0 M zL M' zL) : Eo gN M M' := fun x y z => k.m (by
  cases q : C0 x y with
  | false => rfl
  | true => exact absurd (Or.inl q) z)
section CM
variable {D Q q ld lv nf nd ng ne : Nat} {M M' M1 Mc Mb : gM} {L : gL} {r : Nat → Int32}
theorem gN_M (e : Eo gN M M') : ∀ c j, 411 ≤ c → c ≤ 432 → M' c j = M c j := fun c j a b => e c j (gN_n (by omega) (by omega) (by omega))
theorem Lnd.kN (h : Lnd ld lv nf nd ng ne M) (e : Eo gN M M') : Lnd ld lv nf nd ng ne M' := h.keep (fun c j q => e c j (fun w => by
  rcases w with w | w
  · rw [gv_C0 q] at w; cases w
  · have := gv_num q; omega))
theorem St.kN (hS : St D Q nf 64 r M) (e : Eo gN M M') : St D Q nf 64 r M' := hS.keep (fun c j a b => e c j (gN_n (by omega) (by omega) (by omega))) (fun _ _ => rfl)
/-- what is free so many days ahead, without a meal -/
def fU (M : gM) (lv ne g : Nat) (r : Nat → Int32) (a : Nat) : Int32 := frS M lv (fun j => bowS M lv r g j (nI a)) ne
/-- what is free so many days behind a dish -/
def fF (M : gM) (lv nf ne g d day a : Nat) : Int32 := frS M lv (fun j => bndS M lv g (nI j) (disS M lv nf d none j (nI day)) (nI a) (nI (day + a))) ne
theorem fU_k (e : ∀ c j, 411 ≤ c → c ≤ 432 → M' c j = M c j) {g a : Nat} : fU M' lv ne g r a = fU M lv ne g r a := by
  unfold fU
  rw [frS_k e]
  exact congrArg (fun b => frS M lv b ne) (funext fun j => bowS_k e)
theorem fF_k (e : ∀ c j, 411 ≤ c → c ≤ 432 → M' c j = M c j) {g d day a : Nat} : fF M' lv nf ne g d day a = fF M lv nf ne g d day a := by
  unfold fF
  rw [frS_k e]
  exact congrArg (fun b => frS M lv b ne) (funext fun j => by rw [bndS_k e, disS_k e])
/-- free by a dish, so many days ahead -/
theorem c_freeByDish (hL : Lnd ld lv nf nd ng ne M) {g d day a : Nat} (hg : g < ng) (hd : d < nd) : ∃ X, F_Land_freeByDish ld (nI g) (nI d) (nI day) (nI a) M = some (fF M lv nf ne g d day a, X) ∧ Kl C0 M zL X zL := by
  obtain ⟨q, hq⟩ := FU_k (1 + 3) (by omega)
  obtain ⟨N, y1, y2, y3⟩ := fb1 hL (g := g) (d := d) (day := nI day) (v4 := nI a) hd 3 0 q M (by omega) Kl.rf (fun j hj => absurd hj (Nat.not_lt_zero _))
  have c1 : F_Land_freeByDish ld (nI g) (nI d) (nI day) (nI a) M = J_Land_freeByDish_34 ld (nI g) (nI day) (nI a) N := by
    unfold F_Land_freeByDish
    rw [hq, ← Nat.add_assoc]
    exact y1
  generalize hb : (fun j : Nat => bndS M lv g (nI j) (disS M lv nf d none j (nI day)) (nI a) (nI (day + a))) = b
  have step : ∀ (N1 : gM) (f k : Nat) (acc : Int32), k < 3 → Kl C9 N zL N1 zL → ∃ N', H_Land_freeByDish_40 ld (nI g) (nI day) (nI a) (f + 1) acc (nI k) N1 = H_Land_freeByDish_40 ld (nI g) (nI day) (nI a) f (acc ||| frK M lv k (b k) ne) (nI (k + 1)) N' ∧ Kl C9 N zL N' zL := fun N1 f k acc hk k1 => by
    have kM1 := y2.trans (k1.mono C9_C0)
    have h1 := hL.k0 kM1
    obtain ⟨X, z1, z2⟩ := c_boundBy9 h1 (g := g) (kind := nI k) (ate := disS M lv nf d none k (nI day)) (ago := nI a) (day := nI (day + a)) hg
    have hX := h1.k0 (z2.mono C9_C0)
    refine ⟨X, ?_, k1.trans z2⟩
    show B_Land_freeByDish_40 ld (nI g) (nI day) (nI a) (H_Land_freeByDish_40 ld (nI g) (nI day) (nI a) f) acc (nI k) N1 = _
    generalize H_Land_freeByDish_40 ld (nI g) (nI day) (nI a) f = H
    unfold B_Land_freeByDish_40
    rw [bndS_k (k0_M kM1)] at z1
    have ek : bndS M lv g (nI k) (disS M lv nf d none k (nI day)) (nI a) (nI (day + a)) = b k := by rw [← hb]
    rw [ek] at z1
    rw [show (3 : Int32) = nI 3 from rfl, if_neg (by rw [nI_leI (by omega) (by omega)]; omega), s_at (by omega) (by decide), bI_s, k9_25 hL.la k1, y3 k hk, nI_add, z1, bI2_s, c_freeUnder hX hk, bI_s, nmI_e, nmI_e, nI_1, frK_k (k0_M (kM1.trans (z2.mono C9_C0)))]
  obtain ⟨q4, hq4⟩ := FU_k 4 (by omega)
  obtain ⟨N1, a1, k1⟩ := step N (q4 + 3) 0 0 (by decide) Kl.rf
  obtain ⟨N2, a2, k2⟩ := step N1 (q4 + 2) 1 (0 ||| frK M lv 0 (b 0) ne) (by decide) k1
  obtain ⟨N3, a3, k3⟩ := step N2 (q4 + 1) 2 (0 ||| frK M lv 0 (b 0) ne ||| frK M lv 1 (b 1) ne) (by decide) k2
  have c2 : J_Land_freeByDish_34 ld (nI g) (nI day) (nI a) N = some (frS M lv b ne, N3) := by
    unfold J_Land_freeByDish_34
    rw [hq4, show (H_Land_freeByDish_40 ld (nI g) (nI day) (nI a) (q4 + 4) 0 0 N) = H_Land_freeByDish_40 ld (nI g) (nI day) (nI a) (q4 + 3 + 1) 0 (nI 0) N from rfl, a1, a2, a3]
    show B_Land_freeByDish_40 ld (nI g) (nI day) (nI a) (H_Land_freeByDish_40 ld (nI g) (nI day) (nI a) q4) _ (nI 3) N3 = _
    generalize H_Land_freeByDish_40 ld (nI g) (nI day) (nI a) q4 = H
    unfold B_Land_freeByDish_40
    rw [if_pos (by decide), fr3 hL (b := b) ne (Nat.le_refl _)]
  refine ⟨N3, ?_, y2.trans (k3.mono C9_C0)⟩
  rw [c1, c2]
  unfold fF
  rw [hb]
def b32 (b : Bool) : Int32 := if b = true then 1 else 0
theorem b32_0 {b : Bool} : (b32 b = 0) ↔ ¬ b = true := by
  cases b <;> decide
theorem vpb1 : vp_nar .boolean 1 = 1 := by decide
theorem vpb0 : vp_nar .boolean 0 = 0 := by decide
/-- the days without a meal -/
theorem c_lookUnfed (hL : Lnd ld lv nf nd ng ne M) (hS : St D Q nf 64 r M) (hD : D < 2 ^ 31) (hQ : Q < 2 ^ 31) {g : Nat} (hg : g < ng) {st : Int32} : ∃ X, F_MenuSearch_lookUnfed ld 64 (nI g) st M = some X ∧ Eo gN M X ∧ ∀ i, i < 4 → X 397 i = b32 (oks (fU M lv ne g r i) st) := by
  have key : ∀ (s i f : Nat) (N : gM), i + s = 4 → Eo gN M N → (∀ x, x < i → N 397 x = b32 (oks (fU M lv ne g r x) st)) → ∃ X, H_MenuSearch_lookUnfed_3 ld 64 (nI g) st (f + 1 + s) (nI i) N = some X ∧ Eo gN M X ∧ ∀ i, i < 4 → X 397 i = b32 (oks (fU M lv ne g r i) st) := by
    intro s
    induction s with
    | zero =>
      intro i f N hi eN e
      obtain rfl : i = 4 := by omega
      refine ⟨N, ?_, eN, e⟩
      show B_MenuSearch_lookUnfed_3 ld 64 (nI g) st (H_MenuSearch_lookUnfed_3 ld 64 (nI g) st f) (nI 4) N = _
      generalize H_MenuSearch_lookUnfed_3 ld 64 (nI g) st f = H
      unfold B_MenuSearch_lookUnfed_3
      rw [if_pos (by decide)]
    | succ s ih =>
      intro i f N hi eN e
      obtain ⟨X, y1, y2⟩ := c_freeOf (hL.kN eN) (hS.kN eN) st64 hD hQ (g := g) (ahead := nI i) hg
      have ef : frS N lv (fun j => bowS N lv r g j (nI i)) ne = fU M lv ne g r i := fU_k (gN_M eN)
      rw [ef] at y1
      have eX := eN.tr (gN_0 y2)
      have x397 : ∀ x, X 397 x = N 397 x := fun x => y2.m (C0_M (by decide) (by decide))
      obtain ⟨X', z1, z2⟩ := ih (i + 1) f (uM X 397 i (b32 (oks (fU M lv ne g r i) st))) (by omega) (eX.u (Or.inr (by omega))) (fun x hx => by
        by_cases w : x = i
        · rw [w, uM_same]
        · rw [uM_diff (by omega), x397]; exact e x (by omega))
      refine ⟨X', ?_, z2⟩
      rw [← z1]
      show B_MenuSearch_lookUnfed_3 ld 64 (nI g) st (H_MenuSearch_lookUnfed_3 ld 64 (nI g) st (f + 1 + s)) (nI i) N = _
      generalize H_MenuSearch_lookUnfed_3 ld 64 (nI g) st (f + 1 + s) = H
      unfold B_MenuSearch_lookUnfed_3 J_MenuSearch_lookUnfed_40
      rw [if_neg (by rw [show (4 : Int32) = nI 4 from rfl, nI_leI (by omega) (by omega)]; omega), y1, bI2_s, if_neg (nI_in (by omega) (by omega)), if_neg (nI_in (by omega) (by omega)), nI_clamp (by omega), nmM_e, nmM_e, nmI_e, nmI_e, nI_1, vpb1, vpb0]
      unfold oks b32
      by_cases w : fU M lv ne g r i &&& st = st
      · rw [if_pos w, if_pos (decide_eq_true w)]
      · rw [if_neg w, if_neg (by rw [decide_eq_true_eq]; exact w)]
  unfold F_MenuSearch_lookUnfed
  obtain ⟨f, hf⟩ := FU_k (1 + 4) (by omega)
  rw [hf, ← Nat.add_assoc]
  exact key 4 0 f M (by omega) Eo.rf (fun x hx => absurd hx (Nat.not_lt_zero _))
/-- the days behind a meal, those done so far -/
def FdMn (M : gM) (lv nf nd ne n g day : Nat) (st : Int32) (m d i : Nat) (N : gM) : Prop := ∀ x y z, x < n → y < nd → x ≤ z → z < n → (x < m ∨ (x = m ∧ (y < d ∨ (y = d ∧ z < i)))) → N 398 (20 * z + 5 * x + y) = b32 (oks (fF M lv nf ne g y (day + x) (z - x)) st)
theorem c_lookFed (hL : Lnd ld lv nf nd ng ne M) {g n day : Nat} (hg : g < ng) (hn : n ≤ 4) {st : Int32} : ∃ X, F_MenuSearch_lookFed ld (nI day) (nI g) (nI n) st M = some X ∧ Eo gN M X ∧ (∀ x, X 397 x = M 397 x) ∧ FdMn M lv nf nd ne n g day st n 0 0 X := by
  have h5 := hL.nd5
  have inner : ∀ (m d : Nat) (K3 K13 : Int32 → gM → Option gM), m < n → d < nd → ∀ (s i f : Nat) (N : gM), i + s = n → m ≤ i → Eo gN M N → (∀ x, N 397 x = M 397 x) → FdMn M lv nf nd ne n g day st m d i N → ∃ X, H_MenuSearch_lookFed_26 ld K3 K13 (nI day) (nI g) (nI n) st (nI m) (nI d) (f + 1 + s) (nI i) N = J_MenuSearch_lookFed_105 ld K3 K13 (nI day) (nI g) (nI n) st (nI m) (nI d) X ∧ Eo gN M X ∧ (∀ x, X 397 x = M 397 x) ∧ FdMn M lv nf nd ne n g day st m (d + 1) 0 X := by
    intro m d K3 K13 hm hd s
    induction s with
    | zero =>
      intro i f N hi hmi eN e7 hF
      obtain rfl : i = n := by omega
      refine ⟨N, ?_, eN, e7, fun x y z a b c e w => hF x y z a b c e (by omega)⟩
      show B_MenuSearch_lookFed_26 ld K3 K13 (nI day) (nI g) (nI i) st (nI m) (nI d) (H_MenuSearch_lookFed_26 ld K3 K13 (nI day) (nI g) (nI i) st (nI m) (nI d) f) (nI i) N = _
      generalize H_MenuSearch_lookFed_26 ld K3 K13 (nI day) (nI g) (nI i) st (nI m) (nI d) f = H
      unfold B_MenuSearch_lookFed_26
      rw [if_pos (by rw [nI_leI (by omega) (by omega)]; omega)]
    | succ s ih =>
      intro i f N hi hmi eN e7 hF
      obtain ⟨X, y1, y2⟩ := c_freeByDish (hL.kN eN) (g := g) (d := d) (day := day + m) (a := i - m) hg hd
      rw [fF_k (gN_M eN)] at y1
      have eX := eN.tr (gN_0 y2)
      have xm : ∀ c x, 396 ≤ c → c ≤ 400 → X c x = N c x := fun c x a b => y2.m (C0_M (by omega) (by omega))
      obtain ⟨X', z1, z2⟩ := ih (i + 1) f (uM X 398 (20 * i + 5 * m + d) (b32 (oks (fF M lv nf ne g d (day + m) (i - m)) st))) (by omega) (by omega) (eX.u (Or.inr (by omega))) (fun x => by rw [uM_diff (by omega), xm 397 x (by omega) (by omega)]; exact e7 x) (fun x y z a b c e w => by
        by_cases v : x = m ∧ y = d ∧ z = i
        · obtain ⟨rfl, rfl, rfl⟩ := v
          rw [uM_same]
        · rw [uM_diff (by omega), xm 398 _ (by omega) (by omega)]
          exact hF x y z a b c e (by omega))
      refine ⟨X', ?_, z2⟩
      rw [← z1]
      show B_MenuSearch_lookFed_26 ld K3 K13 (nI day) (nI g) (nI n) st (nI m) (nI d) (H_MenuSearch_lookFed_26 ld K3 K13 (nI day) (nI g) (nI n) st (nI m) (nI d) (f + 1 + s)) (nI i) N = _
      generalize H_MenuSearch_lookFed_26 ld K3 K13 (nI day) (nI g) (nI n) st (nI m) (nI d) (f + 1 + s) = H
      have ix : F_MenuSearch_indexOf (nI i) (nI m) (nI d) = some (nI (20 * i + 5 * m + d)) := by
        unfold F_MenuSearch_indexOf
        rw [show (4 : Int32) = nI 4 from rfl, show (5 : Int32) = nI 5 from rfl, nI_mul, nI_add, nI_mul, nI_add]
        exact congrArg (fun x => some (nI x)) (by omega)
      have bd : 20 * i + 5 * m + d < 80 := by omega
      unfold B_MenuSearch_lookFed_26 J_MenuSearch_lookFed_98 J_MenuSearch_lookFed_99
      rw [if_neg (by rw [nI_leI (by omega) (by omega)]; omega), nI_add, nI_sub hmi, y1, bI2_s, ix, bI_s, if_neg (nI_pos (by omega)), if_neg (by rw [show (80 : Int32) = nI 80 from rfl, nI_leI (by omega) (by omega)]; omega), if_neg (nI_in bd (by omega)), if_neg (nI_in bd (by omega)), nI_clamp (by omega), nmM_e, nmM_e, nmI_e, nmI_e, nI_1, vpb1, vpb0]
      unfold oks b32
      by_cases w : fF M lv nf ne g d (day + m) (i - m) &&& st = st
      · rw [if_pos w, if_pos (decide_eq_true w)]
      · rw [if_neg w, if_neg (by rw [decide_eq_true_eq]; exact w)]
  have mid : ∀ (m : Nat) (K3 : Int32 → gM → Option gM), m < n → ∀ (s d f : Nat) (N : gM), d + s = nd → Eo gN M N → (∀ x, N 397 x = M 397 x) → FdMn M lv nf nd ne n g day st m d 0 N → ∃ X, H_MenuSearch_lookFed_13 ld K3 (nI day) (nI g) (nI n) st (nI m) (f + 1 + s) (nI d) N = J_MenuSearch_lookFed_111 ld K3 (nI day) (nI g) (nI n) st (nI m) X ∧ Eo gN M X ∧ (∀ x, X 397 x = M 397 x) ∧ FdMn M lv nf nd ne n g day st (m + 1) 0 0 X := by
    intro m K3 hm s
    induction s with
    | zero =>
      intro d f N hd eN e7 hF
      obtain rfl : d = nd := by omega
      refine ⟨N, ?_, eN, e7, fun x y z a b c e w => hF x y z a b c e (by omega)⟩
      show B_MenuSearch_lookFed_13 ld K3 (nI day) (nI g) (nI n) st (nI m) (H_MenuSearch_lookFed_13 ld K3 (nI day) (nI g) (nI n) st (nI m) f) (nI d) N = _
      generalize H_MenuSearch_lookFed_13 ld K3 (nI day) (nI g) (nI n) st (nI m) f = H
      unfold B_MenuSearch_lookFed_13
      rw [(hL.kN eN).cd, if_pos (by rw [nI_leI (by omega) (by omega)]; omega)]
    | succ s ih =>
      intro d f N hd eN e7 hF
      obtain ⟨g', hg'⟩ := FU_k (1 + (n - m)) (by omega)
      obtain ⟨X, y1, y2, y3, y4⟩ := inner m d K3 (H_MenuSearch_lookFed_13 ld K3 (nI day) (nI g) (nI n) st (nI m) (f + 1 + s)) hm (by omega) (n - m) m g' N (by omega) (Nat.le_refl _) eN e7 (fun x y z a b c e w => hF x y z a b c e (by omega))
      obtain ⟨X', z1, z2⟩ := ih (d + 1) f X (by omega) y2 y3 y4
      refine ⟨X', ?_, z2⟩
      rw [← z1]
      show B_MenuSearch_lookFed_13 ld K3 (nI day) (nI g) (nI n) st (nI m) (H_MenuSearch_lookFed_13 ld K3 (nI day) (nI g) (nI n) st (nI m) (f + 1 + s)) (nI d) N = _
      rw [Nat.add_assoc g' 1 (n - m), ← hg'] at y1
      generalize H_MenuSearch_lookFed_13 ld K3 (nI day) (nI g) (nI n) st (nI m) (f + 1 + s) = H at y1 ⊢
      unfold B_MenuSearch_lookFed_13
      rw [(hL.kN eN).cd, if_neg (by rw [nI_leI (by omega) (by omega)]; omega), y1]
      unfold J_MenuSearch_lookFed_105
      rw [nmI_e, nI_1]
  have outer : ∀ (s m f : Nat) (N : gM), m + s = n → Eo gN M N → (∀ x, N 397 x = M 397 x) → FdMn M lv nf nd ne n g day st m 0 0 N → ∃ X, H_MenuSearch_lookFed_3 ld (nI day) (nI g) (nI n) st (f + 1 + s) (nI m) N = some X ∧ Eo gN M X ∧ (∀ x, X 397 x = M 397 x) ∧ FdMn M lv nf nd ne n g day st n 0 0 X := by
    intro s
    induction s with
    | zero =>
      intro m f N hm eN e7 hF
      obtain rfl : m = n := by omega
      refine ⟨N, ?_, eN, e7, hF⟩
      show B_MenuSearch_lookFed_3 ld (nI day) (nI g) (nI m) st (H_MenuSearch_lookFed_3 ld (nI day) (nI g) (nI m) st f) (nI m) N = _
      generalize H_MenuSearch_lookFed_3 ld (nI day) (nI g) (nI m) st f = H
      unfold B_MenuSearch_lookFed_3
      rw [if_pos (by rw [nI_leI (by omega) (by omega)]; omega)]
    | succ s ih =>
      intro m f N hm eN e7 hF
      obtain ⟨g', hg'⟩ := FU_k (1 + nd) (by omega)
      obtain ⟨X, y1, y2, y3, y4⟩ := mid m (H_MenuSearch_lookFed_3 ld (nI day) (nI g) (nI n) st (f + 1 + s)) (by omega) nd 0 g' N (by omega) eN e7 hF
      obtain ⟨X', z1, z2⟩ := ih (m + 1) f X (by omega) y2 y3 y4
      refine ⟨X', ?_, z2⟩
      rw [← z1]
      show B_MenuSearch_lookFed_3 ld (nI day) (nI g) (nI n) st (H_MenuSearch_lookFed_3 ld (nI day) (nI g) (nI n) st (f + 1 + s)) (nI m) N = _
      rw [Nat.add_assoc g' 1 nd, ← hg'] at y1
      generalize H_MenuSearch_lookFed_3 ld (nI day) (nI g) (nI n) st (f + 1 + s) = H at y1 ⊢
      unfold B_MenuSearch_lookFed_3
      rw [if_neg (by rw [nI_leI (by omega) (by omega)]; omega), show (0 : Int32) = nI 0 from rfl, y1]
      unfold J_MenuSearch_lookFed_111
      rw [nmI_e, nI_1]
  unfold F_MenuSearch_lookFed
  obtain ⟨f, hf⟩ := FU_k (1 + n) (by omega)
  rw [hf, ← Nat.add_assoc]
  exact outer n 0 f M (by omega) Eo.rf (fun _ => rfl) (fun x y z a b c e w => by omega)
/-- the menu's tables, and a row of choices -/
def TabMn (ld n nd : Nat) (U : Nat → Bool) (F : Nat → Nat → Nat → Bool) (N : gM) : Prop := N ld 1 = nI nd ∧ (∀ i, i < 4 → N 397 i = b32 (U i)) ∧ ∀ x y z, x < n → y < nd → x ≤ z → z < n → N 398 (20 * z + 5 * x + y) = b32 (F z x y)
def okM (U : Nat → Bool) (F : Nat → Nat → Nat → Bool) (i meal c : Nat) : Bool := if c = 0 then U i else F i meal (c - 1)
def oI (o : Option Nat) : Int32 := match o with
  | none => -1
  | some m => nI m
theorem c_isFreeM {n : Nat} {U : Nat → Bool} {F : Nat → Nat → Nat → Bool} {N : gM} (hT : TabMn ld n nd U F N) (hn : n ≤ 4) (h5 : nd ≤ 5) {i meal c : Nat} (hi : i < n) (hm : meal ≤ i) (hc : c ≤ nd) : F_MenuSearch_isFree (nI i) (nI meal) (nI c - 1) N = some (b32 (okM U F i meal c)) := by
  obtain ⟨_, _, c3, c4, _⟩ := ch_n c (by omega) 5 (by decide)
  have fin : ∀ b, (if b32 b = 0 then some (0 : Int32) else some 1) = some (b32 b) := fun b => by cases b <;> rfl
  unfold F_MenuSearch_isFree okM
  by_cases w : c = 0
  · rw [if_neg (fun z => c3.mp z w), if_neg (nI_pos (by omega)), if_neg (by rw [show (4 : Int32) = nI 4 from rfl, nI_leI (by omega) (by omega)]; omega), if_neg (nI_in (by omega) (by omega)), nI_clamp (by omega), hT.2.1 i (by omega), fin, if_pos w]
  · have ix : F_MenuSearch_indexOf (nI i) (nI meal) (nI (c - 1)) = some (nI (20 * i + 5 * meal + (c - 1))) := by
      unfold F_MenuSearch_indexOf
      rw [show (4 : Int32) = nI 4 from rfl, show (5 : Int32) = nI 5 from rfl, nI_mul, nI_add, nI_mul, nI_add]
      exact congrArg (fun x => some (nI x)) (by omega)
    rw [if_pos (c3.mpr w), c4 w, ix, bI_s, if_neg (nI_pos (by omega)), if_neg (by rw [show (80 : Int32) = nI 80 from rfl, nI_leI (by omega) (by omega)]; omega), if_neg (nI_in (by omega) (by omega)), nI_clamp (by omega), hT.2.2 meal (c - 1) i (by omega) (by omega) hm hi, fin, if_neg w]
theorem c_meals {n : Nat} {U : Nat → Bool} {F : Nat → Nat → Nat → Bool} {N : gM} (hT : TabMn ld n nd U F N) (hn : n ≤ 4) (h5 : nd ≤ 5) {ch : Nat → Nat} (hr : ∀ i, i < 4 → N 399 i = nI (ch i)) (hv : ∀ i, i < n → ch i ≤ nd) : F_MenuSearch_mealsIfAllFree (nI n) N = some (oI (mls nd (okM U F) ch n 0 0 0 0)) := by
  have key : ∀ (s i f meal c cnt : Nat), i + s = n → meal ≤ i → c ≤ nd → cnt ≤ i → H_MenuSearch_mealsIfAllFree_10 (nI n) N (f + 1 + s) (nI cnt) (nI meal) (nI c - 1) (nI i) = some (oI (mls nd (okM U F) ch s i meal c cnt)) := by
    intro s
    induction s with
    | zero =>
      intro i f meal c cnt hi hm hc hk
      obtain rfl : i = n := by omega
      show B_MenuSearch_mealsIfAllFree_10 (nI i) N (H_MenuSearch_mealsIfAllFree_10 (nI i) N f) _ _ _ (nI i) = _
      generalize H_MenuSearch_mealsIfAllFree_10 (nI i) N f = H
      unfold B_MenuSearch_mealsIfAllFree_10
      rw [if_pos (by rw [nI_leI (by omega) (by omega)]; omega)]
      rfl
    | succ s ih =>
      intro i f meal c cnt hi hm hc hk
      have hx := hv i (by omega)
      obtain ⟨_, _, _, x4, x5⟩ := ch_n (ch i) (by omega) 5 (by decide)
      have h1 := ih (i + 1) f meal c cnt (by omega) (by omega) hc (by omega)
      have h2 := ih (i + 1) f i (ch i) (cnt + 1) (by omega) (by omega) hx (by omega)
      show B_MenuSearch_mealsIfAllFree_10 (nI n) N (H_MenuSearch_mealsIfAllFree_10 (nI n) N (f + 1 + s)) _ _ _ (nI i) = _
      generalize H_MenuSearch_mealsIfAllFree_10 (nI n) N (f + 1 + s) = H at h1 h2 ⊢
      unfold B_MenuSearch_mealsIfAllFree_10 J_MenuSearch_mealsIfAllFree_44 mls
      rw [if_neg (by rw [nI_leI (by omega) (by omega)]; omega), s_at (by omega) (by decide), bI_s, hr i (by omega), if_neg (show ¬ nd < ch i by omega), nmI_e, nmI_e, nmI_e, nmI_e, nI_1, nI_1]
      by_cases w : ch i = 0
      · rw [if_pos w, if_pos (by rw [w]; decide), c_isFreeM hT hn h5 (by omega) hm hc, bI_s]
        by_cases z : okM U F i meal c = true
        · rw [if_pos z, if_neg (fun q => b32_0.mp q z)]
          exact h1
        · rw [if_neg z, if_pos (b32_0.mpr z)]
          rfl
      · rw [if_neg w, if_neg (by rw [show (0 : Int32) = nI 0 from rfl, nI_leI (by omega) (by omega)]; omega), c_isFreeM hT hn h5 (by omega) (Nat.le_refl _) hx, bI_s]
        by_cases z : okM U F i i (ch i) = true
        · rw [if_pos z, if_neg (fun q => b32_0.mp q z)]
          exact h2
        · rw [if_neg z, if_pos (b32_0.mpr z)]
          rfl
  unfold F_MenuSearch_mealsIfAllFree
  obtain ⟨f, hf⟩ := FU_k (1 + n) (by omega)
  rw [hf, ← Nat.add_assoc]
  exact key n 0 f 0 0 0 (by omega) (Nat.le_refl _) (Nat.zero_le _) (Nat.le_refl _)
theorem nx_sub {w k : Nat} : p6 k * (w / p6 k) + w % p6 k = w := Nat.div_add_mod w (p6 k)
/-- the class's step to the next choices -/
theorem c_stepM {n W : Nat} (h5 : nd ≤ 5) (hn1 : 1 ≤ n) (hn : n ≤ 4) (hW : W < p6 n) (hv : vld n nd W) {N : gM} (hr : ∀ i, i < 4 → N 399 i = nI (dg n W i)) : ∃ b X, F_MenuSearch_step (nI n) (nI nd) N = some (b, X) ∧ Eo (fun c _ => c = 399) N X ∧ ((b = 0 ∧ ∀ w, W < w → w < p6 n → ¬ vld n nd w) ∨ (b = 1 ∧ ∃ W', W < W' ∧ W' < p6 n ∧ vld n nd W' ∧ (∀ w, W < w → w < W' → ¬ vld n nd w) ∧ ∀ i, i < 4 → X 399 i = nI (dg n W' i))) := by
  have key : ∀ (j k f : Nat) (X : gM), j + k = n → W % p6 k = rpn nd k → Eo (fun c _ => c = 399) N X → (∀ i, i < 4 → X 399 i = nI (if i < j then dg n W i else 0)) → ∃ b Y, H_MenuSearch_step_4 (nI nd) (f + 1 + j) (nI j + -1) X = some (b, Y) ∧ Eo (fun c _ => c = 399) N Y ∧ ((b = 0 ∧ ∀ w, W < w → w < p6 n → ¬ vld n nd w) ∨ (b = 1 ∧ ∃ W', W < W' ∧ W' < p6 n ∧ vld n nd W' ∧ (∀ w, W < w → w < W' → ¬ vld n nd w) ∧ ∀ i, i < 4 → Y 399 i = nI (dg n W' i))) := by
    intro j
    induction j with
    | zero =>
      intro k f X hj hm eX hx
      obtain rfl : k = n := by omega
      refine ⟨0, X, ?_, eX, Or.inl ⟨rfl, fun w h1 h2 hv2 => ?_⟩⟩
      · show B_MenuSearch_step_4 (nI nd) (H_MenuSearch_step_4 (nI nd) f) (nI 0 + -1) X = _
        unfold B_MenuSearch_step_4
        rw [if_pos (by decide)]
      · have h3 := low_le k hv2
        rw [Nat.mod_eq_of_lt h2] at h3
        rw [Nat.mod_eq_of_lt hW] at hm
        omega
    | succ j ih =>
      intro k f X hj hm eX hx
      have hc : dg n W j = dgk W k := by
        unfold dg
        rw [if_pos (by omega), show n - 1 - j = k by omega]
      have hcv : dgk W k ≤ nd := hv k (by omega)
      have xj : X 399 j = nI (dgk W k) := by rw [hx j (by omega), if_pos (by omega), hc]
      have e0 : H_MenuSearch_step_4 (nI nd) (f + 1 + (j + 1)) (nI (j + 1) + -1) X = (if nI nd ≤ nI (dgk W k) then H_MenuSearch_step_4 (nI nd) (f + 1 + j) (nI j + -1) (uM X 399 j 0) else some (1, uM X 399 j (nI (dgk W k + 1)))) := by
        rw [nI_m1]
        show B_MenuSearch_step_4 (nI nd) (H_MenuSearch_step_4 (nI nd) (f + 1 + j)) (nI j) X = _
        generalize H_MenuSearch_step_4 (nI nd) (f + 1 + j) = H
        unfold B_MenuSearch_step_4 J_MenuSearch_step_24
        rw [if_neg (nI_pos (by omega)), s_at (by omega) (by decide), bI_s, xj, s_put (by omega) (by decide), bI_s, nmI_e, s_put (by omega) (by decide), bI_s, nI_1]
      rw [e0]
      by_cases w : nd ≤ dgk W k
      · rw [if_pos (by rw [nI_leI (by omega) (by omega)]; exact w)]
        have e1 : dgk W k = nd := by omega
        refine ih (k + 1) f (uM X 399 j 0) (by omega) ?_ (eX.u rfl) (fun i hi => ?_)
        · rw [p6_mod, hm, e1]; rfl
        · by_cases z : i = j
          · rw [z, uM_same, if_neg (by omega)]; rfl
          · rw [uM_diff (by omega), hx i hi]
            by_cases y : i < j
            · rw [if_pos y, if_pos (by omega)]
            · rw [if_neg y, if_neg (by omega)]
      · rw [if_neg (by rw [nI_leI (by omega) (by omega)]; exact w)]
        have c5 : dgk W k < 5 := by omega
        have hB : (W / p6 k + 1) % 6 = dgk W k + 1 := by
          unfold dgk at c5 ⊢
          omega
        refine ⟨1, _, rfl, eX.u rfl, Or.inr ⟨rfl, p6 k * (W / p6 k + 1), nx_gt, nx_lt c5 (by omega) hW, fun x hx' => ?_, fun w h1 h2 => nx_no hm (by omega) h1 h2, fun i hi => ?_⟩⟩
        · rcases Nat.lt_trichotomy x k with q | q | q
          · rw [nx_dn q]; omega
          · rw [q, nx_at, hB]; omega
          · rw [nx_up c5 q]; exact hv x hx'
        · by_cases z : i = j
          · rw [z, uM_same]
            unfold dg
            rw [if_pos (by omega), show n - 1 - j = k by omega, nx_at, hB]
          · rw [uM_diff (by omega), hx i hi]
            unfold dg
            by_cases y : i < j
            · rw [if_pos (by omega), if_pos (by omega), if_pos (by omega), nx_up c5 (by omega)]
            · rw [if_neg (by omega)]
              by_cases y2 : i < n
              · rw [if_pos y2, nx_dn (by omega)]
              · rw [if_neg y2]
  unfold F_MenuSearch_step
  rw [nmI_e, show nI n - 1 = nI n + -1 from Int32.sub_eq_add_neg ..]
  obtain ⟨f, hf⟩ := FU_k (1 + n) (by omega)
  rw [hf, ← Nat.add_assoc]
  exact key n 0 f N (by omega) (Nat.mod_one W) Eo.rf (fun i hi => by
    rw [hr i hi]
    by_cases y : i < n
    · rw [if_pos y]
    · rw [if_neg y]; unfold dg; rw [if_neg y])
/-- the best so far, in the class's places -/
def CstMn (n : Nat) (o : Option (Nat × Nat)) (N : gM) : Prop := match o with
  | none => N 396 4 = nI 5
  | some (b, l) => N 396 4 = nI l ∧ l ≤ 4 ∧ ∀ i, i < 4 → N 400 i = nI (dg n b i)
theorem c_find {n : Nat} {U : Nat → Bool} {F : Nat → Nat → Nat → Bool} (h5 : nd ≤ 5) (hn1 : 1 ≤ n) (hn : n ≤ 4) (hld : isLa ld) : ∀ (s W way f : Nat) (N : gM), W < p6 n → p6 n ≤ W + s → way ≤ W → vld n nd W → TabMn ld n nd U F N → (∀ i, i < 4 → N 399 i = nI (dg n W i)) → CstMn n (bsW (fun w => mls nd (okM U F) (dg n w) n 0 0 0 0) W) N → ∃ X, H_MenuSearch_find_38 ld 64 (nI n) (f + 1 + s) (nI way) N = some (if bsW (fun w => mls nd (okM U F) (dg n w) n 0 0 0 0) (p6 n) = none then 0 else 1, X) ∧ CstMn n (bsW (fun w => mls nd (okM U F) (dg n w) n 0 0 0 0) (p6 n)) X := by
  have hl := (by decide +kernel : ∀ x ∈ lLa, x < 390) ld hld
  have l6 := p6_4 n (by omega)
  generalize hv : (fun w => mls nd (okM U F) (dg n w) n 0 0 0 0) = v
  have hinv : ∀ w, ¬ vld n nd w → v w = none := fun w h => by
    rw [← hv]
    refine mls_v n 0 0 0 0 ?_
    have h2 : ¬ ∀ i, i < n → dg n w i ≤ nd := fun z => h (vld_dg.mpr z)
    apply Classical.byContradiction
    intro z
    exact h2 (fun i hi => by
      apply Classical.byContradiction
      intro y
      exact z ⟨i, by omega, by omega, by omega⟩)
  intro s
  induction s with
  | zero => intro W way f N hW hs; omega
  | succ s ih =>
    intro W way f N hW hs hw hvW hT hr hC
    have hm := c_meals hT hn h5 hr (vld_dg.mp hvW)
    have hm' : mls nd (okM U F) (dg n W) n 0 0 0 0 = v W := by rw [← hv]
    rw [hm'] at hm
    -- behind the look
    have fin : ∀ N', Eo (fun c j => (c = 396 ∧ j = 4) ∨ c = 400) N N' → CstMn n (bsW v (W + 1)) N' → ∃ X, J_MenuSearch_find_85 ld 64 (H_MenuSearch_find_38 ld 64 (nI n) (f + 1 + s)) (nI n) (nI way) N' = some (if bsW v (p6 n) = none then 0 else 1, X) ∧ CstMn n (bsW v (p6 n)) X := fun N' eN hC' => by
      have e9 : ∀ i, N' 399 i = N 399 i := fun i => eN 399 i (by omega)
      have hT' : TabMn ld n nd U F N' := ⟨(eN ld 1 (by omega)).trans hT.1, fun i hi => (eN 397 i (by omega)).trans (hT.2.1 i hi), fun x y z a b c d => (eN 398 _ (by omega)).trans (hT.2.2 x y z a b c d)⟩
      obtain ⟨b, X, y1, y2, y3⟩ := c_stepM h5 hn1 hn hW hvW (N := N') (fun i hi => (e9 i).trans (hr i hi))
      have cX : ∀ o, CstMn n o N' → CstMn n o X := fun o h => by
        match o, h with
        | none, h => exact (y2 396 4 (show ¬ (396 : Nat) = 399 by decide)).trans h
        | some (b, l), h => exact ⟨(y2 396 4 (show ¬ (396 : Nat) = 399 by decide)).trans h.1, h.2.1, fun i hi => (y2 400 i (show ¬ (400 : Nat) = 399 by decide)).trans (h.2.2 i hi)⟩
      unfold J_MenuSearch_find_85
      rw [hT'.1, y1, bI2_s]
      rcases y3 with ⟨rfl, no⟩ | ⟨rfl, W', w1, w2, w3, w4, w5⟩
      · have eb : bsW v (p6 n) = bsW v (W + 1) := by
          have := bsW_skip (v := v) (a := W + 1) (p6 n - (W + 1)) (fun w p q => hinv w (no w (by omega) (by omega)))
          rw [show W + 1 + (p6 n - (W + 1)) = p6 n by omega] at this
          exact this
        rw [if_pos rfl, eb]
        refine ⟨X, ?_, cX _ hC'⟩
        have hX := cX _ hC'
        unfold J_MenuSearch_find_98 J_MenuSearch_find_107
        generalize bsW v (W + 1) = o at hX ⊢
        match o, hX with
        | none, h => rw [show X 396 4 = nI 5 from h, if_pos (by decide), if_pos rfl]
        | some (b, l), h => rw [h.1, if_neg (by have := h.2.1; rw [show (4 : Int32) = nI 4 from rfl, nI_ltI (by omega) (by omega)]; omega), if_neg (fun z => nomatch z)]
      · have eb : bsW v W' = bsW v (W + 1) := by
          have := bsW_skip (v := v) (a := W + 1) (W' - (W + 1)) (fun w p q => hinv w (w4 w (by omega) (by omega)))
          rw [show W + 1 + (W' - (W + 1)) = W' by omega] at this
          exact this
        rw [if_neg (by decide), nmI_e, nI_1]
        exact ih W' (way + 1) f X w2 (by omega) (by omega) w3 ⟨(y2 ld 1 (by omega)).trans hT'.1, fun i hi => (y2 397 i (show ¬ (397 : Nat) = 399 by decide)).trans (hT'.2.1 i hi), fun x y z a b c d => (y2 398 _ (show ¬ (398 : Nat) = 399 by decide)).trans (hT'.2.2 x y z a b c d)⟩ w5 (by rw [eb]; exact cX _ hC')
    show ∃ X, B_MenuSearch_find_38 ld 64 (nI n) (H_MenuSearch_find_38 ld 64 (nI n) (f + 1 + s)) (nI way) N = _ ∧ _
    generalize H_MenuSearch_find_38 ld 64 (nI n) (f + 1 + s) = H at fin ⊢
    unfold B_MenuSearch_find_38
    rw [if_neg (by rw [show (1296 : Int32) = nI 1296 from rfl, nI_leI (by omega) (by omega)]; omega), hm, bI_s]
    cases hq : v W with
    | none =>
      rw [if_pos (show oI none < 0 by decide)]
      exact fin N Eo.rf (by rw [bsW_none hq]; exact hC)
    | some m =>
      have hm4 : m ≤ 4 := by
        have := mls_le n 0 0 0 0 m (hm'.trans hq)
        omega
      rw [if_neg (show ¬ oI (some m) < 0 from nI_pos (by omega))]
      have take : CstMn n (some (W, m)) (fl (uM N 396 4 (nI m)) 400 0 4 (uM N 396 4 (nI m) 399)) := ⟨by rw [fl_out (by omega), uM_same], hm4, fun i hi => by rw [fl_in (by omega), Nat.sub_zero, uM_diff (by omega)]; exact hr i hi⟩
      have et : Eo (fun c j => (c = 396 ∧ j = 4) ∨ c = 400) N (fl (uM N 396 4 (nI m)) 400 0 4 (uM N 396 4 (nI m) 399)) := fun c j w => by
        rw [fl_out (by omega), uM_diff (by omega)]
      cases hb : bsW v W with
      | none =>
        rw [hb] at hC
        rw [show N 396 4 = nI 5 from hC, if_neg (show ¬ nI 5 ≤ oI (some m) by show ¬ nI 5 ≤ nI m; rw [nI_leI (by omega) (by omega)]; omega), nmM_e, s_copyRow (by decide) (by decide), bI_s]
        exact fin _ et (by rw [bsW_first hq hb]; exact take)
      | some p =>
        obtain ⟨b, l⟩ := p
        rw [hb] at hC
        have hl4 := hC.2.1
        rw [hC.1]
        by_cases z : m < l
        · rw [if_neg (show ¬ nI l ≤ oI (some m) by show ¬ nI l ≤ nI m; rw [nI_leI (by omega) (by omega)]; omega), nmM_e, s_copyRow (by decide) (by decide), bI_s]
          exact fin _ et (by rw [bsW_some hq hb, if_pos z]; exact take)
        · rw [if_pos (show nI l ≤ oI (some m) by show nI l ≤ nI m; rw [nI_leI (by omega) (by omega)]; omega)]
          exact fin N Eo.rf (by rw [bsW_some hq hb, if_neg z]; exact hC)
/-- the class's menu -/
theorem c_menu (hL : Lnd ld lv nf nd ng ne M) (hS : St D Q nf 64 r M) (hD : D < 2 ^ 31) (hQ : Q < 2 ^ 31) {g n t day : Nat} (hg : g < ng) (hn1 : 1 ≤ n) (hn : n ≤ 4) (h0 : M 64 0 = nI day) : ∃ X, F_MenuSearch_find ld 64 (nI g) (nI n) (nI t) M = some (if bsW (fun w => mls nd (okM (fun i => oks (fU M lv ne g r i) (nI t)) (fun z x y => oks (fF M lv nf ne g y (day + x) (z - x)) (nI t))) (dg n w) n 0 0 0 0) (p6 n) = none then 0 else 1, X) ∧ CstMn n (bsW (fun w => mls nd (okM (fun i => oks (fU M lv ne g r i) (nI t)) (fun z x y => oks (fF M lv nf ne g y (day + x) (z - x)) (nI t))) (dg n w) n 0 0 0 0) (p6 n)) X := by
  have h5 := hL.nd5
  have hl := (by decide +kernel : ∀ x ∈ lLa, x < 390) ld hL.la
  obtain ⟨A, a1, a2, a3⟩ := c_lookUnfed hL hS hD hQ hg (st := nI t)
  obtain ⟨B, b1, b2, b3, b4⟩ := c_lookFed (hL.kN a2) (g := g) (n := n) (day := day) (st := nI t) hg hn
  have a64 : A 64 0 = nI day := (a2 64 0 (gN_n (by decide) (by decide) (by omega))).trans h0
  have l6 := p6_4 n (by omega)
  obtain ⟨f, hf⟩ := FU_k (1 + p6 n) (by omega)
  have z0 : ∀ k, dgk 0 k = 0 := fun k => by unfold dgk; rw [Nat.zero_div]
  have eD : ∀ c j, c ≠ 399 → ¬ (c = 396 ∧ j = 4) → uM (fl B 399 0 4 (fun _ => 0)) 396 4 5 c j = B c j := fun c j a b => by rw [uM_diff b, fl_out (by omega)]
  obtain ⟨X, y1, y2⟩ := c_find (U := fun i => oks (fU M lv ne g r i) (nI t)) (F := fun z x y => oks (fF M lv nf ne g y (day + x) (z - x)) (nI t)) h5 hn1 hn hL.la (p6 n) 0 0 f (uM (fl B 399 0 4 (fun _ => 0)) 396 4 5) (p6_pos n) (by omega) (Nat.le_refl _) (fun x _ => by rw [z0]; omega) ⟨by rw [eD ld 1 (by omega) (by omega)]; exact ((hL.kN a2).kN b2).cd, fun i hi => by rw [eD 397 i (by decide) (by omega), b3]; exact a3 i hi, fun x y z a b c d => by
    rw [eD 398 _ (by decide) (by omega), b4 x y z a b c d (by omega), fF_k (gN_M a2)]⟩ (fun i hi => by
    rw [uM_diff (by omega), fl_in (by omega)]
    unfold dg
    rw [z0]
    by_cases w : i < n
    · rw [if_pos w]; rfl
    · rw [if_neg w]; rfl) (show uM (fl B 399 0 4 (fun _ => 0)) 396 4 5 396 4 = nI 5 from uM_same)
  refine ⟨X, ?_, y2⟩
  unfold F_MenuSearch_find
  rw [a1, bI_s, a64, b1, bI_s, s_wipe (by decide), bI_s, nmM_e, hf, ← Nat.add_assoc]
  exact y1
end CM
end PAR55
end MG17x2
section MG17x3
/-! menu, by the model -/
section PAR56
section MM
variable {D Q q ld lv nf nd ng ne : Nat} {M M' M1 Mc Mb : gM} {L : gL} {r : Nat → Int32}
/-- the model's guest eats a dish: what its row holds then -/
theorem m_eatsDishR (h : Lnd ld lv nf nd ng ne M) {g d : Nat} (hg : g < 4) (hd : d < nd) : ∃ M', F_Mod_eatsDish (nI g) (nI d) M = some M' ∧ Eo mEat M M' ∧ M' 437 35 = M 437 35 ∧ M' 437 (15 + g) = M 437 35 ∧ ∀ j, j < 3 → M' 437 (19 + 3 * g + j) = disS M lv nf d none j (M 437 35) := by
  have h5 := h.nd5
  have h1 := h.l1
  unfold F_Mod_eatsDish
  rw [m_fillsPot h hd, bI_s]
  have f7 : Eo mEat M (fl M 438 0 6 (potD M lv nf d)) := fun c j w => fl_out (by unfold mEat mQ at w; omega)
  have hp7 : ∀ i, i < 6 → fl M 438 0 6 (potD M lv nf d) 438 i = potD M lv nf d i := fun i hi => by rw [fl_in (by omega), Nat.sub_zero]
  have r7 : ∀ k, fl M 438 0 6 (potD M lv nf d) 437 k = M 437 k := fun k => fl_out (by omega)
  generalize fl M 438 0 6 (potD M lv nf d) = N at f7 hp7 r7 ⊢
  rw [show (15 : Int32) = nI 15 from rfl, nI_add, if_neg (nI_in (by omega) (by omega)), nI_clamp (by omega), nmM_e, r7 35]
  have fA : Eo mEat M (uM N 437 (15 + g) (M 437 35)) := f7.u (by unfold mEat mQ; omega)
  have pA : ∀ i, i < 6 → uM N 437 (15 + g) (M 437 35) 438 i = potD M lv nf d i := fun i hi => by rw [uM_diff (by omega)]; exact hp7 i hi
  have rA : uM N 437 (15 + g) (M 437 35) 437 35 = M 437 35 := by rw [uM_diff (by omega)]; exact r7 35
  have rB : uM N 437 (15 + g) (M 437 35) 437 (15 + g) = M 437 35 := uM_same
  generalize uM N 437 (15 + g) (M 437 35) = A at fA pA rA rB ⊢
  have key : ∀ (s k f : Nat) (N : gM), k + s = 3 → Eo mEat M N → (∀ i, i < 6 → N 438 i = potD M lv nf d i) → N 437 35 = M 437 35 → N 437 (15 + g) = M 437 35 → (∀ j, j < k → N 437 (19 + 3 * g + j) = disS M lv nf d none j (M 437 35)) → ∃ N', H_Mod_eatsDish_23 (nI g) (nI d) (f + 1 + s) (nI k) N = some N' ∧ Eo mEat M N' ∧ N' 437 35 = M 437 35 ∧ N' 437 (15 + g) = M 437 35 ∧ (∀ j, j < 3 → N' 437 (19 + 3 * g + j) = disS M lv nf d none j (M 437 35)) := by
    intro s
    induction s with
    | zero =>
      intro k f N hk a1 a2 a3 a4 a5
      obtain rfl : k = 3 := by omega
      refine ⟨N, ?_, a1, a3, a4, a5⟩
      show B_Mod_eatsDish_23 (nI g) (nI d) (H_Mod_eatsDish_23 (nI g) (nI d) f) (nI 3) N = _
      unfold B_Mod_eatsDish_23
      rw [if_pos (by decide)]
    | succ s ih =>
      intro k f N hk a1 a2 a3 a4 a5
      have hN := h.kQ (a1.mono mEat_mQ)
      have mN := mQ_M (a1.mono mEat_mQ)
      have hPot : Pot N lv nf d none := fun i hi => by
        rw [a2 i hi, if_neg (by simp)]
        unfold potD
        rw [mN 417 _ (by decide) (by decide)]
      obtain ⟨X, y1, y2⟩ := hPot.force hN (j := k) (fun f w => by cases w) (by omega)
      rw [disS_k mN, a3] at y1
      have e437 : ∀ i, X 437 i = N 437 i := fun i => y2 437 i (by unfold mV; omega)
      obtain ⟨N', z1, z2⟩ := ih (k + 1) f (uM X 437 (19 + 3 * g + k) (disS M lv nf d none k (M 437 35))) (by omega) ((a1.tr (y2.mono mV_mEat)).u (by unfold mEat mQ; omega)) (fun i hi => by rw [uM_diff (by omega), y2 438 i (by unfold mV; omega)]; exact a2 i hi) (by rw [uM_diff (by omega), e437]; exact a3) (by rw [uM_diff (by omega), e437]; exact a4) (fun j hj => by
        by_cases w : j = k
        · rw [w, uM_same]
        · rw [uM_diff (by omega), e437]; exact a5 j (by omega))
      refine ⟨N', ?_, z2⟩
      rw [← z1]
      show B_Mod_eatsDish_23 (nI g) (nI d) (H_Mod_eatsDish_23 (nI g) (nI d) (f + 1 + s)) (nI k) N = _
      generalize H_Mod_eatsDish_23 (nI g) (nI d) (f + 1 + s) = H
      unfold B_Mod_eatsDish_23
      rw [hN.l18, show (5 : Int32) = nI 5 from rfl, show (3 : Int32) = nI 3 from rfl, show (19 : Int32) = nI 19 from rfl, nI_mul, nI_add, nI_mul, nI_add, nI_add, if_neg (by rw [nI_leI (by omega) (by omega)]; omega), if_neg (nI_in (by omega) (by omega)), nI_clamp (by omega), y1, bI2_s, if_neg (nI_in (by omega) (by omega)), nI_clamp (by omega), nmM_e, nmI_e, nI_1]
  obtain ⟨q, hq⟩ := FU_k (1 + 3) (by omega)
  obtain ⟨N', z1, z2, z3, z4, z5⟩ := key 3 0 q A (by omega) fA pA rA rB (fun j hj => absurd hj (Nat.not_lt_zero _))
  refine ⟨N', ?_, z2, z3, z4, z5⟩
  rw [hq, ← Nat.add_assoc]
  exact z1
/-- the row at day i, the last meal (c - 1) at day m, or none -/
def RsMn (M : gM) (lv nf g day : Nat) (r : Nat → Int32) (i m c : Nat) (N : gM) : Prop := N 437 35 = nI (day + i) ∧ (c = 0 → N 437 (15 + g) = r (15 + g) ∧ ∀ j, j < 3 → N 437 (19 + 3 * g + j) = r (19 + 3 * g + j)) ∧ (c ≠ 0 → N 437 (15 + g) = nI (day + m) ∧ ∀ j, j < 3 → N 437 (19 + 3 * g + j) = disS M lv nf (c - 1) none j (nI (day + m)))
theorem RsMn.frees (h : Lnd ld lv nf nd ng ne M) {N : gM} (mN : ∀ c j, 411 ≤ c → c ≤ 432 → N c j = M c j) {g day i m c : Nat} (hR : RsMn M lv nf g day r i m c N) (hr : r 35 = nI day) (hd : day + i < 2 ^ 31) (hm : m ≤ i) : frS N lv (fun j => bowS N lv (N 437) g j 0) ne = if c = 0 then fU M lv ne g r i else fF M lv nf ne g (c - 1) (day + m) (i - m) := by
  rw [frS_k mN]
  have hx : ∀ e, e < ne → ∃ x, x ≤ 2 ∧ M 421 (6 * lv + e) = nI x := fun e he => by
    obtain ⟨x, hx, -, ex⟩ := h.df he
    exact ⟨x, hx, ex⟩
  obtain ⟨r1, r2, r3⟩ := hR
  by_cases w : c = 0
  · obtain ⟨a1, a2⟩ := r2 w
    rw [if_pos w]
    unfold fU
    refine frS_b (ne := ne) (fun j hj => ?_) hx ne (Nat.le_refl _)
    show bowS N lv (N 437) g j 0 = bowS M lv r g j (nI i)
    rw [bowS_k mN]
    unfold bowS
    rw [a1, a2 j hj, r1, hr, Int32.add_zero, Int32.add_zero, ← nI_add, show nI day + nI i - r (15 + g) = nI day - r (15 + g) + nI i by rw [Int32.sub_eq_add_neg, Int32.sub_eq_add_neg, i_ac]]
  · obtain ⟨a1, a2⟩ := r3 w
    rw [if_neg w]
    unfold fF
    refine frS_b (ne := ne) (fun j hj => ?_) hx ne (Nat.le_refl _)
    show bowS N lv (N 437) g j 0 = bndS M lv g (nI j) (disS M lv nf (c - 1) none j (nI (day + m))) (nI (i - m)) (nI (day + m + (i - m)))
    rw [bowS_k mN]
    unfold bowS
    rw [a1, if_pos (nI_pos' (by omega)), a2 j hj, r1, Int32.add_zero, Int32.add_zero, nI_sub (by omega), show day + i - (day + m) = i - m by omega, show day + m + (i - m) = day + i by omega]
def mKMn (c j : Nat) : Prop := mQ c j ∧ ¬ (c = 401 ∧ j = 63)
/-- the model's meals of a way -/
theorem m_mealsBy (hL : Lnd ld lv nf nd ng ne Mb) (mb : ∀ c j, 411 ≤ c → c ≤ 432 → Mb c j = M c j) (hLM : Lnd ld lv nf nd ng ne M) (rb : ∀ k, k < 38 → Mb 436 k = r k) {g n t day w : Nat} (hg : g < ng) (hn : n ≤ 4) (ht : t < 64) (hr : r 35 = nI day) (hd : day + 4 < 2 ^ 31) (hw : w < p6 n) {N0 : gM} (e0 : Eo mQ Mb N0) : ∃ X, F_Mod_mealsBy (nI w) (nI g) (nI n) (nI t) N0 = some (oI (mls nd (okM (fun i => oks (fU M lv ne g r i) (nI t)) (fun z x y => oks (fF M lv nf ne g y (day + x) (z - x)) (nI t))) (dg n w) n 0 0 0 0), X) ∧ Eo mQ Mb X := by
  have h5 := hL.nd5
  have h4 := hL.ng4
  have h6 := hL.ne6
  have h1 := hL.l1
  have l6 := p6_4 n (by omega)
  generalize hok : okM (fun i => oks (fU M lv ne g r i) (nI t)) (fun z x y => oks (fF M lv nf ne g y (day + x) (z - x)) (nI t)) = ok
  have okv : ∀ i m c, ok i m c = oks (if c = 0 then fU M lv ne g r i else fF M lv nf ne g (c - 1) (day + m) (i - m)) (nI t) := fun i m c => by
    rw [← hok]
    unfold okM
    by_cases z : c = 0
    · rw [if_pos z, if_pos z]
    · rw [if_neg z, if_neg z]
  obtain ⟨Mc, w1, w2, _, w4⟩ := m_copies (hL.kQ e0)
  have ec := e0.tr w4
  have rc : ∀ i, i < 38 → Mc 437 i = r i := fun i hi => by rw [w2 i hi, e0 436 i (by unfold mQ; omega)]; exact rb i hi
  have key : ∀ (s i f m c cnt : Nat) (N : gM), i + s = n → m ≤ i → c ≤ nd → cnt ≤ i → Eo mQ Mb N → RsMn M lv nf g day r i m c N → ∃ X, H_Mod_mealsBy_10 (nI w) (nI g) (nI n) (nI t) (f + 1 + s) (nI cnt) (nI i) N = some (oI (mls nd ok (dg n w) s i m c cnt), X) ∧ Eo mQ Mb X := by
    intro s
    induction s with
    | zero =>
      intro i f m c cnt N hi hm hc hk eN hR
      obtain rfl : i = n := by omega
      refine ⟨N, ?_, eN⟩
      show B_Mod_mealsBy_10 (nI w) (nI g) (nI i) (nI t) (H_Mod_mealsBy_10 (nI w) (nI g) (nI i) (nI t) f) _ (nI i) N = _
      generalize H_Mod_mealsBy_10 (nI w) (nI g) (nI i) (nI t) f = H
      unfold B_Mod_mealsBy_10
      rw [if_pos (by rw [nI_leI (by omega) (by omega)]; omega)]
      rfl
    | succ s ih =>
      intro i f m c cnt N hi hm hc hk eN hR
      have hN := hL.kQ eN
      have mN : ∀ c j, 411 ≤ c → c ≤ 432 → N c j = M c j := fun c j a b => (mQ_M eN c j a b).trans (mb c j a b)
      have lp := p6_4 (n - 1 - i) (by omega)
      have pp := p6_pos (n - 1 - i)
      have ed : dg n w i = w / p6 (n - 1 - i) % 6 := by unfold dg dgk; rw [if_pos (by omega)]
      have wl : w / p6 (n - 1 - i) < 2 ^ 31 := Nat.lt_of_le_of_lt (Nat.div_le_self _ _) (by omega)
      have c5 := dg_5 n w i
      obtain ⟨x1, x2, _, x4, _⟩ := ch_n (dg n w i) (by omega) nd (by omega)
      -- one look at a day
      have look : ∀ (N : gM) (m c cnt : Nat), m ≤ i → c ≤ nd → cnt ≤ i + 1 → Eo mQ Mb N → RsMn M lv nf g day r i m c N → ∃ X, J_Mod_mealsBy_65 (H_Mod_mealsBy_10 (nI w) (nI g) (nI n) (nI t) (f + 1 + s)) (nI w) (nI g) (nI n) (nI t) (nI cnt) (nI i) N = some (oI (if ok i m c = true then mls nd ok (dg n w) s (i + 1) m c cnt else none), X) ∧ Eo mQ Mb X := fun N m c cnt hm hc hk eN hR => by
        have hN := hL.kQ eN
        have mN : ∀ c j, 411 ≤ c → c ≤ 432 → N c j = M c j := fun c j a b => (mQ_M eN c j a b).trans (mb c j a b)
        obtain ⟨Y, y1, y2⟩ := m_freeBits hN (g := g) (by omega)
        rw [hR.frees hLM mN hr (by omega) hm] at y1
        have eY := eN.tr (y2.mono mV_mQ)
        have e437 : ∀ k, Y 437 k = N 437 k := fun k => y2 437 k (by unfold mV; omega)
        have tst : (nI t &&& ((if c = 0 then fU M lv ne g r i else fF M lv nf ne g (c - 1) (day + m) (i - m)) ^^^ (-1)) = 0) ↔ ok i m c = true := by
          rw [okv]
          by_cases z : c = 0
          · rw [if_pos z]; exact frS_set h6 ht
          · rw [if_neg z]; exact frS_set h6 ht
        obtain ⟨X, z1, z2⟩ := ih (i + 1) f m c cnt (uM Y 437 35 (nI (day + i) + 1)) (by omega) (by omega) hc (by omega) (eY.u (by unfold mQ; omega)) ⟨by rw [uM_same, nI_1]; rfl, fun z => by
          rw [uM_diff (by omega), e437]
          exact ⟨(hR.2.1 z).1, fun j hj => by rw [uM_diff (by omega), e437]; exact (hR.2.1 z).2 j hj⟩, fun z => by
          rw [uM_diff (by omega), e437]
          exact ⟨(hR.2.2 z).1, fun j hj => by rw [uM_diff (by omega), e437]; exact (hR.2.2 z).2 j hj⟩⟩
        by_cases z : ok i m c = true
        · refine ⟨X, ?_, z2⟩
          rw [if_pos z, ← z1]
          unfold J_Mod_mealsBy_65
          rw [y1, bI2_s, if_pos (tst.mpr z), nmM_e, nmI_e, nI_1 i, e437, hR.1]
        · refine ⟨Y, ?_, eY⟩
          rw [if_neg z]
          unfold J_Mod_mealsBy_65
          rw [y1, bI2_s, if_neg (fun q => z (tst.mp q))]
          rfl
      have e1 : ∀ H, B_Mod_mealsBy_10 (nI w) (nI g) (nI n) (nI t) H (nI cnt) (nI i) N = (if dg n w i ≤ nd then (if dg n w i = 0 then J_Mod_mealsBy_65 H (nI w) (nI g) (nI n) (nI t) (nI cnt) (nI i) N else bI (F_Mod_eatsDish (nI g) (nI (dg n w i - 1)) N) (fun M18 => J_Mod_mealsBy_65 H (nI w) (nI g) (nI n) (nI t) (nI (cnt + 1)) (nI i) M18)) else some (-1, N)) := fun H => by
        have e6 : nI w / nI (p6 (n - 1 - i)) - nI w / nI (p6 (n - 1 - i)) / 6 * 6 = nI (dg n w i) := by
          rw [ed, pk_div (by omega) pp (by omega), show (6 : Int32) = nI 6 from rfl, pk_rem wl (by decide) (by decide)]
        unfold B_Mod_mealsBy_10
        rw [if_neg (by rw [nI_leI (by omega) (by omega)]; omega), show nI n - 1 - nI i = nI (n - 1 - i) by rw [show (1 : Int32) = nI 1 from rfl, nI_sub (by omega), nI_sub (by omega)], m_sixes (by omega), bI_s, if_neg (nI_ne0 pp (by omega)), e6, nmI_e, hN.l18, if_neg (nI_in (by omega) (by omega)), nI_clamp (by omega), hN.md]
        by_cases z : dg n w i ≤ nd
        · rw [if_pos z, if_pos (x1.mpr z)]
          by_cases y : dg n w i = 0
          · rw [if_pos y, if_pos (x2.mpr y)]
          · rw [if_neg y, if_neg (fun q => y (x2.mp q)), x4 y]
            simp only [nmI_e, nI_1]
        · rw [if_neg z, if_neg (fun q => z (x1.mp q))]
      show ∃ X, B_Mod_mealsBy_10 (nI w) (nI g) (nI n) (nI t) (H_Mod_mealsBy_10 (nI w) (nI g) (nI n) (nI t) (f + 1 + s)) (nI cnt) (nI i) N = some (oI (if nd < dg n w i then none else if dg n w i = 0 then (if ok i m c = true then mls nd ok (dg n w) s (i + 1) m c cnt else none) else (if ok i i (dg n w i) = true then mls nd ok (dg n w) s (i + 1) i (dg n w i) (cnt + 1) else none)), X) ∧ Eo mQ Mb X
      rw [e1]
      by_cases z : dg n w i ≤ nd
      rotate_left
      · rw [if_neg z, if_pos (show nd < dg n w i by omega)]
        exact ⟨N, rfl, eN⟩
      rw [if_pos z, if_neg (show ¬ nd < dg n w i by omega)]
      by_cases y : dg n w i = 0
      · rw [if_pos y, if_pos y]
        exact look N m c cnt hm hc (by omega) eN hR
      rw [if_neg y, if_neg y]
      obtain ⟨Y, y1, y2, y3, y4, y5⟩ := m_eatsDishR hN (g := g) (d := dg n w i - 1) (by omega) (by omega)
      rw [y1, bI_s]
      exact look Y i (dg n w i) (cnt + 1) (Nat.le_refl _) z (by omega) (eN.tr (y2.mono mEat_mQ)) ⟨y3.trans hR.1, fun q => absurd q y, fun _ => ⟨y4.trans hR.1, fun j hj => by rw [y5 j hj, hR.1, disS_k mN]⟩⟩
  unfold F_Mod_mealsBy
  rw [w1, bI_s]
  obtain ⟨f, hf⟩ := FU_k (1 + n) (by omega)
  rw [hf, ← Nat.add_assoc]
  exact key n 0 f 0 0 0 Mc (by omega) (Nat.le_refl _) (Nat.zero_le _) (Nat.le_refl _) ec ⟨(rc 35 (by omega)).trans hr, fun _ => ⟨rc _ (by omega), fun j hj => rc _ (by omega)⟩, fun z => absurd rfl z⟩
/-- the answer to a menu found -/
def mnS (n : Nat) (o : Option (Nat × Nat)) (x : Option Nat) : Int32 := match o, x with
  | none, none => -2
  | none, some _ => -3
  | some (_, l), none => nI l
  | some (b, _), some i => if dg n b i = 0 then -2 else nI (dg n b i - 1)
def MmMn (o : Option (Nat × Nat)) (v5 v6 : Int32) : Prop := match o with
  | none => v5 = -1
  | some (b, l) => v5 = nI b ∧ v6 = nI l ∧ l ≤ 4
def xI (o : Option Nat) : Int32 := match o with
  | none => -1
  | some i => nI i
theorem m_menuEnd {n : Nat} (hn1 : 1 ≤ n) (hn : n ≤ 4) {g v3 v5 v6 : Int32} {x : Option Nat} (hx : ∀ i, x = some i → i < n) {o : Option (Nat × Nat)} (ho : ∀ b l, o = some (b, l) → b < p6 n) (hM : MmMn o v5 v6) {N : gM} : J_Mod_menu_115 (nI n) (xI x) v5 v6 N = some (mnS n o x, N) := by
  have l6 := p6_4 n (by omega)
  unfold J_Mod_menu_115
  match o, ho, hM with
  | none, _, h =>
    rw [show v5 = -1 from h, if_neg (by decide)]
    match x, hx with
    | none, _ => rw [if_pos (show xI none = -1 from rfl)]; rfl
    | some i, hx =>
      have := hx i rfl
      rw [if_neg (show ¬ xI (some i) = -1 from fun z => nI_pos (n := i) (by omega) (by rw [show nI i = -1 from z]; decide))]
      rfl
  | some (b, l), ho, h =>
    have hb := ho b l rfl
    rw [h.1, if_pos (nI_pos' (by omega))]
    match x, hx with
    | none, _ => rw [if_pos (show xI none = -1 from rfl), h.2.1]; rfl
    | some i, hx =>
      have hi := hx i rfl
      have lp := p6_4 (n - 1 - i) (by omega)
      have pp := p6_pos (n - 1 - i)
      have ed : dg n b i = b / p6 (n - 1 - i) % 6 := by unfold dg dgk; rw [if_pos (by omega)]
      have wl : b / p6 (n - 1 - i) < 2 ^ 31 := Nat.lt_of_le_of_lt (Nat.div_le_self _ _) (by omega)
      have c5 := dg_5 n b i
      obtain ⟨_, x2, x3, x4, _⟩ := ch_n (dg n b i) (by omega) 5 (by omega)
      have e6 : nI b / nI (p6 (n - 1 - i)) - nI b / nI (p6 (n - 1 - i)) / 6 * 6 = nI (dg n b i) := by
        rw [ed, pk_div (by omega) pp (by omega), show (6 : Int32) = nI 6 from rfl, pk_rem wl (by decide) (by decide)]
      rw [if_neg (show ¬ xI (some i) = -1 from fun z => nI_pos (n := i) (by omega) (by rw [show nI i = -1 from z]; decide)), show nI n - 1 - xI (some i) = nI (n - 1 - i) by show nI n - 1 - nI i = _; rw [show (1 : Int32) = nI 1 from rfl, nI_sub (by omega), nI_sub (by omega)], m_sixes (by omega), bI_s, if_neg (nI_ne0 pp (by omega)), e6, nmI_e]
      show _ = some (if dg n b i = 0 then -2 else nI (dg n b i - 1), N)
      by_cases z : dg n b i = 0
      · rw [if_pos z, if_neg (fun q => x3.mp q z)]
      · rw [if_neg z, if_pos (x3.mpr z), x4 z]
theorem bsW_lt {v : Nat → Option Nat} : ∀ w b l, bsW v w = some (b, l) → b < w
  | 0, _, _, h => by cases h
  | w + 1, b, l, h => by
    cases hq : v w with
    | none =>
      rw [bsW_none hq] at h
      have := bsW_lt w b l h
      omega
    | some m =>
      cases hb : bsW v w with
      | none =>
        rw [bsW_first hq hb] at h
        have := (Prod.mk.inj (Option.some.inj h)).1
        omega
      | some p =>
        obtain ⟨b', l'⟩ := p
        rw [bsW_some hq hb] at h
        by_cases z : m < l'
        · rw [if_pos z] at h
          have := (Prod.mk.inj (Option.some.inj h)).1
          omega
        · rw [if_neg z] at h
          have := (Prod.mk.inj (Option.some.inj h)).1
          have := bsW_lt w b' l' hb
          omega
/-- the model's menu -/
theorem m_menu (hL : Lnd ld lv nf nd ng ne Mb) (mb : ∀ c j, 411 ≤ c → c ≤ 432 → Mb c j = M c j) (hLM : Lnd ld lv nf nd ng ne M) (rb : ∀ k, k < 38 → Mb 436 k = r k) {g n t day : Nat} (hg : g < ng) (hn1 : 1 ≤ n) (hn : n ≤ 4) (ht : t < 64) (hr : r 35 = nI day) (hd : day + 4 < 2 ^ 31) {x : Option Nat} (hx : ∀ i, x = some i → i < n) {v : Nat → Option Nat} (hv : v = fun w => mls nd (okM (fun i => oks (fU M lv ne g r i) (nI t)) (fun z x y => oks (fF M lv nf ne g y (day + x) (z - x)) (nI t))) (dg n w) n 0 0 0 0) : ∀ (s w f : Nat) (v5 v6 : Int32) (N : gM), w + s = p6 n → Eo mQ Mb N → MmMn (bsW v w) v5 v6 → ∃ X, H_Mod_menu_61 (nI g) (nI n) (nI t) (xI x) (f + 1 + s) v5 v6 (nI w) N = some (mnS n (bsW v (p6 n)) x, X) := by
  have l6 := p6_4 n (by omega)
  intro s
  induction s with
  | zero =>
    intro w f v5 v6 N hw eN hM
    obtain rfl : w = p6 n := by omega
    refine ⟨N, ?_⟩
    show B_Mod_menu_61 (nI g) (nI n) (nI t) (xI x) (H_Mod_menu_61 (nI g) (nI n) (nI t) (xI x) f) v5 v6 (nI (p6 n)) N = _
    generalize H_Mod_menu_61 (nI g) (nI n) (nI t) (xI x) f = H
    unfold B_Mod_menu_61
    rw [m_sixes (by omega), bI_s, if_pos (by rw [nI_leI (by omega) (by omega)]; omega)]
    exact m_menuEnd hn1 hn (g := nI g) (v3 := 0) hx (fun b l h => bsW_lt _ b l h) hM
  | succ s ih =>
    intro w f v5 v6 N hw eN hM
    obtain ⟨X, y1, y2⟩ := m_mealsBy hL mb hLM rb hg hn ht hr hd (w := w) (by omega) eN
    have ev : mls nd (okM (fun i => oks (fU M lv ne g r i) (nI t)) (fun z x y => oks (fF M lv nf ne g y (day + x) (z - x)) (nI t))) (dg n w) n 0 0 0 0 = v w := by rw [hv]
    rw [ev] at y1
    have h1 := fun v5 v6 => ih (w + 1) f v5 v6 X (by omega) y2
    show ∃ X, B_Mod_menu_61 (nI g) (nI n) (nI t) (xI x) (H_Mod_menu_61 (nI g) (nI n) (nI t) (xI x) (f + 1 + s)) v5 v6 (nI w) N = _
    generalize H_Mod_menu_61 (nI g) (nI n) (nI t) (xI x) (f + 1 + s) = H at h1 ⊢
    unfold B_Mod_menu_61 J_Mod_menu_101 J_Mod_menu_109
    rw [m_sixes (by omega), bI_s, if_neg (by rw [nI_leI (by omega) (by omega)]; omega), y1, bI2_s, nmI_e, nmI_e, nI_1]
    cases hq : v w with
    | none =>
      rw [if_pos (show oI none < 0 by decide)]
      exact h1 v5 v6 (by rw [bsW_none hq]; exact hM)
    | some m =>
      have hm4 : m ≤ 4 := by
        have := mls_le n 0 0 0 0 m (ev.trans hq)
        omega
      rw [if_neg (show ¬ oI (some m) < 0 from nI_pos (by omega))]
      cases hb : bsW v w with
      | none =>
        rw [hb] at hM
        rw [show v5 = -1 from hM, if_pos (by decide)]
        exact h1 (nI w) (nI m) (by rw [bsW_first hq hb]; exact ⟨rfl, rfl, hm4⟩)
      | some p =>
        obtain ⟨b, l⟩ := p
        have hbl := bsW_lt w b l hb
        rw [hb] at hM
        obtain ⟨m1, m2, m3⟩ := hM
        rw [m1, if_neg (nI_pos (by omega)), m2]
        by_cases z : m < l
        · rw [if_pos (show oI (some m) < nI l by show nI m < nI l; rw [nI_ltI (by omega) (by omega)]; exact z)]
          exact h1 (nI w) (nI m) (by rw [bsW_some hq hb, if_pos z]; exact ⟨rfl, rfl, hm4⟩)
        · rw [if_neg (show ¬ oI (some m) < nI l by show ¬ nI m < nI l; rw [nI_ltI (by omega) (by omega)]; exact z)]
          exact h1 (nI b) (nI l) (by rw [bsW_some hq hb, if_neg z]; exact ⟨rfl, rfl, m3⟩)
theorem in_14 (p : Int32) : (F_Mod_in p 1 4 = some 0 ∧ (p < 1 ∨ 4 < p)) ∨ ∃ n, 1 ≤ n ∧ n ≤ 4 ∧ p = nI n ∧ F_Mod_in p 1 4 = some 1 := by
  unfold F_Mod_in
  by_cases a : p < 1
  · rw [if_pos a]; exact Or.inl ⟨rfl, Or.inl a⟩
  by_cases b : 4 < p
  · rw [if_neg a, if_pos b]; exact Or.inl ⟨rfl, Or.inr b⟩
  rw [if_neg a, if_neg b]
  have a' : ¬ p < 0 := fun z => a (Int32.lt_of_lt_of_le z (by decide))
  obtain ⟨n, hn, rfl⟩ := nI_of a'
  refine Or.inr ⟨n, ?_, ?_, rfl, rfl⟩
  · rw [show (1 : Int32) = nI 1 from rfl, nI_ltI hn (by omega)] at a; omega
  · rw [show (4 : Int32) = nI 4 from rfl, nI_ltI (by omega) hn] at b; omega
theorem in_m1 (p : Int32) {n : Nat} (hn1 : 1 ≤ n) (hn : n ≤ 4) : (F_Mod_in p (-1) (nI n - 1) = some 0 ∧ (p < -1 ∨ (¬ p < -1 ∧ ¬ p < nI n))) ∨ ∃ x : Option Nat, p = xI x ∧ (∀ i, x = some i → i < n) ∧ F_Mod_in p (-1) (nI n - 1) = some 1 ∧ ¬ p < -1 ∧ p < nI n := by
  have e1 : (nI n - 1) = nI (n - 1) := by rw [show (1 : Int32) = nI 1 from rfl, nI_sub hn1]
  rw [e1]
  unfold F_Mod_in
  by_cases a : p < -1
  · rw [if_pos a]; exact Or.inl ⟨rfl, Or.inl a⟩
  rw [if_neg a]
  by_cases c : p < 0
  · have e : p = -1 := by
      have h1 : ¬ p.toInt < (-1 : Int32).toInt := fun z => a (i_lt.mpr z)
      have h2 := i_lt.mp c
      refine Int32.toInt_inj.mp ?_
      have h3 : (-1 : Int32).toInt = -1 := by decide
      have h4 : (0 : Int32).toInt = 0 := by decide
      omega
    refine Or.inr ⟨none, e, fun i z => (nomatch z), ?_, a, ?_⟩
    · rw [e, if_neg (fun z => nI_pos (n := n - 1) (by omega) (Int32.lt_trans z (by decide : (-1 : Int32) < 0)))]
    · rw [e]; exact Int32.lt_of_lt_of_le (show (-1 : Int32) < 0 by decide) (nI_pos' (by omega))
  · obtain ⟨i, hi, rfl⟩ := nI_of c
    by_cases b : i < n
    · refine Or.inr ⟨some i, rfl, fun j z => by rw [← Option.some.inj z]; exact b, ?_, a, by rw [nI_ltI hi (by omega)]; exact b⟩
      rw [if_neg (by rw [nI_ltI (by omega) hi]; omega)]
    · refine Or.inl ⟨?_, Or.inr ⟨a, by rw [nI_ltI hi (by omega)]; exact b⟩⟩
      rw [if_pos (by rw [nI_ltI (by omega) hi]; omega)]
theorem c_menuEnd {n : Nat} (hn : n ≤ 4) {x : Option Nat} (hx : ∀ i, x = some i → i < n) {o : Option (Nat × Nat)} {X : gM} (z2 : CstMn n o X) : (if (if o = none then (0 : Int32) else 1) = 0 then (if xI x = (-1) then some ((-2 : Int32), X) else some ((-3), X)) else (if xI x = (-1) then some ((X 396 4), X) else bI (F_Main_at 400 4 (xI x) X) (fun r17 => (if r17 = 0 then some ((-2), X) else some ((r17 - 1), X))))) = some (mnS n o x, X) := by
  have ni : ∀ i, i < n → ¬ xI (some i) = -1 := fun i hi z => nI_pos (n := i) (by omega) (by rw [show nI i = -1 from z]; decide)
  cases o with
  | none =>
    rw [if_pos rfl, if_pos rfl]
    cases x with
    | none => rw [if_pos (show xI none = -1 from rfl)]; rfl
    | some i => rw [if_neg (ni i (hx i rfl))]; rfl
  | some p =>
    obtain ⟨b, l⟩ := p
    rw [if_neg (show ¬ (some (b, l) = (none : Option (Nat × Nat))) from fun z => nomatch z), if_neg (show ¬ (1 : Int32) = 0 by decide)]
    cases x with
    | none => rw [if_pos (show xI none = -1 from rfl), z2.1]; rfl
    | some i =>
      have hi := hx i rfl
      have c5 := dg_5 n b i
      obtain ⟨_, _, _, x4, x5⟩ := ch_n (dg n b i) (by omega) 5 (by omega)
      rw [if_neg (ni i hi), show F_Main_at 400 4 (xI (some i)) X = some (X 400 i) from s_at (i := i) (by omega) (by decide), bI_s, z2.2.2 i (by omega)]
      show (if nI (dg n b i) = 0 then some ((-2 : Int32), X) else some (nI (dg n b i) - 1, X)) = some (if dg n b i = 0 then -2 else nI (dg n b i - 1), X)
      by_cases z : dg n b i = 0
      · rw [if_pos z, if_pos (x5.mpr z)]
      · rw [if_neg z, if_neg (fun q => z (x5.mp q)), x4 z]
theorem v_menu (h : G1 q ld M L) (hq : q < 512) (a b c d : Int32) : ∃ r M1 r' M2, F_Main_menu ld a b c d M = some (r, M1) ∧ F_Mod_menu a b c d M1 = some (r', M2) ∧ G1 (q + 1) ld M2 L ∧ r = r' := by
  obtain ⟨r, M1, e1, -, k1⟩ := tf_Main_menu (p1 := a) (p2 := b) (p3 := c) (p4 := d) (M := M) h.1.la
  have g1 := h.1.kC1 k1
  obtain ⟨r', M2, e2, -, k2⟩ := tf_Mod_menu (p0 := a) (p1 := b) (p2 := c) (p3 := d) g1.inv
  refine ⟨r, M1, r', M2, e1, e2, h.q2 (g1.kM1 k2) k1 k2, ?_⟩
  obtain ⟨lv, nf, nd, ng, ne, hL, hS⟩ := h.get
  obtain ⟨hL1, m1, _⟩ := cop hL k1
  have h5 := hL.nd5
  have h6 := hL.ne6
  have h1 := hL.l1
  unfold F_Main_menu at e1
  unfold F_Mod_menu at e2
  rw [hL.cg, hL.ce] at e1
  rcases m_isGuest hL1 a with ⟨d1, d2⟩ | ⟨g, hg, rfl, d1, d2⟩
  · rw [d1, bI_s, if_pos rfl] at e1
    rw [d2, bI_s, if_pos rfl] at e2
    exact pair_fin e1 e2 rfl
  rw [d1, bI_s, if_neg (by decide)] at e1
  rw [d2, bI_s, if_neg (by decide)] at e2
  rcases in_14 b with ⟨d1, d2⟩ | ⟨n, hn1, hn, rfl, d1⟩
  · rw [d1, bI_s, if_pos rfl] at e2
    rcases d2 with d2 | d2
    · rw [if_pos d2] at e1
      exact pair_fin e1 e2 rfl
    · by_cases z : b < 1
      · rw [if_pos z] at e1
        exact pair_fin e1 e2 rfl
      · rw [if_neg z, if_pos d2] at e1
        exact pair_fin e1 e2 rfl
  obtain ⟨s1, s2⟩ := sh_n ne (by omega)
  rw [d1, bI_s, if_neg (by decide), hL1.l18, if_neg (nI_in (by omega) (by omega)), nI_clamp (by omega), hL1.me, s1] at e2
  rw [if_neg (by rw [show (1 : Int32) = nI 1 from rfl, nI_ltI (by omega) (by omega)]; omega), if_neg (by rw [show (4 : Int32) = nI 4 from rfl, nI_ltI (by omega) (by omega)]; omega), s1] at e1
  rcases one_c2 c (n := 2 ^ ne) (by omega) with ⟨d1, d2⟩ | ⟨t, ht, rfl, d1, d2⟩
  · rw [d1, bI_s, if_pos rfl] at e1
    rw [d2, bI_s, if_pos rfl] at e2
    exact pair_fin e1 e2 rfl
  rw [d1, bI_s, if_neg (by decide)] at e1
  rw [d2, bI_s, if_neg (by decide)] at e2
  rcases in_m1 d hn1 hn with ⟨d1, d2⟩ | ⟨x, rfl, hx, d1, d2, d3⟩
  · rw [d1, bI_s, if_pos rfl] at e2
    rcases d2 with d2 | ⟨d2, d3⟩
    · rw [if_pos d2] at e1
      exact pair_fin e1 e2 rfl
    · rw [if_neg d2, if_neg d3] at e1
      exact pair_fin e1 e2 rfl
  rw [d1, bI_s, if_neg (by decide)] at e2
  rw [if_neg d2, if_pos d3] at e1
  obtain ⟨⟨day, y1, y2, y3, _⟩, _⟩ := id hS.1
  obtain ⟨X, z1, z2⟩ := c_menu hL hS.1 (by omega) (by omega) (t := t) hg hn1 hn y2
  generalize hv : (fun w => mls nd (okM (fun i => oks (fU M lv ne g (M 436) i) (nI t)) (fun z x y => oks (fF M lv nf ne g y (day + x) (z - x)) (nI t))) (dg n w) n 0 0 0 0) = v at z1 z2
  have l6 := p6_4 n (by omega)
  obtain ⟨f, hf⟩ := FU_k (1 + p6 n) (by omega)
  obtain ⟨Y, w1⟩ := m_menu (M := M) hL1 (fun c j p _ => m1 c j (by omega)) hL (r := M 436) (fun k _ => m1 436 k (by omega)) (t := t) hg hn1 hn (by omega) y3 (by omega) hx hv.symm (p6 n) 0 f (-1) 0 M1 (Nat.zero_add _) Eo.rf rfl
  have c2 : H_Mod_menu_61 (nI g) (nI n) (nI t) (xI x) FU (-1) 0 0 M1 = some (mnS n (bsW v (p6 n)) x, Y) := by rw [hf, ← Nat.add_assoc]; exact w1
  rw [c2] at e2
  rw [z1, bI2_s] at e1
  rw [c_menuEnd hn hx z2] at e1
  exact pair_fin e1 e2 rfl
end MM
end PAR56
end MG17x3
section MG17x4
/-! a law that doesn't look at the heat -/
section PAR57
/-- two answers that differ in memory alone, and there at S -/
def RO (S : Nat → Nat → Prop) (o o' : Option (Int32 × gM)) : Prop := match o, o' with
  | none, none => True
  | some (r, X), some (r', X') => r = r' ∧ Eo S X X'
  | _, _ => False
theorem RO.ite {S : Nat → Nat → Prop} {c : Prop} [Decidable c] {a a' b b' : Option (Int32 × gM)} (h1 : c → RO S a a') (h2 : ¬ c → RO S b b') : RO S (if c then a else b) (if c then a' else b') := by
  by_cases w : c
  · rw [if_pos w, if_pos w]; exact h1 w
  · rw [if_neg w, if_neg w]; exact h2 w
theorem RO.bI {S : Nat → Nat → Prop} {o : Option Int32} {f g : Int32 → Option (Int32 × gM)} (h : ∀ x, o = some x → RO S (f x) (g x)) : RO S (bI o f) (bI o g) := by
  cases o with
  | none => exact trivial
  | some x => exact h x rfl
theorem RO.some {S : Nat → Nat → Prop} {r : Int32} {X X' : gM} (h : Eo S X X') : RO S (some (r, X)) (some (r, X')) := ⟨rfl, h⟩
theorem Eo.uu {S : Nat → Nat → Prop} {M M' : gM} {a i : Nat} {x : Int32} (h : Eo S M M') : Eo S (uM M a i x) (uM M' a i x) := fun c j w => by
  rw [uM_at, uM_at]
  by_cases z : c = a ∧ j = i
  · rw [if_pos z, if_pos z]
  · rw [if_neg z, if_neg z]; exact h c j w
section HT
variable {W : Nat}
/-- the place of the heat -/
def pH (W c j : Nat) : Prop := c = W + 2 ∧ j = 1
theorem at_H {N N' : gM} (e : Eo (pH W) N N') {a n : Nat} {p : Int32} (ha : a = W + 2 → p ≠ 1) : F_Main_at a n p N' = F_Main_at a n p N := by
  unfold F_Main_at
  by_cases h0 : p < 0
  · rw [if_pos h0, if_pos h0]
  rw [if_neg h0, if_neg h0]
  obtain ⟨i, hi, rfl⟩ := nI_of h0
  rw [nI_clamp hi]
  have : N' a i = N a i := e a i (fun z => ha z.1 (by rw [z.2]; rfl))
  rw [this]
theorem RO_204 {M0 N N' : gM} {H : Int32 → Int32 → Int32 → gM → Option (Int32 × gM)} {v1 v2 v3 v4 v5 v6 : Int32} (ih : ∀ x (A B : gM), (∀ c j, c = W ∨ c = W + 1 → A c j = M0 c j) → Eo (pH W) A B → RO (pH W) (H x v2 (v3 + 1) A) (H x v2 (v3 + 1) B)) (k : ∀ c j, c = W ∨ c = W + 1 → N c j = M0 c j) (e : Eo (pH W) N N') : RO (pH W) (J_Law_value_204 W H v1 v2 v3 v4 v5 v6 N) (J_Law_value_204 W H v1 v2 v3 v4 v5 v6 N') := by
  unfold J_Law_value_204
  cases F_Law_reckon (v4 - 20000) v5 v6 with
  | none => exact trivial
  | some r =>
    rw [bI_s, bI_s]
    by_cases w : v1 < 0 ∨ 32 ≤ v1.toNatClampNeg
    · rw [if_pos w, if_pos w]; exact trivial
    · rw [if_neg w, if_neg w]
      exact ih _ _ _ (fun c j z => by rw [uM_diff (by omega)]; exact k c j z) e.uu
theorem val_H {M0 : gM} (hc : ∀ i, i < 400 → ¬ M0 W 1 ≤ nI i → M0 (W + 1) i ≠ 10001) : ∀ (f : Nat) (v1 v2 v3 : Int32) (N N' : gM), (∀ c j, c = W ∨ c = W + 1 → N c j = M0 c j) → Eo (pH W) N N' → RO (pH W) (H_Law_value_6 W f v1 v2 v3 N) (H_Law_value_6 W f v1 v2 v3 N') := by
  intro f
  induction f with
  | zero => intro _ _ _ _ _ _ _; exact trivial
  | succ f ih =>
    intro v1 v2 v3 N N' k e
    have eW : ∀ j, N' W j = N W j := fun j => e W j (fun z => by have := z.1; omega)
    have eC : ∀ j, N' (W + 1) j = N (W + 1) j := fun j => e (W + 1) j (fun z => by have := z.1; omega)
    have eS : ∀ j, N' (W + 3) j = N (W + 3) j := fun j => e (W + 3) j (fun z => by have := z.1; omega)
    show RO (pH W) (B_Law_value_6 W (H_Law_value_6 W f) v1 v2 v3 N) (B_Law_value_6 W (H_Law_value_6 W f) v1 v2 v3 N')
    generalize H_Law_value_6 W f = H at ih ⊢
    have ask : ∀ {a n : Nat} {p : Int32} {g : Int32 → gM → Option (Int32 × gM)}, (a = W + 2 → p ≠ 1) → (∀ r, RO (pH W) (g r N) (g r N')) → RO (pH W) (bI (F_Main_at a n p N) (fun r => g r N)) (bI (F_Main_at a n p N') (fun r => g r N')) := fun {a n p g} ha hg => by
      rw [at_H e ha]
      exact RO.bI (fun r _ => hg r)
    have s232 : RO (pH W) (J_Law_value_232 W N) (J_Law_value_232 W N') := by
      unfold J_Law_value_232
      rw [at_H e (by omega)]
      exact RO.bI (fun r _ => RO.some e)
    unfold B_Law_value_6
    rw [eW 1]
    refine RO.ite (fun _ => s232) (fun _ => RO.ite (fun _ => s232) (fun h2 => RO.ite (fun _ => s232) (fun h3 => RO.ite (fun _ => s232) (fun h4 => RO.ite (fun _ => trivial) (fun h5 => ?_)))))
    obtain ⟨i, hi, rfl⟩ := nI_of h2
    have i4 : i < 400 := by
      rw [show (400 : Int32) = nI 400 from rfl, nI_leI (by omega) hi] at h4
      omega
    rw [nI_clamp hi, eC i]
    have hx : N (W + 1) i ≠ 10001 := by
      rw [k (W + 1) i (Or.inr rfl)]
      exact hc i i4 (by rw [← k W 1 (Or.inl rfl)]; exact h3)
    rw [nmI_e, nmI_e, nmI_e, nmI_e]
    generalize N (W + 1) i = x8 at hx ⊢
    refine RO.ite (fun _ => s232) (fun _ => RO.ite (fun _ => RO.ite (fun _ => RO.some e) (fun _ => RO.ite (fun _ => RO.ite (fun _ => trivial) (fun _ => ?_)) (fun _ => RO.some e))) (fun _ => RO.ite (fun _ => RO.some e) (fun _ => RO.ite (fun _ => ?_) (fun _ => RO.some e))))
    · rw [nmI_e, nmI_e, eS, eS]
      refine RO.ite (fun _ => trivial) (fun _ => ?_)
      repeat rw [nmI_e]
      generalize N (W + 3) (v1 - 2).toNatClampNeg = x15
      generalize N (W + 3) (v1 - 1).toNatClampNeg = x17
      refine RO.ite (fun _ => RO.ite (fun _ => ?_) (fun _ => ?_)) (fun _ => RO.ite (fun _ => RO.ite (fun _ => RO.some e) (fun _ => ?_)) (fun _ => ?_))
      · exact ask (a := W + 1) (n := 400) (p := nI i + 1) (g := fun r30 N => J_Law_value_185 W H (v1 + -2) v3 r30 N) (by omega) (fun r => ih _ _ _ N N' k e)
      · exact ih _ _ _ N N' k e
      · exact RO_204 (fun x A B a b => ih _ _ _ A B a b) k e
      · exact RO_204 (fun x A B a b => ih _ _ _ A B a b) k e
    · refine RO.ite (fun _ => ?_) (fun _ => ?_)
      · exact ask (a := W + 2) (n := 9) (p := x8 - 10000) (g := fun r35 N => J_Law_value_110 W H v1 (nI i + 1) v3 v1 r35 N) (fun _ z => hx (by
          have : x8 = 1 + 10000 := by rw [← z, Int32.sub_add_cancel]
          rw [this]; decide)) (fun r => RO.ite (fun _ => trivial) (fun _ => ih _ _ _ _ _ (fun c j z => by rw [uM_diff (by omega)]; exact k c j z) e.uu))
      · exact RO.ite (fun _ => trivial) (fun _ => ih _ _ _ _ _ (fun c j z => by rw [uM_diff (by omega)]; exact k c j z) e.uu)
/-- what is not looked at is not there -/
theorem look_0 {M : gM} (h : F_Law_looksAt W 1 M = some 0) : ∀ i, i < 400 → ¬ M W 1 ≤ nI i → M (W + 1) i ≠ 10001 := by
  have key : ∀ (s k f : Nat), k + s = 400 → H_Law_looksAt_2 W 1 M (f + 1 + s) (nI k) = some 0 → ∀ i, k ≤ i → i < 400 → ¬ M W 1 ≤ nI i → M (W + 1) i ≠ 10001 := by
    intro s
    induction s with
    | zero => intro k f hk _ i a b; omega
    | succ s ih =>
      intro k f hk h i a b c
      have h' : B_Law_looksAt_2 W 1 M (H_Law_looksAt_2 W 1 M (f + 1 + s)) (nI k) = some 0 := h
      have ih' := ih (k + 1) f (by omega)
      generalize H_Law_looksAt_2 W 1 M (f + 1 + s) = H at h' ih'
      unfold B_Law_looksAt_2 at h'
      by_cases w : M W 1 ≤ nI k
      · exfalso
        refine c ?_
        rw [i_le] at w ⊢
        rw [nI_toInt (by omega)] at w ⊢
        omega
      rw [if_neg w, if_neg (by rw [show (400 : Int32) = nI 400 from rfl, nI_leI (by omega) (by omega)]; omega), if_neg (nI_in (by omega) (by omega)), nI_clamp (by omega), nmI_e, nI_1] at h'
      by_cases z : M (W + 1) k = 10000 + 1
      · rw [if_pos z] at h'
        exact absurd (Option.some.inj h') (by decide)
      rw [if_neg z] at h'
      by_cases y : i = k
      · rw [y]
        exact fun q => z (q.trans (by decide))
      · exact ih' h' i (by omega) b c
  unfold F_Law_looksAt at h
  obtain ⟨g, hg⟩ := FU_k (1 + 400) (by omega)
  rw [hg, ← Nat.add_assoc] at h
  exact fun i hi => key 400 0 g (by omega) h i (Nat.zero_le _) hi
end HT
section HL
variable {ld lv nf nd ng ne : Nat} {M : gM}
theorem potS_heat (hL : Lnd ld lv nf nd ng ne M) (h0 : F_Law_looksAt (ld + 9) 1 M = some 0) (kind sum h h' many day : Int32) : potS M lv kind sum h' many day = potS M lv kind sum h many day := by
  obtain ⟨X, x1, _⟩ := c_potForce hL (kind := kind) (sum := sum) (heat := h) (many := many) (day := day)
  obtain ⟨Y, y1, _⟩ := c_potForce hL (kind := kind) (sum := sum) (heat := h') (many := many) (day := day)
  have hl := look_0 h0
  unfold F_Land_potForce at x1 y1
  cases q : F_Law_isTold (ld + 9) M with
  | none => rw [q] at x1; cases x1
  | some r2 =>
    rw [q, bI_s] at x1 y1
    by_cases w : r2 = 0
    · rw [if_pos w] at x1 y1
      exact (Prod.mk.inj (Option.some.inj (y1.symm.trans x1))).1
    rw [if_neg w, show F_Law_let (ld + 9) 0 sum M = some (uM M (ld + 9 + 2) 0 sum) from let_e (j := 0) (by decide), bI_s, show F_Law_let (ld + 9) 1 _ _ = some (uM _ (ld + 9 + 2) 1 _) from let_e (j := 1) (by decide), bI_s, show F_Law_let (ld + 9) 2 _ _ = some (uM _ (ld + 9 + 2) 2 _) from let_e (j := 2) (by decide), bI_s, show F_Law_let (ld + 9) 3 _ _ = some (uM _ (ld + 9 + 2) 3 _) from let_e (j := 3) (by decide), bI_s, show F_Law_let (ld + 9) 4 _ _ = some (uM _ (ld + 9 + 2) 4 _) from let_e (j := 4) (by decide), bI_s] at x1 y1
    have e0 : Eo (pH (ld + 9)) (uM (uM M (ld + 9 + 2) 0 sum) (ld + 9 + 2) 1 h) (uM (uM M (ld + 9 + 2) 0 sum) (ld + 9 + 2) 1 h') := fun c j z => by
      rw [uM_diff z, uM_diff z]
    have hR := val_H (W := ld + 9) hl FU 0 0 0 _ _ (fun c j z => by
      rw [uM_diff (by omega), uM_diff (by omega), uM_diff (by omega), uM_diff (by omega), uM_diff (by omega)]) (((e0.uu (a := ld + 9 + 2) (i := 2) (x := kind)).uu (a := ld + 9 + 2) (i := 3) (x := many)).uu (a := ld + 9 + 2) (i := 4) (x := day))
    have hR' : RO (pH (ld + 9)) (F_Law_value (ld + 9) (uM (uM (uM (uM (uM M (ld + 9 + 2) 0 sum) (ld + 9 + 2) 1 h) (ld + 9 + 2) 2 kind) (ld + 9 + 2) 3 many) (ld + 9 + 2) 4 day)) (F_Law_value (ld + 9) (uM (uM (uM (uM (uM M (ld + 9 + 2) 0 sum) (ld + 9 + 2) 1 h') (ld + 9 + 2) 2 kind) (ld + 9 + 2) 3 many) (ld + 9 + 2) 4 day)) := hR
    generalize F_Law_value (ld + 9) (uM (uM (uM (uM (uM M (ld + 9 + 2) 0 sum) (ld + 9 + 2) 1 h) (ld + 9 + 2) 2 kind) (ld + 9 + 2) 3 many) (ld + 9 + 2) 4 day) = o at x1 hR'
    generalize F_Law_value (ld + 9) (uM (uM (uM (uM (uM M (ld + 9 + 2) 0 sum) (ld + 9 + 2) 1 h') (ld + 9 + 2) 2 kind) (ld + 9 + 2) 3 many) (ld + 9 + 2) 4 day) = o' at y1 hR'
    match o, o', hR' with
    | none, none, _ => cases x1
    | some (r, A), some (r', A'), hR' =>
      rw [bI2_s] at x1 y1
      obtain rfl : r = r' := hR'.1
      unfold F_Main_within at x1 y1
      rw [bI_s] at x1 y1
      exact ((Prod.mk.inj (Option.some.inj y1)).1.symm.trans (Prod.mk.inj (Option.some.inj x1)).1)
end HL
end PAR57
end MG17x4
section MG17x5
/-! pots as ways: seven amounts of a food -/
section PAR58
def q7 : Nat → Nat
  | 0 => 1
  | k + 1 => q7 k * 7
def d7 (w k : Nat) : Nat := w / q7 k % 7
/-- how many, of the k last foods -/
def sd7 : Nat → Nat → Nat
  | 0, _ => 0
  | k + 1, w => sd7 k w + d7 w k
theorem q7_pos : ∀ k, 0 < q7 k
  | 0 => Nat.one_pos
  | k + 1 => Nat.mul_pos (q7_pos k) (by decide)
theorem q7_add (a : Nat) : ∀ b, q7 (a + b) = q7 a * q7 b
  | 0 => (Nat.mul_one _).symm
  | b + 1 => by
    show q7 (a + b) * 7 = q7 a * (q7 b * 7)
    rw [q7_add a b, Nat.mul_assoc]
theorem d7_6 (w k : Nat) : d7 w k ≤ 6 := by
  have := Nat.mod_lt (w / q7 k) (show 0 < 7 by decide)
  unfold d7
  omega
theorem q7_mod (w k : Nat) : w % q7 (k + 1) = w % q7 k + q7 k * d7 w k := Nat.mod_mul
theorem d7_up {k B t : Nat} (ht : t < q7 k) (i : Nat) : d7 (q7 k * B + t) (k + i) = d7 B i := by
  unfold d7
  rw [q7_add, ← Nat.div_div_eq_div_mul, Nat.mul_add_div (q7_pos k), Nat.div_eq_of_lt ht, Nat.add_zero]
theorem d7_lo {k B t j : Nat} (hj : j < k) : d7 (q7 k * B + t) j = d7 t j := by
  unfold d7
  obtain ⟨m, rfl⟩ : ∃ m, k = j + (m + 1) := ⟨k - j - 1, by omega⟩
  rw [q7_add, Nat.mul_assoc, Nat.mul_add_div (q7_pos j)]
  show (q7 m * 7 * B + t / q7 j) % 7 = _
  rw [Nat.mul_right_comm, Nat.mul_comm (q7 m * B) 7, Nat.mul_add_mod]
theorem sd7_lo {k B t : Nat} : ∀ j, j ≤ k → sd7 j (q7 k * B + t) = sd7 j t
  | 0, _ => rfl
  | j + 1, h => by
    show sd7 j (q7 k * B + t) + d7 (q7 k * B + t) j = sd7 j t + d7 t j
    rw [sd7_lo j (by omega), d7_lo (by omega)]
theorem sd7_up {k B t : Nat} (ht : t < q7 k) : ∀ i, sd7 (k + i) (q7 k * B + t) = sd7 k t + sd7 i B
  | 0 => by rw [Nat.add_zero, sd7_lo k (Nat.le_refl _)]; rfl
  | i + 1 => by
    show sd7 (k + i) (q7 k * B + t) + d7 (q7 k * B + t) (k + i) = sd7 k t + (sd7 i B + d7 B i)
    rw [sd7_up ht i, d7_up ht, Nat.add_assoc]
theorem sd7_c {w w' : Nat} : ∀ k, (∀ j, j < k → d7 w j = d7 w' j) → sd7 k w = sd7 k w'
  | 0, _ => rfl
  | k + 1, h => by
    show sd7 k w + d7 w k = sd7 k w' + d7 w' k
    rw [sd7_c k (fun j hj => h j (by omega)), h k (by omega)]
theorem sd7_zero {w : Nat} : ∀ k, sd7 k w = 0 → w % q7 k = 0
  | 0, _ => Nat.mod_one w
  | k + 1, h => by
    have h' : sd7 k w + d7 w k = 0 := h
    have h1 := sd7_zero k (by omega : sd7 k w = 0)
    rw [q7_mod, h1, show d7 w k = 0 by omega, Nat.mul_zero]
theorem z7 (j : Nat) : d7 0 j = 0 := by unfold d7; rw [Nat.zero_div]
theorem sd7_0 : ∀ k, sd7 k 0 = 0
  | 0 => rfl
  | k + 1 => by
    show sd7 k 0 + d7 0 k = 0
    rw [sd7_0 k, z7]
/-- as much as can be of each food, from the k-th last on, m in all -/
def gr7 (st : Nat → Nat) : Nat → Nat → Nat
  | 0, _ => 0
  | k + 1, m => q7 k * min m (st k) + gr7 st k (m - min m (st k))
def gd7 (st : Nat → Nat) : Nat → Nat → Nat → Nat
  | 0, _, _ => 0
  | k + 1, m, j => if j = k then min m (st k) else gd7 st k (m - min m (st k)) j
section GR
variable {st : Nat → Nat}
theorem gr7_lt : ∀ k m, m ≤ 6 → gr7 st k m < q7 k
  | 0, _, _ => Nat.one_pos
  | k + 1, m, h => by
    have h1 := gr7_lt k (m - min m (st k)) (by omega)
    have h2 : q7 k * min m (st k) ≤ q7 k * 6 := Nat.mul_le_mul_left _ (by omega)
    show q7 k * min m (st k) + gr7 st k _ < q7 k * 7
    omega
theorem gr7_d : ∀ k m j, m ≤ 6 → j < k → d7 (gr7 st k m) j = gd7 st k m j
  | 0, _, _, _, h => by omega
  | k + 1, m, j, hm, hj => by
    show d7 (q7 k * min m (st k) + gr7 st k (m - min m (st k))) j = if j = k then min m (st k) else gd7 st k (m - min m (st k)) j
    by_cases w : j = k
    · rw [if_pos w, w]
      have := d7_up (B := min m (st k)) (gr7_lt (st := st) k (m - min m (st k)) (by omega)) 0
      rw [Nat.add_zero] at this
      rw [this]
      show min m (st k) / 1 % 7 = _
      omega
    · rw [if_neg w, d7_lo (by omega)]
      exact gr7_d k _ j (by omega) (by omega)
theorem gd7_st : ∀ k m j, j < k → gd7 st k m j ≤ st j
  | 0, _, _, h => by omega
  | k + 1, m, j, hj => by
    show (if j = k then min m (st k) else gd7 st k (m - min m (st k)) j) ≤ st j
    by_cases w : j = k
    · rw [if_pos w, w]; omega
    · rw [if_neg w]; exact gd7_st k _ j (by omega)
theorem gr7_sd : ∀ k m, m ≤ 6 → sd7 k (gr7 st k m) ≤ m
  | 0, _, _ => Nat.zero_le _
  | k + 1, m, hm => by
    have h1 := gr7_lt (st := st) k (m - min m (st k)) (by omega)
    have h2 := gr7_sd k (m - min m (st k)) (by omega)
    show sd7 (k + 1) (q7 k * min m (st k) + gr7 st k (m - min m (st k))) ≤ m
    rw [sd7_up h1 1]
    have : sd7 1 (min m (st k)) = min m (st k) := by
      show 0 + min m (st k) / 1 % 7 = _
      omega
    omega
theorem gr7_max {t : Nat} : ∀ k m, (∀ j, j < k → d7 t j ≤ st j) → sd7 k t ≤ m → t % q7 k ≤ gr7 st k m
  | 0, _, _, _ => by rw [show q7 0 = 1 from rfl, Nat.mod_one]; exact Nat.zero_le _
  | k + 1, m, h, hs => by
    have hs' : sd7 k t + d7 t k ≤ m := hs
    have hk := h k (by omega)
    rw [q7_mod]
    show _ ≤ q7 k * min m (st k) + gr7 st k (m - min m (st k))
    by_cases w : d7 t k = min m (st k)
    · have h1 := gr7_max k (m - min m (st k)) (fun j hj => h j (by omega)) (by omega)
      rw [w]
      omega
    · have h2 : q7 k * (d7 t k + 1) ≤ q7 k * min m (st k) := Nat.mul_le_mul_left _ (by omega)
      have h3 := Nat.mod_lt t (q7_pos k)
      rw [Nat.mul_add] at h2
      omega
/-- a pot that can be, of what is in store (or none) -/
def pot7 (st : Nat → Nat) (w : Nat) : Prop := (∀ j, j < 6 → d7 w j ≤ st j) ∧ sd7 6 w ≤ 6
def pa7 (st : Nat → Nat) (w : Nat) : Nat → Bool
  | 0 => decide (sd7 6 w ≤ 6)
  | k + 1 => decide (d7 w k ≤ st k) && pa7 st w k
theorem pa7_e {w : Nat} : ∀ k, pa7 st w k = true ↔ ((∀ j, j < k → d7 w j ≤ st j) ∧ sd7 6 w ≤ 6)
  | 0 => by
    show decide (sd7 6 w ≤ 6) = true ↔ _
    rw [decide_eq_true_eq]
    exact ⟨fun h => ⟨fun j hj => absurd hj (Nat.not_lt_zero _), h⟩, fun h => h.2⟩
  | k + 1 => by
    show (decide (d7 w k ≤ st k) && pa7 st w k) = true ↔ _
    rw [Bool.and_eq_true, decide_eq_true_eq, pa7_e k]
    constructor
    · intro h
      refine ⟨fun j hj => ?_, h.2.2⟩
      by_cases z : j = k
      · rw [z]; exact h.1
      · exact h.2.1 j (by omega)
    · intro h
      exact ⟨h.1 k (by omega), fun j hj => h.1 j (by omega), h.2⟩
def pb7 (st : Nat → Nat) (w : Nat) : Bool := pa7 st w 6
theorem pb7_e {w : Nat} : pb7 st w = true ↔ pot7 st w := pa7_e 6
theorem top7 : pot7 st (gr7 st 6 6) ∧ gr7 st 6 6 < q7 6 ∧ ∀ w, gr7 st 6 6 < w → w < q7 6 → ¬ pot7 st w := by
  refine ⟨⟨fun j hj => ?_, gr7_sd 6 6 (by decide)⟩, gr7_lt 6 6 (by decide), fun w h1 h2 h3 => ?_⟩
  · rw [gr7_d 6 6 j (by decide) hj]; exact gd7_st 6 6 j hj
  · have := gr7_max 6 6 h3.1 h3.2
    rw [Nat.mod_eq_of_lt h2] at this
    omega
section STP
variable {W k : Nat}
theorem sd7_dec {B : Nat} (hB : 1 ≤ B % 7) : ∀ i, sd7 (i + 1) (B - 1) + 1 = sd7 (i + 1) B
  | 0 => by
    show 0 + (B - 1) / 1 % 7 + 1 = 0 + B / 1 % 7
    omega
  | i + 1 => by
    have h1 := sd7_dec hB i
    have h2 : d7 (B - 1) (i + 1) = d7 B (i + 1) := by
      unfold d7
      show (B - 1) / (q7 i * 7) % 7 = B / (q7 i * 7) % 7
      rw [Nat.mul_comm, ← Nat.div_div_eq_div_mul, ← Nat.div_div_eq_div_mul, show (B - 1) / 7 = B / 7 by omega]
    show sd7 (i + 1) (B - 1) + d7 (B - 1) (i + 1) + 1 = sd7 (i + 1) B + d7 B (i + 1)
    rw [h2]
    omega
/-- one less of the k-th last food, the first of which there is some, and as much as can be of those behind -/
theorem step7 (hW : W < q7 6) (hp : pot7 st W) (hk : k < 6) (hz : W % q7 k = 0) (hd : 1 ≤ d7 W k) : ∃ W', W' = q7 k * (W / q7 k - 1) + gr7 st k (7 - sd7 6 W) ∧ 1 ≤ sd7 6 W ∧ W' < W ∧ pot7 st W' ∧ (∀ w, W' < w → w < W → ¬ pot7 st w) ∧ (∀ i, k + i < 6 → d7 W' (k + i) = if i = 0 then d7 W k - 1 else d7 W (k + i)) ∧ ∀ j, j < k → d7 W' j = gd7 st k (7 - sd7 6 W) j := by
  have hB : W / q7 k % 7 = d7 W k := rfl
  have e0 := Nat.div_add_mod W (q7 k)
  have pk := q7_pos k
  generalize hBB : W / q7 k = B at hB e0
  rw [hz, Nat.add_zero] at e0
  obtain ⟨m, hm⟩ : ∃ m, 6 = k + (m + 1) := ⟨6 - k - 1, by omega⟩
  have s1 : sd7 6 W = sd7 (m + 1) B := by
    have := sd7_up (B := B) (t := 0) pk (m + 1)
    rw [Nat.add_zero, e0, sd7_0, Nat.zero_add, ← hm] at this
    exact this
  have s2 := sd7_dec (B := B) (by omega) m
  have s3 := hp.2
  have l6 : 7 - sd7 6 W ≤ 6 := by omega
  have gl := gr7_lt (st := st) k (7 - sd7 6 W) l6
  have up : ∀ i, d7 (q7 k * (B - 1) + gr7 st k (7 - sd7 6 W)) (k + i) = if i = 0 then d7 W k - 1 else d7 W (k + i) := fun i => by
    rw [d7_up gl]
    have u2 : d7 W (k + i) = d7 B i := by
      have := d7_up (B := B) (t := 0) pk i
      rw [Nat.add_zero, e0] at this
      exact this
    by_cases z : i = 0
    · rw [if_pos z, z, ← hB]
      show (B - 1) / 1 % 7 = B % 7 - 1
      omega
    · rw [if_neg z, u2]
      obtain ⟨x, rfl⟩ : ∃ x, i = x + 1 := ⟨i - 1, by omega⟩
      unfold d7
      show (B - 1) / (q7 x * 7) % 7 = B / (q7 x * 7) % 7
      rw [Nat.mul_comm, ← Nat.div_div_eq_div_mul, ← Nat.div_div_eq_div_mul, show (B - 1) / 7 = B / 7 by omega]
  have lo : ∀ j, j < k → d7 (q7 k * (B - 1) + gr7 st k (7 - sd7 6 W)) j = gd7 st k (7 - sd7 6 W) j := fun j hj => by
    rw [d7_lo hj, gr7_d k _ j l6 hj]
  have hB1 : q7 k * B = q7 k * (B - 1) + q7 k := by
    rw [← Nat.mul_succ]
    exact congrArg (q7 k * ·) (by omega)
  refine ⟨_, rfl, by omega, by omega, ⟨fun j hj => ?_, ?_⟩, fun w h1 h2 h3 => ?_, fun i _ => up i, lo⟩
  · by_cases z : j < k
    · rw [lo j z]; exact gd7_st k _ j z
    · obtain ⟨i, rfl⟩ : ∃ i, j = k + i := ⟨j - k, by omega⟩
      rw [up i]
      have h0 := hp.1 (k + i) hj
      by_cases y : i = 0
      · rw [if_pos y]
        rw [y, Nat.add_zero] at h0 ⊢
        omega
      · rw [if_neg y]; exact h0
  · have h1 := gr7_sd (st := st) k (7 - sd7 6 W) l6
    have h2 := sd7_up (B := B - 1) gl (m + 1)
    rw [← hm] at h2
    omega
  · have w1 : w / q7 k = B - 1 := by
      have a : B - 1 ≤ w / q7 k := (Nat.le_div_iff_mul_le pk).mpr (by rw [Nat.mul_comm]; omega)
      have b : w / q7 k < B := Nat.div_lt_of_lt_mul (by omega)
      omega
    have w2 := Nat.div_add_mod w (q7 k)
    have w3 := Nat.mod_lt w pk
    rw [w1] at w2
    have w4 := sd7_up (B := B - 1) w3 (m + 1)
    rw [← hm, w2] at w4
    have w5 := h3.2
    have w6 : w % q7 k % q7 k ≤ gr7 st k (7 - sd7 6 W) := gr7_max (t := w % q7 k) k _ (fun j hj => by
      have := h3.1 j (by omega)
      rw [← w2, d7_lo hj] at this
      exact this) (by omega)
    rw [Nat.mod_mod] at w6
    omega
end STP
end GR
/-- how many below n hold -/
def cR7 (P : Nat → Bool) : Nat → Nat
  | 0 => 0
  | n + 1 => if P n = true then cR7 P n + 1 else cR7 P n
theorem cR7_mono {P : Nat → Bool} : ∀ d n, cR7 P n ≤ cR7 P (n + d)
  | 0, _ => Nat.le_refl _
  | d + 1, n => by
    have := cR7_mono (P := P) d n
    show cR7 P n ≤ (if P (n + d) = true then cR7 P (n + d) + 1 else cR7 P (n + d))
    by_cases w : P (n + d) = true
    · rw [if_pos w]; omega
    · rw [if_neg w]; omega
theorem cR7_lt {P : Nat → Bool} {a b : Nat} (h : P a = true) (hab : a < b) : cR7 P a + 1 ≤ cR7 P b := by
  have h1 := cR7_mono (P := P) (b - (a + 1)) (a + 1)
  rw [show a + 1 + (b - (a + 1)) = b by omega] at h1
  have h2 : cR7 P (a + 1) = cR7 P a + 1 := by
    show (if P a = true then cR7 P a + 1 else cR7 P a) = _
    rw [if_pos h]
  omega
theorem cR7_c {P Q : Nat → Bool} : ∀ n, (∀ i, i < n → P i = Q i) → cR7 P n = cR7 Q n
  | 0, _ => rfl
  | n + 1, h => by
    show (if P n = true then cR7 P n + 1 else cR7 P n) = (if Q n = true then cR7 Q n + 1 else cR7 Q n)
    rw [cR7_c n (fun i hi => h i (by omega)), h n (by omega)]
theorem cR7_add {P : Nat → Bool} {a : Nat} : ∀ n, cR7 P (a + n) = cR7 P a + cR7 (fun t => P (a + t)) n
  | 0 => rfl
  | n + 1 => by
    show (if P (a + n) = true then cR7 P (a + n) + 1 else cR7 P (a + n)) = cR7 P a + (if P (a + n) = true then cR7 (fun t => P (a + t)) n + 1 else cR7 (fun t => P (a + t)) n)
    rw [cR7_add n]
    by_cases w : P (a + n) = true
    · rw [if_pos w, if_pos w]; omega
    · rw [if_neg w, if_neg w]
theorem cR7_no {P : Nat → Bool} : ∀ n, (∀ i, i < n → ¬ P i = true) → cR7 P n = 0
  | 0, _ => rfl
  | n + 1, h => by
    show (if P n = true then cR7 P n + 1 else cR7 P n) = 0
    rw [if_neg (h n (by omega)), cR7_no n (fun i hi => h i (by omega))]
/-- sums of a row of numbers -/
def bl7 (g : Nat → Nat) : Nat → Nat
  | 0 => 0
  | x + 1 => bl7 g x + g x
theorem bl7_c {g g' : Nat → Nat} : ∀ n, (∀ i, i < n → g i = g' i) → bl7 g n = bl7 g' n
  | 0, _ => rfl
  | n + 1, h => by
    show bl7 g n + g n = bl7 g' n + g' n
    rw [bl7_c n (fun i hi => h i (by omega)), h n (by omega)]
def Nn7 : Nat → Nat → Nat
  | 0, _ => 1
  | k + 1, m => bl7 (fun x => if x ≤ m then Nn7 k (m - x) else 0) 7
theorem cnt7 : ∀ k m, cR7 (fun w => decide (sd7 k w ≤ m)) (q7 k) = Nn7 k m
  | 0, m => by
    show (if decide (0 ≤ m) = true then 0 + 1 else 0) = 1
    rw [if_pos (by rw [decide_eq_true_eq]; omega)]
  | k + 1, m => by
    have key : ∀ x, x ≤ 7 → cR7 (fun w => decide (sd7 (k + 1) w ≤ m)) (q7 k * x) = bl7 (fun x => if x ≤ m then Nn7 k (m - x) else 0) x := by
      intro x
      induction x with
      | zero => intro _; rfl
      | succ x ih =>
        intro hx
        have e1 : q7 k * (x + 1) = q7 k * x + q7 k := rfl
        rw [e1, cR7_add, ih (by omega)]
        show _ = bl7 _ x + (if x ≤ m then Nn7 k (m - x) else 0)
        refine congrArg (bl7 _ x + ·) ?_
        have e2 : ∀ t, t < q7 k → sd7 (k + 1) (q7 k * x + t) = sd7 k t + x := fun t ht => by
          rw [sd7_up ht 1]
          show sd7 k t + (0 + x / 1 % 7) = _
          omega
        by_cases w : x ≤ m
        · rw [if_pos w, ← cnt7 k (m - x)]
          refine cR7_c (q7 k) (fun t ht => ?_)
          show decide (sd7 (k + 1) (q7 k * x + t) ≤ m) = decide (sd7 k t ≤ m - x)
          rw [e2 t ht]
          exact decide_eq_decide.mpr (by omega)
        · rw [if_neg w]
          refine cR7_no (q7 k) (fun t ht => ?_)
          show ¬ decide (sd7 (k + 1) (q7 k * x + t) ≤ m) = true
          rw [e2 t ht, decide_eq_true_eq]
          omega
    exact key 7 (Nat.le_refl _)
theorem all7 : cR7 (fun w => decide (sd7 6 w ≤ 6)) (q7 6) = 924 := by
  rw [cnt7]
  decide +kernel
theorem q7_6 : q7 6 = 117649 := by decide
theorem q7_le : ∀ k, k < 7 → q7 k ≤ 117649 := by decide
theorem m_sevens {k : Nat} (hk : k ≤ 6) : F_Mod_sevens (nI k) = some (nI (q7 k)) := by
  have key : ∀ (s i f : Nat), i + s = k → H_Mod_sevens_4 (nI k) (f + 1 + s) (nI (q7 i)) (nI i) = some (nI (q7 k)) := by
    intro s
    induction s with
    | zero =>
      intro i f hi
      obtain rfl : i = k := by omega
      show B_Mod_sevens_4 (nI i) (H_Mod_sevens_4 (nI i) f) _ (nI i) = _
      unfold B_Mod_sevens_4
      rw [if_pos (by rw [nI_leI (by omega) (by omega)]; omega)]
    | succ s ih =>
      intro i f hi
      rw [← ih (i + 1) f (by omega)]
      show B_Mod_sevens_4 (nI k) (H_Mod_sevens_4 (nI k) (f + 1 + s)) _ (nI i) = _
      generalize H_Mod_sevens_4 (nI k) (f + 1 + s) = H
      unfold B_Mod_sevens_4
      rw [if_neg (by rw [nI_leI (by omega) (by omega)]; omega), nmI_e, nmI_e, nI_1, show (7 : Int32) = nI 7 from rfl, nI_mul]
      rfl
  unfold F_Mod_sevens
  obtain ⟨g, hg⟩ := FU_k (1 + k) (by omega)
  rw [hg, ← Nat.add_assoc]
  exact key k 0 g (Nat.zero_add _)
end PAR58
end MG17x5
section MG17x6
/-! pot, by the class -/
section PAR59
/-- what the pot's search may change -/
def gPp (x y : Nat) : Prop := C0 x y = true ∨ (391 ≤ x ∧ x ≤ 395)
theorem gPp_n {x y : Nat} (h1 : 64 ≤ x) (h2 : x ≠ 390) (h3 : ¬ (391 ≤ x ∧ x ≤ 395)) : ¬ gPp x y := fun h => by
  rcases h with h | h
  · rw [C0_M h1 h2] at h; cases h
  · exact h3 h
theorem gPp_0 {M M' : gM} (k : Kl C0 M zL M' zL) : Eo gPp M M' := fun x y z => k.m (by
  cases q : C0 x y with
  | false => rfl
  | true => exact absurd (Or.inl q) z)
/-- the first that holds, of s from h on -/
def fs7 (p : Nat → Bool) : Nat → Nat → Option Nat
  | 0, _ => none
  | s + 1, h => if p h = true then some h else fs7 p s (h + 1)
theorem fs7_in {p : Nat → Bool} : ∀ s h x, fs7 p s h = some x → h ≤ x ∧ x < h + s
  | 0, _, _, e => by cases e
  | s + 1, h, x, e => by
    unfold fs7 at e
    by_cases w : p h = true
    · rw [if_pos w] at e
      have := Option.some.inj e
      omega
    · rw [if_neg w] at e
      have := fs7_in s (h + 1) x e
      omega
theorem fs7_more {p : Nat → Bool} {b : Nat} : ∀ a h, (∀ x, fs7 p a h = some x → fs7 p (a + b) h = some x) ∧ (fs7 p a h = none → fs7 p (a + b) h = fs7 p b (h + a))
  | 0, h => ⟨fun x e => (nomatch e), fun _ => by rw [Nat.zero_add, Nat.add_zero]⟩
  | a + 1, h => by
    have ih := fs7_more (p := p) (b := b) a (h + 1)
    rw [show a + 1 + b = (a + b) + 1 by omega]
    show (∀ x, (if p h = true then some h else fs7 p a (h + 1)) = some x → (if p h = true then some h else fs7 p (a + b) (h + 1)) = some x) ∧ ((if p h = true then some h else fs7 p a (h + 1)) = none → (if p h = true then some h else fs7 p (a + b) (h + 1)) = fs7 p b (h + (a + 1)))
    by_cases w : p h = true
    · rw [if_pos w, if_pos w]
      exact ⟨fun x e => e, fun e => nomatch e⟩
    · rw [if_neg w, if_neg w, show h + (a + 1) = h + 1 + a by omega]
      exact ih
theorem fs7_no {p : Nat → Bool} : ∀ s h, (∀ x, h ≤ x → x < h + s → ¬ p x = true) → fs7 p s h = none
  | 0, _, _ => rfl
  | s + 1, h, e => by
    unfold fs7
    rw [if_neg (e h (Nat.le_refl _) (by omega))]
    exact fs7_no s (h + 1) (fun x a b => e x (by omega) (by omega))
/-- the better of the best so far and a way -/
def up7 (p : Nat → Nat → Bool) (pr : Nat → Int32) (o : Option (Nat × Nat)) (w : Nat) : Option (Nat × Nat) := match fs7 (p w) 10 0 with
  | none => o
  | some h => match o with
    | none => some (w, h)
    | some (w0, h0) => if pr w < pr w0 then some (w, h) else if pr w = pr w0 then (if sd7 6 w < sd7 6 w0 then some (w, h) else if sd7 6 w = sd7 6 w0 then (if h < h0 then some (w, h) else some (w0, h0)) else some (w0, h0)) else some (w0, h0)
theorem up7_n {p : Nat → Nat → Bool} {pr : Nat → Int32} {o : Option (Nat × Nat)} {w : Nat} (e : fs7 (p w) 10 0 = none) : up7 p pr o w = o := by
  unfold up7
  rw [e]
theorem up7_f {p : Nat → Nat → Bool} {pr : Nat → Int32} {w h : Nat} (e : fs7 (p w) 10 0 = some h) : up7 p pr none w = some (w, h) := by
  unfold up7
  rw [e]
theorem up7_s {p : Nat → Nat → Bool} {pr : Nat → Int32} {w h w0 h0 : Nat} (e : fs7 (p w) 10 0 = some h) : up7 p pr (some (w0, h0)) w = if pr w < pr w0 then some (w, h) else if pr w = pr w0 then (if sd7 6 w < sd7 6 w0 then some (w, h) else if sd7 6 w = sd7 6 w0 then (if h < h0 then some (w, h) else some (w0, h0)) else some (w0, h0)) else some (w0, h0) := by
  unfold up7
  rw [e]
/-- the best of the k highest ways -/
def ps7 (st : Nat → Nat) (p : Nat → Nat → Bool) (pr : Nat → Int32) : Nat → Option (Nat × Nat)
  | 0 => none
  | k + 1 => if pb7 st (117648 - k) = true then up7 p pr (ps7 st p pr k) (117648 - k) else ps7 st p pr k
theorem ps7_skip {st : Nat → Nat} {p : Nat → Nat → Bool} {pr : Nat → Int32} {a : Nat} : ∀ d, (∀ k, a ≤ k → k < a + d → ¬ pot7 st (117648 - k)) → ps7 st p pr (a + d) = ps7 st p pr a
  | 0, _ => rfl
  | d + 1, h => by
    show (if pb7 st (117648 - (a + d)) = true then up7 p pr (ps7 st p pr (a + d)) (117648 - (a + d)) else ps7 st p pr (a + d)) = _
    rw [if_neg (fun z => h (a + d) (by omega) (by omega) (pb7_e.mp z))]
    exact ps7_skip d (fun k x y => h k x (by omega))
section CP
variable {D Q q ld lv nf nd ng ne : Nat} {M M' M1 Mc Mb : gM} {L : gL} {r : Nat → Int32}
theorem gPp_M (e : Eo gPp M M') : ∀ c j, 411 ≤ c → c ≤ 432 → M' c j = M c j := fun c j a b => e c j (gPp_n (by omega) (by omega) (by omega))
theorem Lnd.kP (h : Lnd ld lv nf nd ng ne M) (e : Eo gPp M M') : Lnd ld lv nf nd ng ne M' := h.keep (fun c j q => e c j (fun w => by
  rcases w with w | w
  · rw [gv_C0 q] at w; cases w
  · have := gv_num q; omega))
/-- price, sums and forces of a way's pot -/
def pPr (M : gM) (lv nf w : Nat) : Int32 := sm (fun f => nI (d7 w (5 - f)) * M 413 (6 * lv + f)) nf
def pSm (M : gM) (lv nf w j : Nat) : Int32 := sm (fun f => nI (d7 w (5 - f)) * M 414 (3 * (6 * lv + f) + j)) nf
def pFo (M : gM) (lv nf : Nat) (day : Int32) (w j h : Nat) : Int32 := potS M lv (nI j) (pSm M lv nf w j) (nI h) (nI (sd7 6 w)) day
def pEn (M : gM) (lv nf : Nat) (day : Int32) (ls : Nat → Int32) (w h : Nat) : Bool := allK (fun j => decide (ls j ≤ pFo M lv nf day w j h)) 3 0
theorem pPr_k (e : ∀ c j, 411 ≤ c → c ≤ 432 → M' c j = M c j) {w : Nat} : pPr M' lv nf w = pPr M lv nf w := sm_c nf (fun k _ => by rw [e 413 _ (by decide) (by decide)])
theorem pSm_k (e : ∀ c j, 411 ≤ c → c ≤ 432 → M' c j = M c j) {w j : Nat} : pSm M' lv nf w j = pSm M lv nf w j := sm_c nf (fun k _ => by rw [e 414 _ (by decide) (by decide)])
theorem pFo_k (e : ∀ c j, 411 ≤ c → c ≤ 432 → M' c j = M c j) {w j h : Nat} {day : Int32} : pFo M' lv nf day w j h = pFo M lv nf day w j h := by
  unfold pFo
  rw [potS_k e, pSm_k e]
theorem pFo_0 {w j h : Nat} {day : Int32} : ∃ y, y ≤ 99 ∧ pFo M lv nf day w j h = nI y := by
  obtain ⟨y, _, h2, h3⟩ := hb_r (x := lawS M lv 0 (v9 (pSm M lv nf w j) (nI h) (nI j) (nI (sd7 6 w)) day 0 0 0 0) (pSm M lv nf w j)) (a := 0) (b := 99) (by decide) (by decide)
  exact ⟨y, h2, h3⟩
/-- the row of amounts of a way -/
def Row7 (w : Nat) (N : gM) : Prop := ∀ f, f < 6 → N 393 f = nI (d7 w (5 - f))
def gF7 (c : Nat) (_ : Nat) : Prop := c = 393
/-- fill from a food on -/
theorem c_fill {st : Nat → Nat} (hst : ∀ j, st j ≤ 99) : ∀ (s m f : Nat) (N : gM), s ≤ 6 → m ≤ 6 → (∀ x, x < 6 → N 66 x = nI (st (5 - x))) → ∃ X, H_PotSearch_fillFrom_6 64 (f + 1 + s) (nI m) (nI (6 - s)) N = some X ∧ Eo gF7 N X ∧ (∀ x, x < 6 - s → X 393 x = N 393 x) ∧ ∀ x, 6 - s ≤ x → x < 6 → X 393 x = nI (gd7 st s m (5 - x)) := by
  intro s
  induction s with
  | zero =>
    intro m f N _ hm h66
    refine ⟨N, ?_, Eo.rf, fun _ _ => rfl, fun x a b => by omega⟩
    show B_PotSearch_fillFrom_6 64 (H_PotSearch_fillFrom_6 64 f) (nI m) (nI 6) N = _
    generalize H_PotSearch_fillFrom_6 64 f = H
    unfold B_PotSearch_fillFrom_6
    rw [if_pos (by decide)]
  | succ s ih =>
    intro m f N hs hm h66
    have hs9 := hst s
    obtain ⟨X, z1, z2, z3, z4⟩ := ih (m - min m (st s)) f (uM N 393 (5 - s) (nI (min m (st s)))) (by omega) (by omega) (fun x hx => by rw [uM_diff (by omega)]; exact h66 x hx)
    refine ⟨X, ?_, (Eo.rf.u (show gF7 393 (5 - s) from rfl)).tr z2, fun x hx => ?_, fun x a b => ?_⟩
    · rw [← z1]
      show B_PotSearch_fillFrom_6 64 (H_PotSearch_fillFrom_6 64 (f + 1 + s)) (nI m) (nI (6 - (s + 1))) N = _
      generalize H_PotSearch_fillFrom_6 64 (f + 1 + s) = H
      unfold B_PotSearch_fillFrom_6
      rw [show 6 - (s + 1) = 5 - s by omega, if_neg (by rw [show (6 : Int32) = nI 6 from rfl, nI_leI (by omega) (by omega)]; omega), show F_Main_at (64 + 2) 6 (nI (5 - s)) N = some (N 66 (5 - s)) from s_at (by omega) (by decide), bI_s, h66 (5 - s) (by omega), show 5 - (5 - s) = s by omega, nmI_e, show (if nI (st s) < nI m then nI (st s) else nI m) = nI (min m (st s)) by
        by_cases w : st s < m
        · rw [if_pos (by rw [nI_ltI (by omega) (by omega)]; exact w), Nat.min_eq_right (by omega)]
        · rw [if_neg (by rw [nI_ltI (by omega) (by omega)]; exact w), Nat.min_eq_left (by omega)], s_put (by omega) (by decide), bI_s, nmI_e, nmI_e, nI_sub (by omega), nI_1, show 5 - s + 1 = 6 - s by omega]
    · rw [z3 x (by omega), uM_diff (by omega)]
    · show X 393 x = nI (if 5 - x = s then min m (st s) else gd7 st s (m - min m (st s)) (5 - x))
      by_cases w : 5 - x = s
      · rw [if_pos w, z3 x (by omega), show x = 5 - s by omega, uM_same]
      · rw [if_neg w]
        exact z4 x (by omega) b
def gW7 (c j : Nat) : Prop := (c = 391 ∧ (j = 3 ∨ j = 4)) ∨ c = 394
/-- how many so far -/
def am7 (w : Nat) : Nat → Nat := bl7 (fun x => d7 w (5 - x))
theorem am7_6 {w : Nat} : am7 w 6 = sd7 6 w := by
  show 0 + d7 w 5 + d7 w 4 + d7 w 3 + d7 w 2 + d7 w 1 + d7 w 0 = 0 + d7 w 0 + d7 w 1 + d7 w 2 + d7 w 3 + d7 w 4 + d7 w 5
  omega
theorem am7_le {w : Nat} : ∀ n, am7 w n ≤ 6 * n
  | 0 => Nat.le_refl _
  | n + 1 => by
    have h1 := am7_le (w := w) n
    have h2 := d7_6 w (5 - n)
    show am7 w n + d7 w (5 - n) ≤ _
    omega
theorem sm_6 {g : Nat → Int32} (h6 : nf ≤ 6) (h : ∀ f, nf ≤ f → f < 6 → g f = 0) : sm g 6 = sm g nf := by
  have := sm_z (g := g) (n := nf) (6 - nf) (fun k a b => h k a (by omega))
  rw [show nf + (6 - nf) = 6 by omega] at this
  exact this
/-- a pot weighed -/
theorem c_weigh (hL : Lnd ld lv nf nd ng ne M) {w : Nat} (hw : ∀ f, f < 6 → nf ≤ f → d7 w (5 - f) = 0) (hr : Row7 w M) : ∃ X, F_PotSearch_weigh ld M = some X ∧ Eo gW7 M X ∧ X 391 3 = nI (sd7 6 w) ∧ X 391 4 = pPr M lv nf w ∧ ∀ j, j < 3 → X 394 j = pSm M lv nf w j := by
  have h6 := hL.nf6
  have hl := (by decide +kernel : ∀ x ∈ lLa, x < 380) ld hL.la
  have kW : ∀ {N}, Eo gW7 M N → Lnd ld lv nf nd ng ne N ∧ (∀ c j, 411 ≤ c → c ≤ 432 → N c j = M c j) ∧ Row7 w N := fun {N} e => ⟨hL.keep (fun c j q => e c j (by have := gv_num q; unfold gW7; omega)), fun c j a b => e c j (by unfold gW7; omega), fun f hf => (e 393 f (by unfold gW7; omega)).trans (hr f hf)⟩
  have inner : ∀ (K19 : Int32 → gM → Option gM) (f : Nat), f < nf → ∀ (s k g : Nat) (N : gM), k + s = 3 → Eo gW7 M N → (∀ j, j < 3 → N 394 j = sm (fun x => nI (d7 w (5 - x)) * M 414 (3 * (6 * lv + x) + j)) (if j < k then f + 1 else f)) → ∃ X, H_PotSearch_weigh_70 ld K19 (nI f) (nI (d7 w (5 - f))) (g + 1 + s) (nI k) N = J_PotSearch_weigh_110 ld K19 (nI f) X ∧ Eo gW7 M X ∧ (∀ j, X 391 j = N 391 j) ∧ ∀ j, j < 3 → X 394 j = sm (fun x => nI (d7 w (5 - x)) * M 414 (3 * (6 * lv + x) + j)) (f + 1) := by
    intro K19 f hf s
    induction s with
    | zero =>
      intro k g N hk e e4
      obtain rfl : k = 3 := by omega
      refine ⟨N, ?_, e, fun _ => rfl, fun j hj => by rw [e4 j hj, if_pos hj]⟩
      show B_PotSearch_weigh_70 ld K19 (nI f) (nI (d7 w (5 - f))) (H_PotSearch_weigh_70 ld K19 (nI f) (nI (d7 w (5 - f))) g) (nI 3) N = _
      generalize H_PotSearch_weigh_70 ld K19 (nI f) (nI (d7 w (5 - f))) g = H
      unfold B_PotSearch_weigh_70
      rw [if_pos (by decide)]
    | succ s ih =>
      intro k g N hk e e4
      obtain ⟨hN, mN, _⟩ := kW e
      obtain ⟨X, z1, z2, z3, z4⟩ := ih (k + 1) g (uM N 394 k (sm (fun x => nI (d7 w (5 - x)) * M 414 (3 * (6 * lv + x) + k)) f + nI (d7 w (5 - f)) * M 414 (3 * (6 * lv + f) + k))) (by omega) (e.u (Or.inr rfl)) (fun j hj => by
        by_cases z : j = k
        · rw [z, uM_same, if_pos (by omega)]; rfl
        · rw [uM_diff (by omega), e4 j hj]
          by_cases y : j < k
          · rw [if_pos y, if_pos (by omega)]
          · rw [if_neg y, if_neg (by omega)])
      refine ⟨X, ?_, z2, fun j => by rw [z3 j, uM_diff (by omega)], z4⟩
      rw [← z1]
      show B_PotSearch_weigh_70 ld K19 (nI f) (nI (d7 w (5 - f))) (H_PotSearch_weigh_70 ld K19 (nI f) (nI (d7 w (5 - f))) (g + 1 + s)) (nI k) N = _
      generalize H_PotSearch_weigh_70 ld K19 (nI f) (nI (d7 w (5 - f))) (g + 1 + s) = H
      unfold B_PotSearch_weigh_70
      rw [if_neg (by rw [show (3 : Int32) = nI 3 from rfl, nI_leI (by omega) (by omega)]; omega), s_at (by omega) (by decide), bI_s, c_brought hN hf (by omega), bI_s, s_put (by omega) (by decide), bI_s, nmI_e, nI_1, e4 k (by omega), if_neg (Nat.lt_irrefl k), mN 414 _ (by decide) (by decide)]
  have outer : ∀ (s f g : Nat) (N : gM), f + s = 6 → Eo gW7 M N → N 391 3 = nI (am7 w f) → N 391 4 = sm (fun x => nI (d7 w (5 - x)) * M 413 (6 * lv + x)) f → (∀ j, j < 3 → N 394 j = sm (fun x => nI (d7 w (5 - x)) * M 414 (3 * (6 * lv + x) + j)) f) → ∃ X, H_PotSearch_weigh_19 ld (g + 1 + s) (nI f) N = some X ∧ Eo gW7 M X ∧ X 391 3 = nI (sd7 6 w) ∧ X 391 4 = pPr M lv nf w ∧ ∀ j, j < 3 → X 394 j = pSm M lv nf w j := by
    intro s
    induction s with
    | zero =>
      intro f g N hf e e3 e4 e5
      obtain rfl : f = 6 := by omega
      refine ⟨N, ?_, e, by rw [e3, am7_6], ?_, fun j hj => ?_⟩
      · show B_PotSearch_weigh_19 ld (H_PotSearch_weigh_19 ld g) (nI 6) N = _
        generalize H_PotSearch_weigh_19 ld g = H
        unfold B_PotSearch_weigh_19
        rw [if_pos (by decide)]
      · rw [e4]
        exact sm_6 h6 (fun f a b => by rw [hw f b a, show nI 0 = 0 from rfl, Int32.zero_mul])
      · rw [e5 j hj]
        exact sm_6 h6 (fun f a b => by rw [hw f b a, show nI 0 = 0 from rfl, Int32.zero_mul])
    | succ s ih =>
      intro f g N hf e e3 e4 e5
      obtain ⟨hN, mN, hrN⟩ := kW e
      have d6 := d7_6 w (5 - f)
      have ale := am7_le (w := w) f
      have a1 : am7 w (f + 1) = am7 w f + d7 w (5 - f) := rfl
      have hn := ih (f + 1) g
      have e0 : ∀ H : Int32 → gM → Option gM, B_PotSearch_weigh_19 ld H (nI f) N = (if d7 w (5 - f) = 0 then H (nI (f + 1)) N else nmM (uM N 391 3 (nI (am7 w (f + 1)))) (fun M10 => bI (F_Main_at (ld + 2) 6 (nI f) M10) (fun r12 => nmM (uM M10 391 4 ((M10 391 4) + (nI (d7 w (5 - f)) * r12))) (fun M13 => H_PotSearch_weigh_70 ld H (nI f) (nI (d7 w (5 - f))) FU 0 M13)))) := fun H => by
        unfold B_PotSearch_weigh_19 J_PotSearch_weigh_110
        rw [if_neg (by rw [show (6 : Int32) = nI 6 from rfl, nI_leI (by omega) (by omega)]; omega), s_at (by omega) (by decide), bI_s, hrN f (by omega), e3, nI_add, nmI_e, nI_1]
        by_cases z : d7 w (5 - f) = 0
        · rw [if_pos z, if_pos (by rw [z]; decide)]
        · rw [if_neg z, if_neg (by rw [show (0 : Int32) = nI 0 from rfl, nI_leI (by omega) (by omega)]; omega)]
          rfl
      show ∃ X, B_PotSearch_weigh_19 ld (H_PotSearch_weigh_19 ld (g + 1 + s)) (nI f) N = _ ∧ _
      rw [e0]
      by_cases z : d7 w (5 - f) = 0
      · rw [if_pos z]
        refine hn N (by omega) e (by rw [e3, a1, z]; rfl) ?_ (fun j hj => ?_)
        · rw [e4]
          show _ = sm _ f + nI (d7 w (5 - f)) * _
          rw [z, show nI 0 = 0 from rfl, Int32.zero_mul, Int32.add_zero]
        · rw [e5 j hj]
          show _ = sm _ f + nI (d7 w (5 - f)) * _
          rw [z, show nI 0 = 0 from rfl, Int32.zero_mul, Int32.add_zero]
      · have fn : f < nf := by
          apply Classical.byContradiction
          intro y
          exact z (hw f (by omega) (by omega))
        have e' : Eo gW7 M (uM (uM N 391 3 (nI (am7 w (f + 1)))) 391 4 (sm (fun x => nI (d7 w (5 - x)) * M 413 (6 * lv + x)) (f + 1))) := (e.u (Or.inl ⟨rfl, Or.inl rfl⟩)).u (Or.inl ⟨rfl, Or.inr rfl⟩)
        obtain ⟨g', hg'⟩ := FU_k (1 + 3) (by omega)
        obtain ⟨X, y1, y2, y3, y4⟩ := inner (H_PotSearch_weigh_19 ld (g + 1 + s)) f fn 3 0 g' _ (by omega) e' (fun j hj => by
          rw [uM_diff (by omega), uM_diff (by omega), e5 j hj, if_neg (Nat.not_lt_zero _)])
        obtain ⟨X', t1, t2⟩ := hn X (by omega) y2 (by rw [y3, uM_diff (by omega), uM_same]) (by rw [y3, uM_same]) y4
        refine ⟨X', ?_, t2⟩
        rw [if_neg z, nmM_e, s_at (by omega) (by decide), bI_s, nmM_e, uM_diff (show ¬ (ld + 2 = 391 ∧ f = 3) by omega), hN.pr fn, uM_diff (show ¬ ((391 : Nat) = 391 ∧ (4 : Nat) = 3) by omega), e4, mN 413 _ (by decide) (by decide), hg', ← Nat.add_assoc]
        refine Eq.trans y1 ?_
        unfold J_PotSearch_weigh_110
        rw [nmI_e, nI_1]
        exact t1
  unfold F_PotSearch_weigh
  rw [s_wipe (by decide), bI_s, nmM_e, nmM_e]
  obtain ⟨g, hg⟩ := FU_k (1 + 6) (by omega)
  rw [hg, ← Nat.add_assoc]
  exact outer 6 0 g (uM (uM (fl M 394 0 3 (fun _ => 0)) 391 3 0) 391 4 0) (by omega) (fun c j z => by rw [uM_diff (fun y => z (Or.inl ⟨y.1, Or.inr y.2⟩)), uM_diff (fun y => z (Or.inl ⟨y.1, Or.inl y.2⟩)), fl_out (fun y => z (Or.inr y.1))]) (by rw [uM_diff (by omega), uM_same]; rfl) (by rw [uM_same]; rfl) (fun j hj => by rw [uM_diff (by omega), uM_diff (by omega), fl_in (by omega)]; rfl)
/-- whether a heat is enough -/
theorem c_isEnough (hL : Lnd ld lv nf nd ng ne M) {w h : Nat} {day : Int32} {ls : Nat → Int32} (hls : ∀ j, j < 3 → ∃ l, l ≤ 99 ∧ ls j = nI l) {N0 : gM} (e0 : Eo gPp M N0) (e2 : ∀ j, j < 3 → N0 392 j = ls j) (e3 : N0 391 3 = nI (sd7 6 w)) (e4 : ∀ j, j < 3 → N0 394 j = pSm M lv nf w j) : ∃ X, F_PotSearch_isEnough ld (nI h) day N0 = some (b32 (pEn M lv nf day ls w h), X) ∧ Kl C0 N0 zL X zL := by
  have key : ∀ (s k f : Nat) (N : gM), k + s = 3 → Kl C0 N0 zL N zL → ∃ X, H_PotSearch_isEnough_3 ld (nI h) day (f + 1 + s) (nI k) N = some (b32 (allK (fun j => decide (ls j ≤ pFo M lv nf day w j h)) s k), X) ∧ Kl C0 N0 zL X zL := by
    intro s
    induction s with
    | zero =>
      intro k f N hk kN
      obtain rfl : k = 3 := by omega
      refine ⟨N, ?_, kN⟩
      show B_PotSearch_isEnough_3 ld (nI h) day (H_PotSearch_isEnough_3 ld (nI h) day f) (nI 3) N = _
      generalize H_PotSearch_isEnough_3 ld (nI h) day f = H
      unfold B_PotSearch_isEnough_3
      rw [if_pos (by decide)]
      rfl
    | succ s ih =>
      intro k f N hk kN
      have eN := e0.tr (gPp_0 kN)
      have fr : ∀ c j, 391 ≤ c → c ≤ 395 → N c j = N0 c j := fun c j a b => kN.m (C0_M (by omega) (by omega))
      obtain ⟨l, hl, el⟩ := hls k (by omega)
      obtain ⟨X, y1, y2⟩ := c_potForce (hL.kP eN) (kind := nI k) (sum := pSm M lv nf w k) (heat := nI h) (many := nI (sd7 6 w)) (day := day)
      rw [potS_k (gPp_M eN)] at y1
      have y1' : F_Land_potForce ld (nI k) (pSm M lv nf w k) (nI h) (nI (sd7 6 w)) day N = some (pFo M lv nf day w k h, X) := y1
      obtain ⟨y, hy, ey⟩ := pFo_0 (M := M) (lv := lv) (nf := nf) (w := w) (j := k) (h := h) (day := day)
      obtain ⟨A, a1, a2⟩ := ih (k + 1) f N (by omega) kN
      obtain ⟨B, b1, b2⟩ := ih (k + 1) f X (by omega) (kN.trans y2)
      show ∃ X, B_PotSearch_isEnough_3 ld (nI h) day (H_PotSearch_isEnough_3 ld (nI h) day (f + 1 + s)) (nI k) N = some (b32 (decide (ls k ≤ pFo M lv nf day w k h) && allK (fun j => decide (ls j ≤ pFo M lv nf day w j h)) s (k + 1)), X) ∧ _
      generalize H_PotSearch_isEnough_3 ld (nI h) day (f + 1 + s) = H at a1 b1 ⊢
      unfold B_PotSearch_isEnough_3 J_PotSearch_isEnough_53
      rw [if_neg (by rw [show (3 : Int32) = nI 3 from rfl, nI_leI (by omega) (by omega)]; omega), s_at (by omega) (by decide), bI_s, fr 392 k (by decide) (by decide), e2 k (by omega), nmI_e, nI_1]
      by_cases z : l = 0
      · rw [if_pos (by rw [el, z]; decide), decide_eq_true (by rw [el, z, ey, nI_leI (by omega) (by omega)]; omega), Bool.true_and]
        exact ⟨A, a1, a2⟩
      · rw [if_neg (by rw [el, show (0 : Int32) = nI 0 from rfl, nI_leI (by omega) (by omega)]; omega), s_at (by omega) (by decide), bI_s, fr 394 k (by decide) (by decide), e4 k (by omega), fr 391 3 (by decide) (by decide), e3, y1', bI2_s]
        by_cases u : ls k ≤ pFo M lv nf day w k h
        · rw [if_pos u, decide_eq_true u, Bool.true_and]
          exact ⟨B, b1, b2⟩
        · rw [if_neg u, decide_eq_false u, Bool.false_and]
          exact ⟨X, rfl, kN.trans y2⟩
  unfold F_PotSearch_isEnough
  obtain ⟨f, hf⟩ := FU_k (1 + 3) (by omega)
  rw [hf, ← Nat.add_assoc]
  exact key 3 0 f N0 (by omega) Kl.rf
end CP
end PAR59
end MG17x6
section MG17x7
/-! pot, by the class: the search -/
section PAR60
section CQ
variable {D Q q ld lv nf nd ng ne : Nat} {M M' M1 Mc Mb : gM} {L : gL} {r : Nat → Int32}
/-- the best so far, in the class's places; hs heats are tried -/
def CpS (M : gM) (lv nf hs : Nat) (o : Option (Nat × Nat)) (N : gM) : Prop := match o with
  | none => N 391 9 = 0
  | some (w, h) => N 391 9 = 1 ∧ N 391 6 = pPr M lv nf w ∧ N 391 7 = nI (sd7 6 w) ∧ N 391 8 = nI h ∧ h < hs ∧ ∀ f, f < 6 → N 395 f = nI (d7 w (5 - f))
theorem CpS.k {hs : Nat} {o : Option (Nat × Nat)} {N N' : gM} (h : CpS M lv nf hs o N) (e : ∀ c j, (c = 391 ∧ 6 ≤ j ∧ j ≤ 9) ∨ c = 395 → N' c j = N c j) : CpS M lv nf hs o N' := by
  match o, h with
  | none, h => exact (e 391 9 (by omega)).trans h
  | some (w, x), h => exact ⟨(e 391 9 (by omega)).trans h.1, (e 391 6 (by omega)).trans h.2.1, (e 391 7 (by omega)).trans h.2.2.1, (e 391 8 (by omega)).trans h.2.2.2.1, h.2.2.2.2.1, fun f hf => (e 395 f (by omega)).trans (h.2.2.2.2.2 f hf)⟩
def gT7 (c j : Nat) : Prop := C0 c j = true ∨ (c = 391 ∧ 6 ≤ j ∧ j ≤ 9) ∨ c = 395
theorem gT7_0 {M M' : gM} (k : Kl C0 M zL M' zL) : Eo gT7 M M' := fun x y z => k.m (by
  cases q : C0 x y with
  | false => rfl
  | true => exact absurd (Or.inl q) z)
theorem gT7_gP : ∀ c j, gT7 c j → gPp c j := fun c j h => by
  rcases h with h | h | h
  · exact Or.inl h
  · exact Or.inr (by omega)
  · exact Or.inr (by omega)
theorem gT7_n {x y : Nat} (h1 : 64 ≤ x) (h2 : x ≠ 390) (h3 : ¬ ((x = 391 ∧ 6 ≤ y ∧ y ≤ 9) ∨ x = 395)) : ¬ gT7 x y := fun h => by
  rcases h with h | h
  · rw [C0_M h1 h2] at h; cases h
  · exact h3 h
/-- a new best -/
theorem c_take7 {hs w h : Nat} (hh : h < hs) {N : gM} (e4 : N 391 4 = pPr M lv nf w) (e3 : N 391 3 = nI (sd7 6 w)) (hr : Row7 w N) : ∃ X, J_PotSearch_tryHeats_121 ld (nI h) N = some X ∧ CpS M lv nf hs (some (w, h)) X ∧ Eo gT7 N X := by
  unfold J_PotSearch_tryHeats_121
  rw [nmM_e, nmM_e, nmM_e, nmM_e, s_copyRow (by decide) (by decide), bI_s]
  refine ⟨_, rfl, ⟨?_, ?_, ?_, ?_, hh, fun f hf => ?_⟩, fun c j z => ?_⟩
  · rw [fl_out (by omega), uM_diff (by omega), uM_diff (by omega), uM_diff (by omega), uM_same]
  · rw [fl_out (by omega), uM_diff (by omega), uM_diff (by omega), uM_same, uM_diff (by omega)]; exact e4
  · rw [fl_out (by omega), uM_diff (by omega), uM_same, uM_diff (by omega), uM_diff (by omega)]; exact e3
  · rw [fl_out (by omega), uM_same]
  · rw [fl_in (by omega), Nat.sub_zero, uM_diff (by omega), uM_diff (by omega), uM_diff (by omega), uM_diff (by omega)]; exact hr f hf
  · have z1 : ¬ (c = 391 ∧ 6 ≤ j ∧ j ≤ 9) := fun y => z (Or.inr (Or.inl y))
    have z2 : ¬ c = 395 := fun y => z (Or.inr (Or.inr y))
    rw [fl_out (by omega), uM_diff (by omega), uM_diff (by omega), uM_diff (by omega), uM_diff (by omega)]
/-- the heats, one by one -/
theorem c_heats7 (hL : Lnd ld lv nf nd ng ne M) {w below : Nat} {day : Int32} {ls : Nat → Int32} (hls : ∀ j, j < 3 → ∃ l, l ≤ 99 ∧ ls j = nI l) {N0 : gM} (e0 : Eo gPp M N0) (e2 : ∀ j, j < 3 → N0 392 j = ls j) (e3 : N0 391 3 = nI (sd7 6 w)) (e4 : ∀ j, j < 3 → N0 394 j = pSm M lv nf w j) (hb : below ≤ 10) : ∃ X, J_PotSearch_tryHeats_98 ld day (nI below) N0 = (match fs7 (pEn M lv nf day ls w) below 0 with
    | none => some X
    | some h => J_PotSearch_tryHeats_121 ld (nI h) X) ∧ Kl C0 N0 zL X zL := by
  have key : ∀ (s h f : Nat) (N : gM), h + s = below → Kl C0 N0 zL N zL → ∃ X, H_PotSearch_tryHeats_103 ld day (nI below) (f + 1 + s) (nI h) N = (match fs7 (pEn M lv nf day ls w) s h with
      | none => some X
      | some h => J_PotSearch_tryHeats_121 ld (nI h) X) ∧ Kl C0 N0 zL X zL := by
    intro s
    induction s with
    | zero =>
      intro h f N hh kN
      obtain rfl : h = below := by omega
      refine ⟨N, ?_, kN⟩
      show B_PotSearch_tryHeats_103 ld day (nI h) (H_PotSearch_tryHeats_103 ld day (nI h) f) (nI h) N = some N
      generalize H_PotSearch_tryHeats_103 ld day (nI h) f = H
      unfold B_PotSearch_tryHeats_103
      rw [if_pos (by rw [nI_leI (by omega) (by omega)]; omega)]
    | succ s ih =>
      intro h f N hh kN
      have fr : ∀ c j, 391 ≤ c → c ≤ 395 → N c j = N0 c j := fun c j a b => kN.m (C0_M (by omega) (by omega))
      obtain ⟨X, y1, y2⟩ := c_isEnough hL (w := w) (h := h) (day := day) hls (e0.tr (gPp_0 kN)) (fun j hj => (fr 392 j (by omega) (by omega)).trans (e2 j hj)) ((fr 391 3 (by omega) (by omega)).trans e3) (fun j hj => (fr 394 j (by omega) (by omega)).trans (e4 j hj))
      have ih' := ih (h + 1) f X (by omega) (kN.trans y2)
      show ∃ X, B_PotSearch_tryHeats_103 ld day (nI below) (H_PotSearch_tryHeats_103 ld day (nI below) (f + 1 + s)) (nI h) N = (match (if pEn M lv nf day ls w h = true then some h else fs7 (pEn M lv nf day ls w) s (h + 1)) with
        | none => some X
        | some h => J_PotSearch_tryHeats_121 ld (nI h) X) ∧ _
      generalize H_PotSearch_tryHeats_103 ld day (nI below) (f + 1 + s) = H at ih' ⊢
      unfold B_PotSearch_tryHeats_103
      rw [if_neg (by rw [nI_leI (by omega) (by omega)]; omega), y1, bI2_s, nmI_e, nI_1]
      by_cases z : pEn M lv nf day ls w h = true
      · rw [if_pos z, if_neg (fun u => b32_0.mp u z)]
        exact ⟨X, rfl, kN.trans y2⟩
      · rw [if_neg z, if_pos (b32_0.mpr z)]
        exact ih'
  unfold J_PotSearch_tryHeats_98
  obtain ⟨f, hf⟩ := FU_k (1 + below) (by omega)
  rw [hf, ← Nat.add_assoc]
  exact key below 0 f N0 (by omega) Kl.rf
/-- the heats that the class tries are enough -/
theorem fs7_hs {p : Nat → Bool} {hs : Nat} (hh : hs = 10 ∨ (hs = 1 ∧ ∀ h, p h = p 0)) : fs7 p hs 0 = fs7 p 10 0 := by
  rcases hh with h | ⟨h, e⟩
  · rw [h]
  · rw [h]
    have := (fs7_more (p := p) (b := 9) 1 0)
    cases q : fs7 p 1 0 with
    | some x => exact (this.1 x q).symm
    | none =>
      refine ((this.2 q).trans (fs7_no 9 1 (fun x a b => ?_))).symm
      rw [e x]
      intro z
      have q' : (if p 0 = true then some 0 else none) = none := q
      rw [if_pos z] at q'
      cases q'
theorem fs7_cut {p : Nat → Bool} {h0 : Nat} (hb : h0 ≤ 10) : (∀ x, fs7 p h0 0 = some x → x < h0 ∧ fs7 p 10 0 = some x) ∧ (fs7 p h0 0 = none → ∀ x, fs7 p 10 0 = some x → h0 ≤ x) := by
  have m := fs7_more (p := p) (b := 10 - h0) h0 0
  rw [show h0 + (10 - h0) = 10 by omega] at m
  refine ⟨fun x e => ⟨?_, m.1 x e⟩, fun e x e2 => ?_⟩
  · have := fs7_in h0 0 x e
    omega
  · rw [m.2 e] at e2
    have := fs7_in _ _ x e2
    omega
theorem b01_n {x : Int32} (h : x = 0) : b01 x = 0 := by unfold b01; rw [if_pos h]
theorem b01_1 {x : Int32} (h : x = 1) : b01 x = 1 := by unfold b01; rw [h]; decide
/-- a way weighed is held against the best -/
theorem c_tryHeats (hL : Lnd ld lv nf nd ng ne M) {w hs : Nat} {day : Int32} {ls : Nat → Int32} (hls : ∀ j, j < 3 → ∃ l, l ≤ 99 ∧ ls j = nI l) (hh : hs = 10 ∨ (hs = 1 ∧ ∀ w h, pEn M lv nf day ls w h = pEn M lv nf day ls w 0)) {N0 : gM} (e0 : Eo gPp M N0) (e2 : ∀ j, j < 3 → N0 392 j = ls j) (e3 : N0 391 3 = nI (sd7 6 w)) (e4 : ∀ j, j < 3 → N0 394 j = pSm M lv nf w j) (e5 : N0 391 4 = pPr M lv nf w) (e10 : N0 391 10 = nI hs) (hr : Row7 w N0) (hs6 : sd7 6 w ≤ 6) {o : Option (Nat × Nat)} (hC : CpS M lv nf hs o N0) (ho : ∀ w0 h0, o = some (w0, h0) → sd7 6 w0 ≤ 6) : ∃ X, F_PotSearch_tryHeats ld day N0 = some X ∧ Eo gT7 N0 X ∧ CpS M lv nf hs (up7 (pEn M lv nf day ls) (pPr M lv nf) o w) X := by
  have hs10 : hs ≤ 10 := by rcases hh with h | h <;> omega
  have hsp : fs7 (pEn M lv nf day ls w) hs 0 = fs7 (pEn M lv nf day ls w) 10 0 := fs7_hs (by
    rcases hh with h | ⟨h, e⟩
    · exact Or.inl h
    · exact Or.inr ⟨h, e w⟩)
  have back : ∀ {X : gM}, Kl C0 N0 zL X zL → X 391 4 = pPr M lv nf w ∧ X 391 3 = nI (sd7 6 w) ∧ Row7 w X ∧ ∀ o, CpS M lv nf hs o N0 → CpS M lv nf hs o X := fun {X} k => by
    have fr : ∀ c j, 391 ≤ c → c ≤ 395 → X c j = N0 c j := fun c j a b => k.m (C0_M (by omega) (by omega))
    exact ⟨(fr 391 4 (by omega) (by omega)).trans e5, (fr 391 3 (by omega) (by omega)).trans e3, fun f hf => (fr 393 f (by omega) (by omega)).trans (hr f hf), fun o h => h.k (fun c j z => fr c j (by omega) (by omega))⟩
  -- all heats
  have full : ∀ o', (∀ h, fs7 (pEn M lv nf day ls w) 10 0 = some h → o' = some (w, h)) → (fs7 (pEn M lv nf day ls w) 10 0 = none → o' = o) → ∃ X, J_PotSearch_tryHeats_98 ld day (M := N0) (s0 := N0 391 10) = some X ∧ Eo gT7 N0 X ∧ CpS M lv nf hs o' X := fun o' h1 h2 => by
    obtain ⟨X, y1, y2⟩ := c_heats7 hL (w := w) (below := hs) (day := day) hls e0 e2 e3 e4 hs10
    rw [e10, y1]
    obtain ⟨b1, b2, b3, b4⟩ := back y2
    cases q : fs7 (pEn M lv nf day ls w) hs 0 with
    | none =>
      rw [hsp] at q
      exact ⟨X, rfl, gT7_0 y2, by rw [h2 q]; exact b4 o hC⟩
    | some h =>
      have l := fs7_in _ _ _ q
      rw [hsp] at q
      obtain ⟨Y, z1, z2, z3⟩ := c_take7 (ld := ld) (hs := hs) (w := w) (h := h) (by omega) b1 b2 b3
      exact ⟨Y, z1, (gT7_0 y2).tr z3, by rw [h1 h q]; exact z2⟩
  match o, hC, ho, full with
  | none, hC, ho, full =>
    have hC' : N0 391 9 = 0 := hC
    unfold F_PotSearch_tryHeats J_PotSearch_tryHeats_41 J_PotSearch_tryHeats_74 J_PotSearch_tryHeats_75
    rw [b01_n hC', if_pos rfl, if_pos rfl, if_pos rfl]
    exact full _ (fun h e => up7_f e) (fun e => up7_n e)
  | some (w0, h0), hC, ho, full =>
    obtain ⟨c9, c6, c7, c8, c10, c5⟩ := id hC
    have s6 := ho w0 h0 rfl
    have stay : ∀ X : gM, Kl C0 N0 zL X zL → up7 (pEn M lv nf day ls) (pPr M lv nf) (some (w0, h0)) w = some (w0, h0) → some X = some X ∧ Eo gT7 N0 X ∧ CpS M lv nf hs (up7 (pEn M lv nf day ls) (pPr M lv nf) (some (w0, h0)) w) X := fun X k e => ⟨rfl, gT7_0 k, by rw [e]; exact (back k).2.2.2 _ hC⟩
    unfold F_PotSearch_tryHeats
    rw [b01_1 c9, if_neg (by decide), c6, e5]
    by_cases p1 : pPr M lv nf w0 < pPr M lv nf w
    · rw [if_pos p1]
      refine ⟨N0, stay N0 Kl.rf ?_⟩
      cases q : fs7 (pEn M lv nf day ls w) 10 0 with
      | none => exact up7_n q
      | some h =>
        rw [i_lt] at p1
        rw [up7_s q, if_neg (by rw [i_lt]; omega), if_neg (fun z => by rw [z] at p1; omega)]
    rw [if_neg p1]
    by_cases p2 : pPr M lv nf w = pPr M lv nf w0
    rotate_left
    · have p3 : pPr M lv nf w < pPr M lv nf w0 := by
        rw [i_lt] at p1 ⊢
        have : (pPr M lv nf w).toInt ≠ (pPr M lv nf w0).toInt := fun z => p2 (Int32.toInt_inj.mp z)
        omega
      rw [if_neg p2]
      unfold J_PotSearch_tryHeats_41 J_PotSearch_tryHeats_74 J_PotSearch_tryHeats_75
      rw [b01_1 c9, if_neg (by decide), c6, e5, if_neg p2, if_pos rfl]
      exact full _ (fun h e => by rw [up7_s e, if_pos p3]) (fun e => up7_n e)
    have p3 : ¬ pPr M lv nf w < pPr M lv nf w0 := by rw [i_lt, p2]; omega
    rw [if_pos p2, e3, c7]
    by_cases m1 : sd7 6 w0 < sd7 6 w
    · rw [if_neg (by rw [nI_leI (by omega) (by omega)]; omega)]
      refine ⟨N0, stay N0 Kl.rf ?_⟩
      cases q : fs7 (pEn M lv nf day ls w) 10 0 with
      | none => exact up7_n q
      | some h => rw [up7_s q, if_neg p3, if_pos p2, if_neg (by omega), if_neg (by omega)]
    rw [if_pos (by rw [nI_leI (by omega) (by omega)]; omega)]
    unfold J_PotSearch_tryHeats_41
    rw [b01_1 c9, if_neg (by decide), c6, e5, if_pos p2, e3, c7]
    by_cases m2 : sd7 6 w = sd7 6 w0
    rotate_left
    · rw [if_neg (fun z => m2 ((nI_eq (by omega) (by omega)).mp z))]
      unfold J_PotSearch_tryHeats_74 J_PotSearch_tryHeats_75
      rw [if_pos rfl]
      exact full _ (fun h e => by rw [up7_s e, if_neg p3, if_pos p2, if_pos (by omega)]) (fun e => up7_n e)
    rw [if_pos (by rw [m2])]
    unfold J_PotSearch_tryHeats_75
    rw [if_neg (by decide), e10, c8, if_neg (by rw [nI_ltI (by omega) (by omega)]; omega)]
    obtain ⟨X, y1, y2⟩ := c_heats7 hL (w := w) (below := h0) (day := day) hls e0 e2 e3 e4 (by omega)
    obtain ⟨b1, b2, b3, b4⟩ := back y2
    obtain ⟨k1, k2⟩ := fs7_cut (p := pEn M lv nf day ls w) (h0 := h0) (by omega)
    rw [y1]
    cases q : fs7 (pEn M lv nf day ls w) h0 0 with
    | none =>
      refine ⟨X, stay X y2 ?_⟩
      cases q2 : fs7 (pEn M lv nf day ls w) 10 0 with
      | none => exact up7_n q2
      | some h =>
        have := k2 q h q2
        rw [up7_s q2, if_neg p3, if_pos p2, if_neg (by omega), if_pos m2, if_neg (by omega)]
    | some h =>
      obtain ⟨l1, l2⟩ := k1 h q
      obtain ⟨Y, z1, z2, z3⟩ := c_take7 (ld := ld) (hs := hs) (w := w) (h := h) (by omega) b1 b2 b3
      exact ⟨Y, z1, (gT7_0 y2).tr z3, by rw [up7_s l2, if_neg p3, if_pos p2, if_neg (by omega), if_pos m2, if_pos l1]; exact z2⟩
/-- the step to the next pot -/
theorem c_stepDown {st : Nat → Nat} (hst : ∀ j, st j ≤ 99) {W : Nat} (hW : W < q7 6) (hp : pot7 st W) (h0 : W ≠ 0) {N : gM} (h66 : ∀ x, x < 6 → N 66 x = nI (st (5 - x))) (hr : Row7 W N) (e3 : N 391 3 = nI (sd7 6 W)) : ∃ X W', F_PotSearch_stepDown 64 N = some X ∧ Eo gF7 N X ∧ W' < W ∧ pot7 st W' ∧ (∀ w, W' < w → w < W → ¬ pot7 st w) ∧ Row7 W' X := by
  have key : ∀ (j k f : Nat), j + k = 6 → W % q7 k = 0 → ∃ X W', H_PotSearch_stepDown_2 64 N (f + 1 + j) (nI j + -1) = some X ∧ Eo gF7 N X ∧ W' < W ∧ pot7 st W' ∧ (∀ w, W' < w → w < W → ¬ pot7 st w) ∧ Row7 W' X := by
    intro j
    induction j with
    | zero =>
      intro k f hj hz
      obtain rfl : k = 6 := by omega
      rw [Nat.mod_eq_of_lt hW] at hz
      exact absurd hz h0
    | succ j ih =>
      intro k f hj hz
      have d6 := d7_6 W k
      have s6 := hp.2
      have xj : N 393 j = nI (d7 W k) := by rw [hr j (by omega), show 5 - j = k by omega]
      have e0 : H_PotSearch_stepDown_2 64 N (f + 1 + (j + 1)) (nI (j + 1) + -1) = (if d7 W k = 0 then H_PotSearch_stepDown_2 64 N (f + 1 + j) (nI j + -1) else J_PotSearch_stepDown_19 64 (nI j) (nI (d7 W k)) N) := by
        rw [nI_m1]
        show B_PotSearch_stepDown_2 64 N (H_PotSearch_stepDown_2 64 N (f + 1 + j)) (nI j) = _
        generalize H_PotSearch_stepDown_2 64 N (f + 1 + j) = H
        unfold B_PotSearch_stepDown_2
        rw [if_neg (nI_pos (by omega)), s_at (by omega) (by decide), bI_s, xj, nmI_e]
        by_cases z : d7 W k = 0
        · rw [if_pos z, if_pos (by rw [z]; decide)]
        · rw [if_neg z, if_neg (by rw [show (0 : Int32) = nI 0 from rfl, nI_leI (by omega) (by omega)]; omega)]
      rw [e0]
      by_cases z : d7 W k = 0
      · rw [if_pos z]
        exact ih (k + 1) f (by omega) (by rw [q7_mod, hz, z]; rfl)
      rw [if_neg z]
      obtain ⟨W', w0, w1, w2, w3, w4, w5, w6⟩ := step7 hW hp (by omega) hz (by omega)
      obtain ⟨g, hg⟩ := FU_k (1 + k) (by omega)
      obtain ⟨X, y1, y2, y3, y4⟩ := c_fill hst k (7 - sd7 6 W) g (uM N 393 j (nI (d7 W k - 1))) (by omega) (by omega) (fun x hx => by rw [uM_diff (by omega)]; exact h66 x hx)
      refine ⟨X, W', ?_, (Eo.rf.u (show gF7 393 j from rfl)).tr y2, w2, w3, w4, fun x hx => ?_⟩
      · unfold J_PotSearch_stepDown_19
        rw [show nI (d7 W k) - 1 = nI (d7 W k - 1) by rw [show (1 : Int32) = nI 1 from rfl, nI_sub (by omega)], s_put (by omega) (by decide), bI_s, uM_diff (show ¬ ((391 : Nat) = 393 ∧ 3 = j) by omega), e3, nI_1, show (6 : Int32) - nI (sd7 6 W) + 1 = nI (7 - sd7 6 W) by rw [show (6 : Int32) = nI 6 from rfl, nI_sub s6, nI_1, show 6 - sd7 6 W + 1 = 7 - sd7 6 W by omega]]
        unfold F_PotSearch_fillFrom
        rw [hg, ← Nat.add_assoc, show j + 1 = 6 - k by omega, y1, bI_s]
      · by_cases a : x < 6 - k
        · rw [y3 x a]
          by_cases b : x = j
          · have := w5 0 (by omega)
            rw [if_pos rfl, Nat.add_zero] at this
            rw [b, uM_same, show 5 - j = k by omega, this]
          · have := w5 (5 - x - k) (by omega)
            rw [if_neg (by omega), show k + (5 - x - k) = 5 - x by omega] at this
            rw [uM_diff (by omega), hr x hx, this]
        · rw [y4 x (by omega) hx, w6 (5 - x) (by omega)]
  unfold F_PotSearch_stepDown
  obtain ⟨f, hf⟩ := FU_k (1 + 6) (by omega)
  rw [hf, ← Nat.add_assoc, show (5 : Int32) = nI 6 + -1 by decide]
  exact key 6 0 f (by omega) (Nat.mod_one W)
end CQ
end PAR60
end MG17x7
section MG17x8
/-! pot, by the class: all pots -/
section PAR61
theorem ps7_in {st : Nat → Nat} {p : Nat → Nat → Bool} {pr : Nat → Int32} : ∀ k w h, k ≤ 117648 → ps7 st p pr k = some (w, h) → pot7 st w ∧ h < 10 ∧ 0 < w ∧ w ≤ 117648
  | 0, _, _, _, e => by cases e
  | k + 1, w, h, hk, e => by
    have e' : (if pb7 st (117648 - k) = true then up7 p pr (ps7 st p pr k) (117648 - k) else ps7 st p pr k) = some (w, h) := e
    have ih := ps7_in (st := st) (p := p) (pr := pr) k
    by_cases z : pb7 st (117648 - k) = true
    rotate_left
    · rw [if_neg z] at e'
      exact ih w h (by omega) e'
    rw [if_pos z] at e'
    have hz := pb7_e.mp z
    cases q : fs7 (p (117648 - k)) 10 0 with
    | none =>
      rw [up7_n q] at e'
      exact ih w h (by omega) e'
    | some h1 =>
      have l := fs7_in _ _ _ q
      have new : some (117648 - k, h1) = some (w, h) → pot7 st w ∧ h < 10 ∧ 0 < w ∧ w ≤ 117648 := fun y => by
        obtain ⟨y1, y2⟩ := Prod.mk.inj (Option.some.inj y)
        rw [← y1, ← y2]
        exact ⟨hz, by omega, by omega, by omega⟩
      cases q2 : ps7 st p pr k with
      | none =>
        rw [q2, up7_f q] at e'
        exact new e'
      | some o =>
        obtain ⟨w0, h0⟩ := o
        have old : some (w0, h0) = some (w, h) → pot7 st w ∧ h < 10 ∧ 0 < w ∧ w ≤ 117648 := fun y => ih w h (by omega) (q2.trans y)
        rw [q2, up7_s q] at e'
        by_cases a : pr (117648 - k) < pr w0
        · rw [if_pos a] at e'; exact new e'
        rw [if_neg a] at e'
        by_cases b : pr (117648 - k) = pr w0
        rotate_left
        · rw [if_neg b] at e'; exact old e'
        rw [if_pos b] at e'
        by_cases c : sd7 6 (117648 - k) < sd7 6 w0
        · rw [if_pos c] at e'; exact new e'
        rw [if_neg c] at e'
        by_cases d : sd7 6 (117648 - k) = sd7 6 w0
        rotate_left
        · rw [if_neg d] at e'; exact old e'
        rw [if_pos d] at e'
        by_cases f : h1 < h0
        · rw [if_pos f] at e'; exact new e'
        · rw [if_neg f] at e'; exact old e'
section CR
variable {D Q q ld lv nf nd ng ne : Nat} {M M' M1 Mc Mb : gM} {L : gL} {r : Nat → Int32}
theorem c_potLoop (hL : Lnd ld lv nf nd ng ne M) {st : Nat → Nat} (hst : ∀ j, st j ≤ 99) (hnf : ∀ f, f < 6 → nf ≤ f → st (5 - f) = 0) (h66 : ∀ x, x < 6 → M 66 x = nI (st (5 - x))) {day : Int32} (hday : M 64 0 = day) {ls : Nat → Int32} (hls : ∀ j, j < 3 → ∃ l, l ≤ 99 ∧ ls j = nI l) {hs : Nat} (hh : hs = 10 ∨ (hs = 1 ∧ ∀ w h, pEn M lv nf day ls w h = pEn M lv nf day ls w 0)) : ∀ (s W way f : Nat) (N : gM), W ≤ s → W < q7 6 → pot7 st W → way + cR7 (fun w => decide (sd7 6 w ≤ 6)) W ≤ 923 → Eo gPp M N → (∀ j, j < 3 → N 392 j = ls j) → N 391 10 = nI hs → Row7 W N → CpS M lv nf hs (ps7 st (pEn M lv nf day ls) (pPr M lv nf) (117648 - W)) N → ∃ X, H_PotSearch_find_66 ld 64 (f + 1 + s) (nI way) N = some (if ps7 st (pEn M lv nf day ls) (pPr M lv nf) 117648 = none then 0 else 1, X) ∧ CpS M lv nf hs (ps7 st (pEn M lv nf day ls) (pPr M lv nf) 117648) X := by
  have h6 := hL.nf6
  generalize hp : pEn M lv nf day ls = p at hh
  generalize hpr : pPr M lv nf = pr
  -- the weighing at the head of the loop
  have head : ∀ (W way : Nat) (N : gM), W < q7 6 → pot7 st W → way ≤ 923 → Eo gPp M N → (∀ j, j < 3 → N 392 j = ls j) → N 391 10 = nI hs → Row7 W N → CpS M lv nf hs (ps7 st p pr (117648 - W)) N → ∃ A, (∀ H : Int32 → gM → Option (Int32 × gM), B_PotSearch_find_66 ld 64 H (nI way) N = (if nI (sd7 6 W) = 0 then J_PotSearch_find_86 ld 64 A else bI (F_PotSearch_tryHeats ld day A) (fun M20 => bI (F_PotSearch_stepDown 64 M20) (fun M22 => H (nI (way + 1)) M22)))) ∧ Eo gPp M A ∧ (∀ j, j < 3 → A 392 j = ls j) ∧ A 391 10 = nI hs ∧ Row7 W A ∧ A 391 3 = nI (sd7 6 W) ∧ A 391 4 = pPr M lv nf W ∧ (∀ j, j < 3 → A 394 j = pSm M lv nf W j) ∧ CpS M lv nf hs (ps7 st p pr (117648 - W)) A := by
    intro W way N hW hpot hway e e2 e10 hr hC
    obtain ⟨A, a1, a2, a3, a4, a5⟩ := c_weigh (hL.kP e) (w := W) (fun f hf hn => by
      have := hpot.1 (5 - f) (by omega)
      rw [hnf f hf hn] at this
      omega) hr
    have eA : Eo gPp M A := e.tr (fun c j z => a2 c j (fun y => z (Or.inr (by unfold gW7 at y; omega))))
    rw [pPr_k (gPp_M e)] at a4
    refine ⟨A, fun H => ?_, eA, fun j hj => (a2 392 j (by unfold gW7; omega)).trans (e2 j hj), (a2 391 10 (by unfold gW7; omega)).trans e10, fun f hf => (a2 393 f (by unfold gW7; omega)).trans (hr f hf), a3, a4, fun j hj => by rw [a5 j hj, pSm_k (gPp_M e)], hC.k (fun c j z => a2 c j (by unfold gW7; omega))⟩
    have a64 : A 64 0 = day := (eA 64 0 (gPp_n (by decide) (by decide) (by omega))).trans hday
    unfold B_PotSearch_find_66
    rw [if_neg (by rw [show (924 : Int32) = nI 924 from rfl, nI_leI (by omega) (by omega)]; omega), a1, bI_s, a3, a64]
    simp only [nmI_e, nI_1]
  have stop : ∀ (way f : Nat) (N : gM), pot7 st 0 → way ≤ 923 → Eo gPp M N → (∀ j, j < 3 → N 392 j = ls j) → N 391 10 = nI hs → Row7 0 N → CpS M lv nf hs (ps7 st p pr 117648) N → ∃ X, H_PotSearch_find_66 ld 64 (f + 1) (nI way) N = some (if ps7 st p pr 117648 = none then 0 else 1, X) ∧ CpS M lv nf hs (ps7 st p pr 117648) X := by
    intro way f N hpot hway e e2 e10 hr hC
    obtain ⟨A, a1, _, _, _, _, _, _, _, aC⟩ := head 0 way N (q7_pos 6) hpot hway e e2 e10 hr hC
    refine ⟨A, ?_, aC⟩
    show B_PotSearch_find_66 ld 64 (H_PotSearch_find_66 ld 64 f) (nI way) N = _
    rw [a1, sd7_0, if_pos (by decide)]
    have aC' : CpS M lv nf hs (ps7 st p pr 117648) A := aC
    unfold J_PotSearch_find_86
    cases q : ps7 st p pr 117648 with
    | none =>
      rw [q] at aC'
      rw [b01_n aC', if_pos (Or.inl rfl), if_pos rfl]
    | some o =>
      obtain ⟨w0, h0⟩ := o
      rw [q] at aC'
      rw [b01_1 aC'.1, if_pos (Or.inr rfl), if_neg (fun z => nomatch z)]
  intro s
  induction s with
  | zero =>
    intro W way f N hs' hW hpot hc e e2 e10 hr hC
    obtain rfl : W = 0 := by omega
    exact stop way f N hpot (by omega) e e2 e10 hr hC
  | succ s ih =>
    intro W way f N hs' hW hpot hc e e2 e10 hr hC
    by_cases w0 : W = 0
    · subst w0
      exact stop way (f + 1 + s) N hpot (by omega) e e2 e10 hr hC
    obtain ⟨A, a1, a2, a3, a4, a5, a6, a7, a8, aC⟩ := head W way N hW hpot (by omega) e e2 e10 hr hC
    have hsd : sd7 6 W ≠ 0 := fun z => by
      have := sd7_zero 6 z
      rw [Nat.mod_eq_of_lt hW] at this
      exact w0 this
    rw [← hp] at hh aC ih ⊢
    rw [← hpr] at aC ih ⊢
    have s6 := hpot.2
    obtain ⟨B, b1, b2, b3⟩ := c_tryHeats hL hls hh a2 a3 a6 a8 a7 a4 a5 s6 aC (fun w0 h0 z => (ps7_in _ w0 h0 (by omega) z).1.2)
    have eB : Eo gPp M B := a2.tr (b2.mono gT7_gP)
    have bk : ∀ c j, 64 ≤ c → c ≠ 390 → ¬ ((c = 391 ∧ 6 ≤ j ∧ j ≤ 9) ∨ c = 395) → B c j = A c j := fun c j x y z => b2 c j (gT7_n x y z)
    obtain ⟨X, W', x1, x2, x3, x4, x5, x6⟩ := c_stepDown hst hW hpot w0 (N := B) (fun x hx => (eB 66 x (gPp_n (by decide) (by decide) (by omega))).trans (h66 x hx)) (fun f hf => (bk 393 f (by decide) (by decide) (by omega)).trans (a5 f hf)) ((bk 391 3 (by decide) (by decide) (by omega)).trans a6)
    have cl := cR7_lt (P := fun w => decide (sd7 6 w ≤ 6)) (a := W') (b := W) (decide_eq_true x4.2) x3
    have q6 := q7_6
    have eps : ps7 st (pEn M lv nf day ls) (pPr M lv nf) (117648 - W') = up7 (pEn M lv nf day ls) (pPr M lv nf) (ps7 st (pEn M lv nf day ls) (pPr M lv nf) (117648 - W)) W := by
      have k1 := ps7_skip (st := st) (p := pEn M lv nf day ls) (pr := pPr M lv nf) (a := 117648 - W + 1) (W - 1 - W') (fun k u v => x5 (117648 - k) (by omega) (by omega))
      rw [show 117648 - W + 1 + (W - 1 - W') = 117648 - W' by omega] at k1
      rw [k1]
      show (if pb7 st (117648 - (117648 - W)) = true then up7 _ _ _ (117648 - (117648 - W)) else _) = _
      rw [show 117648 - (117648 - W) = W by omega, if_pos (pb7_e.mpr hpot)]
    obtain ⟨Y, y1, y2⟩ := ih W' (way + 1) f X (by omega) (by omega) x4 (by omega) (eB.tr (fun c j z => x2 c j (fun y => z (Or.inr (by unfold gF7 at y; omega))))) (fun j hj => (x2 392 j (by unfold gF7; omega)).trans ((bk 392 j (by decide) (by decide) (by omega)).trans (a3 j hj))) ((x2 391 10 (by unfold gF7; omega)).trans ((bk 391 10 (by decide) (by decide) (by omega)).trans a4)) x6 (by
      rw [eps]
      exact b3.k (fun c j z => x2 c j (by unfold gF7; omega)))
    refine ⟨Y, ?_, y2⟩
    rw [← y1]
    show B_PotSearch_find_66 ld 64 (H_PotSearch_find_66 ld 64 (f + 1 + s)) (nI way) N = _
    rw [a1, if_neg (nI_ne0 (by omega) (by omega)), b1, bI_s, x1, bI_s]
/-- the class's pot -/
theorem c_pot (hL : Lnd ld lv nf nd ng ne M) {st : Nat → Nat} (hst : ∀ j, st j ≤ 99) (hnf : ∀ f, f < 6 → nf ≤ f → st (5 - f) = 0) (h66 : ∀ x, x < 6 → M 66 x = nI (st (5 - x))) {day : Int32} (hday : M 64 0 = day) {ls : Nat → Int32} (hls : ∀ j, j < 3 → ∃ l, l ≤ 99 ∧ ls j = nI l) : ∃ X hs, F_PotSearch_find ld 64 (ls 0) (ls 1) (ls 2) M = some (if ps7 st (pEn M lv nf day ls) (pPr M lv nf) 117648 = none then 0 else 1, X) ∧ CpS M lv nf hs (ps7 st (pEn M lv nf day ls) (pPr M lv nf) 117648) X := by
  have q6 := q7_6
  obtain ⟨t1, t2, t3⟩ := top7 (st := st)
  have go : ∀ (hs : Nat) (N : gM), (hs = 10 ∨ (hs = 1 ∧ ∀ w h, pEn M lv nf day ls w h = pEn M lv nf day ls w 0)) → Eo gPp M N → (∀ j, j < 3 → N 392 j = ls j) → N 391 9 = 0 → ∃ X, J_PotSearch_find_52 ld 64 (nI hs) N = some (if ps7 st (pEn M lv nf day ls) (pPr M lv nf) 117648 = none then 0 else 1, X) ∧ CpS M lv nf hs (ps7 st (pEn M lv nf day ls) (pPr M lv nf) 117648) X := fun hs N hh e e2 e9 => by
    obtain ⟨g, hg⟩ := FU_k (1 + 6) (by omega)
    have n66 : ∀ x, x < 6 → uM N 391 10 (nI hs) 66 x = nI (st (5 - x)) := fun x hx => by
      rw [uM_diff (by omega)]
      exact (e 66 x (gPp_n (by decide) (by decide) (by omega))).trans (h66 x hx)
    obtain ⟨A, a1, a2, _, a4⟩ := c_fill hst 6 6 g (uM N 391 10 (nI hs)) (Nat.le_refl _) (Nat.le_refl _) n66
    have ak : ∀ c j, c ≠ 393 → A c j = uM N 391 10 (nI hs) c j := fun c j z => a2 c j (by unfold gF7; exact z)
    obtain ⟨f, hf⟩ := FU_k (1 + gr7 st 6 6) (by omega)
    have cl := cR7_lt (P := fun w => decide (sd7 6 w ≤ 6)) (a := gr7 st 6 6) (b := q7 6) (decide_eq_true t1.2) t2
    rw [all7] at cl
    have e0 : ps7 st (pEn M lv nf day ls) (pPr M lv nf) (117648 - gr7 st 6 6) = none := by
      have := ps7_skip (st := st) (p := pEn M lv nf day ls) (pr := pPr M lv nf) (a := 0) (117648 - gr7 st 6 6) (fun k u v => t3 (117648 - k) (by omega) (by omega))
      rw [Nat.zero_add] at this
      exact this
    obtain ⟨X, x1, x2⟩ := c_potLoop hL hst hnf h66 hday hls hh (gr7 st 6 6) (gr7 st 6 6) 0 f A (Nat.le_refl _) t2 t1 (by omega) ((e.u (show gPp 391 10 from Or.inr (by omega))).tr (fun c j z => ak c j (fun y => z (Or.inr (by omega))))) (fun j hj => by rw [ak 392 j (by decide), uM_diff (by omega)]; exact e2 j hj) (by rw [ak 391 10 (by decide), uM_same]) (fun x hx => by rw [a4 x (by omega) hx, gr7_d 6 6 (5 - x) (by decide) (by omega)]) (by
      rw [e0]
      show A 391 9 = 0
      rw [ak 391 9 (by decide), uM_diff (by omega)]
      exact e9)
    refine ⟨X, ?_, x2⟩
    unfold J_PotSearch_find_52
    rw [nmM_e]
    unfold F_PotSearch_fillFrom
    rw [hg, ← Nat.add_assoc, show H_PotSearch_fillFrom_6 64 (g + 1 + 6) 6 0 (uM N 391 10 (nI hs)) = some A from a1, bI_s, Nat.add_assoc g 1 6, ← hg, hf, ← Nat.add_assoc]
    exact x1
  have e7 : Eo gPp M (uM (uM (uM (uM M 392 0 (ls 0)) 392 1 (ls 1)) 392 2 (ls 2)) 391 9 0) := (((Eo.rf.u (show gPp 392 0 from Or.inr (by omega))).u (show gPp 392 1 from Or.inr (by omega))).u (show gPp 392 2 from Or.inr (by omega))).u (show gPp 391 9 from Or.inr (by omega))
  have l7 : ∀ j, j < 3 → uM (uM (uM (uM M 392 0 (ls 0)) 392 1 (ls 1)) 392 2 (ls 2)) 391 9 0 392 j = ls j := fun j hj => by
    rw [uM_diff (by omega)]
    rcases (show j = 0 ∨ j = 1 ∨ j = 2 by omega) with z | z | z <;> subst z
    · rw [uM_diff (by omega), uM_diff (by omega), uM_same]
    · rw [uM_diff (by omega), uM_same]
    · rw [uM_same]
  have n7 : uM (uM (uM (uM M 392 0 (ls 0)) 392 1 (ls 1)) 392 2 (ls 2)) 391 9 0 391 9 = 0 := uM_same
  unfold F_PotSearch_find
  rw [s_put0 (by decide) (by decide), bI_s, s_put1 (by decide) (by decide), bI_s, s_put2 (by decide) (by decide), bI_s, nmM_e]
  generalize uM (uM (uM (uM M 392 0 (ls 0)) 392 1 (ls 1)) 392 2 (ls 2)) 391 9 0 = N at e7 l7 n7 ⊢
  obtain ⟨r9, h9, h9'⟩ := tf_Law_looksAt (Wl0 := ld + 9) (p1 := 1) (M := N) (isLw_9 hL.la)
  rw [h9, bI_s]
  rcases h9' with z | z
  · rw [z] at h9
    rw [if_pos z]
    obtain ⟨X, x1, x2⟩ := go 1 N (Or.inr ⟨rfl, fun w h => by
      unfold pEn
      refine allK_c 3 0 (fun j _ _ => ?_)
      unfold pFo
      rw [← potS_k (gPp_M e7), ← potS_k (gPp_M e7) (c := nI 0), potS_heat (hL.kP e7) h9 _ _ (nI 0) (nI h)]⟩) e7 l7 n7
    exact ⟨X, 1, x1, x2⟩
  · rw [if_neg (by rw [z]; decide)]
    obtain ⟨X, x1, x2⟩ := go 10 N (Or.inl rfl) e7 l7 n7
    exact ⟨X, 10, x1, x2⟩
end CR
end PAR61
end MG17x8
section MG17x9
/-! pot, by the model -/
section PAR62
def mPt (c j : Nat) : Prop := mV c j ∨ c = 438 ∨ (c = 401 ∧ 59 ≤ j ∧ j ≤ 62)
theorem mPt_Q : ∀ c j, mPt c j → mQ c j := fun c j h => by unfold mPt mV at h; unfold mQ; omega
theorem mV_Pt : ∀ c j, mV c j → mPt c j := fun c j h => Or.inl h
theorem sm_bl {g : Nat → Int32} {a : Nat → Nat} : ∀ n, (∀ f, f < n → g f = nI (a f)) → sm g n = nI (bl7 a n)
  | 0, _ => rfl
  | n + 1, h => by
    show sm g n + g n = nI (bl7 a n + a n)
    rw [sm_bl n (fun f hf => h f (by omega)), h n (by omega), nI_add]
theorem pa7_f {st : Nat → Nat} {w j : Nat} (hj : j < 6) (h : st j < d7 w j) : pb7 st w = false := by
  cases q : pb7 st w with
  | false => rfl
  | true =>
    have := (pb7_e.mp q).1 j hj
    omega
section MP
variable {D Q q ld lv nf nd ng ne : Nat} {M M' M1 Mc Mb : gM} {L : gL} {r : Nat → Int32}
/-- the row of amounts in the model -/
def Rm7 (w : Nat) (N : gM) : Prop := ∀ f, f < 6 → N 438 f = nI (d7 w (5 - f))
theorem Rm7.many {w : Nat} {N : gM} (h : Rm7 w N) : sm (N 438) 6 = nI (sd7 6 w) := by
  rw [sm_bl (a := fun x => d7 w (5 - x)) 6 h]
  exact congrArg nI am7_6
theorem m_isPot (hL : Lnd ld lv nf nd ng ne M) {st : Nat → Nat} (hst : ∀ j, st j ≤ 99) (hnf : ∀ f, f < 6 → nf ≤ f → st (5 - f) = 0) {w : Nat} (hw : w < 117649) (w0 : w ≠ 0) (h7 : ∀ x, x < 6 → M 437 x = nI (st (5 - x))) : ∃ X, F_Mod_isPot (nI w) M = some (b32 (pb7 st w), X) ∧ Eo (fun c _ => c = 438) M X ∧ (pb7 st w = true → Rm7 w X) := by
  have h6 := hL.nf6
  have h1 := hL.l1
  have q6 := q7_6
  have key : ∀ (s f g : Nat) (N : gM), f + s = 6 → Eo (fun c _ => c = 438) M N → (∀ x, x < f → N 438 x = nI (d7 w (5 - x)) ∧ d7 w (5 - x) ≤ st (5 - x)) → ∃ X, H_Mod_isPot_2 (nI w) (g + 1 + s) (nI f) N = some (b32 (pb7 st w), X) ∧ Eo (fun c _ => c = 438) M X ∧ (pb7 st w = true → Rm7 w X) := by
    intro s
    induction s with
    | zero =>
      intro f g N hf e hx
      obtain rfl : f = 6 := by omega
      have hR : Rm7 w N := fun f hf => (hx f hf).1
      refine ⟨N, ?_, e, fun _ => hR⟩
      show B_Mod_isPot_2 (nI w) (H_Mod_isPot_2 (nI w) g) (nI 6) N = _
      generalize H_Mod_isPot_2 (nI w) g = H
      unfold B_Mod_isPot_2 J_Mod_isPot_70
      have s1 : sd7 6 w ≠ 0 := fun z => by
        have := sd7_zero 6 z
        rw [Nat.mod_eq_of_lt (by omega)] at this
        exact w0 this
      have s2 : sd7 6 w ≤ 36 := by rw [← am7_6]; exact am7_le 6
      rw [if_pos (by decide), m_potMany, bI_s, hR.many]
      unfold F_Mod_in
      rw [if_neg (by rw [show (1 : Int32) = nI 1 from rfl, nI_ltI (by omega) (by omega)]; omega)]
      by_cases z : sd7 6 w ≤ 6
      · rw [if_neg (by rw [show (6 : Int32) = nI 6 from rfl, nI_ltI (by omega) (by omega)]; omega), bI_s, if_pos (Or.inr rfl), pb7_e.mpr ⟨fun j hj => by
          have := (hx (5 - j) (by omega)).2
          rw [show 5 - (5 - j) = j by omega] at this
          exact this, z⟩]
        rfl
      · rw [if_pos (by rw [show (6 : Int32) = nI 6 from rfl, nI_ltI (by omega) (by omega)]; omega), bI_s, if_pos (Or.inl rfl)]
        have : pb7 st w = false := by
          cases q : pb7 st w with
          | false => rfl
          | true => exact absurd (pb7_e.mp q).2 z
        rw [this]
        rfl
    | succ s ih =>
      intro f g N hf e hx
      have hN : Lnd ld lv nf nd ng ne N := hL.kQ (e.mono (fun c j z => by unfold mQ; have : c = 438 := z; omega))
      have d6 := d7_6 w (5 - f)
      have lp := q7_le (5 - f) (by omega)
      have pp := q7_pos (5 - f)
      have wl : w / q7 (5 - f) < 2 ^ 31 := Nat.lt_of_le_of_lt (Nat.div_le_self _ _) (by omega)
      have e6 : nI w / nI (q7 (5 - f)) - nI w / nI (q7 (5 - f)) / 7 * 7 = nI (d7 w (5 - f)) := by
        rw [pk_div (by omega) pp (by omega), show (7 : Int32) = nI 7 from rfl, pk_rem wl (by decide) (by decide)]
        rfl
      have n7 : N 437 f = nI (st (5 - f)) := (e 437 f (show ¬ (437 : Nat) = 438 by decide)).trans (h7 f (by omega))
      have s9 := hst (5 - f)
      have ih' := fun hd : d7 w (5 - f) ≤ st (5 - f) => ih (f + 1) g (uM N 438 f (nI (d7 w (5 - f)))) (by omega) (e.u rfl) (fun x hx' => by
        by_cases z : x = f
        · rw [z, uM_same]; exact ⟨rfl, hd⟩
        · rw [uM_diff (by omega)]; exact hx x (by omega))
      have e1 : Eo (fun c _ => c = 438) M (uM N 438 f (nI (d7 w (5 - f)))) := e.u rfl
      have e0 : ∀ H : Int32 → gM → Option (Int32 × gM), B_Mod_isPot_2 (nI w) H (nI f) N = (if d7 w (5 - f) = 0 then H (nI (f + 1)) (uM N 438 f (nI (d7 w (5 - f)))) else if nf ≤ f then some (0, uM N 438 f (nI (d7 w (5 - f)))) else if d7 w (5 - f) ≤ st (5 - f) then H (nI (f + 1)) (uM N 438 f (nI (d7 w (5 - f)))) else some (0, uM N 438 f (nI (d7 w (5 - f))))) := fun H => by
        unfold B_Mod_isPot_2 J_Mod_isPot_64
        rw [if_neg (by rw [show (6 : Int32) = nI 6 from rfl, nI_leI (by omega) (by omega)]; omega), show (5 : Int32) - nI f = nI (5 - f) by rw [show (5 : Int32) = nI 5 from rfl, nI_sub (by omega)], m_sevens (by omega), bI_s, if_neg (nI_ne0 pp (by omega)), if_neg (nI_in (by omega) (by omega)), nI_clamp (by omega), e6, nmM_e, if_neg (nI_inc (by omega) (by omega)), uM_same, nmI_e, nI_1, uM_diff (show ¬ ((401 : Nat) = 438 ∧ (18 : Nat) = f) by omega), hN.l18, if_neg (nI_in (by omega) (by omega)), nI_clamp (by omega), uM_diff (show ¬ ((411 : Nat) = 438 ∧ lv = f) by omega), hN.mf, uM_diff (show ¬ ((437 : Nat) = 438 ∧ f = f) by omega), n7, if_neg (nI_inc (by omega) (by omega)), if_neg (nI_inc (by omega) (by omega))]
        by_cases z : d7 w (5 - f) = 0
        · rw [if_pos z, if_pos (by rw [z]; decide)]
        rw [if_neg z, if_neg (by rw [show (0 : Int32) = nI 0 from rfl, nI_leI (by omega) (by omega)]; omega)]
        by_cases y : nf ≤ f
        · rw [if_pos y, if_pos (by rw [nI_leI (by omega) (by omega)]; exact y)]
        rw [if_neg y, if_neg (by rw [nI_leI (by omega) (by omega)]; exact y)]
        by_cases x : d7 w (5 - f) ≤ st (5 - f)
        · rw [if_pos x, if_pos (by rw [nI_leI (by omega) (by omega)]; exact x)]
        · rw [if_neg x, if_neg (by rw [nI_leI (by omega) (by omega)]; exact x)]
      show ∃ X, B_Mod_isPot_2 (nI w) (H_Mod_isPot_2 (nI w) (g + 1 + s)) (nI f) N = _ ∧ _
      rw [e0]
      by_cases z : d7 w (5 - f) = 0
      · rw [if_pos z]
        exact ih' (by omega)
      rw [if_neg z]
      by_cases y : nf ≤ f
      · rw [if_pos y]
        have hb := pa7_f (st := st) (w := w) (j := 5 - f) (by omega) (by rw [hnf f (by omega) y]; omega)
        exact ⟨_, by rw [hb]; rfl, e1, fun q => by rw [hb] at q; cases q⟩
      rw [if_neg y]
      by_cases x : d7 w (5 - f) ≤ st (5 - f)
      · rw [if_pos x]
        exact ih' x
      · rw [if_neg x]
        have hb := pa7_f (st := st) (w := w) (j := 5 - f) (by omega) (by omega)
        exact ⟨_, by rw [hb]; rfl, e1, fun q => by rw [hb] at q; cases q⟩
  unfold F_Mod_isPot
  obtain ⟨g, hg⟩ := FU_k (1 + 6) (by omega)
  rw [hg, ← Nat.add_assoc]
  exact key 6 0 g M (by omega) Eo.rf (fun x hx => absurd hx (Nat.not_lt_zero _))
/-- the force of the model's pot -/
theorem m_force7 {N : gM} (hN : Lnd ld lv nf nd ng ne N) (mN : ∀ c j, 411 ≤ c → c ≤ 432 → N c j = M c j) {w j h : Nat} {day : Int32} (hR : Rm7 w N) (hd : N 437 35 = day) (hj : j < 3) : ∃ X, F_Mod_forceBy (nI j) (nI h) N = some (pFo M lv nf day w j h, X) ∧ Eo mV N X := by
  have h6 := hN.nf6
  obtain ⟨X, x1, x2⟩ := m_forceBy hN (j := j) (heat := nI h) hj
  refine ⟨X, ?_, x2⟩
  rw [x1]
  unfold pFo pSm
  rw [potS_k mN, hR.many, hd, sm_c nf (fun k hk => show N 438 k * N 414 (3 * (6 * lv + k) + j) = nI (d7 w (5 - k)) * M 414 (3 * (6 * lv + k) + j) by rw [hR k (by omega), mN 414 _ (by decide) (by decide)])]
/-- the least heat that is enough -/
theorem m_potAt (hL : Lnd ld lv nf nd ng ne Mb) (mb : ∀ c j, 411 ≤ c → c ≤ 432 → Mb c j = M c j) {w : Nat} {day : Int32} {ls : Nat → Int32} {N0 : gM} (e0 : Eo mQ Mb N0) (hR : Rm7 w N0) (hd : N0 437 35 = day) : ∃ X, F_Mod_potAt (ls 0) (ls 1) (ls 2) N0 = some (oI (fs7 (pEn M lv nf day ls w) 10 0), X) ∧ Eo mV N0 X := by
  have key : ∀ (s h f : Nat) (N : gM), h + s = 10 → Eo mV N0 N → ∃ X, H_Mod_potAt_3 (ls 0) (ls 1) (ls 2) (f + 1 + s) (nI h) N = some (oI (fs7 (pEn M lv nf day ls w) s h), X) ∧ Eo mV N0 X := by
    intro s
    induction s with
    | zero =>
      intro h f N hh eN
      obtain rfl : h = 10 := by omega
      refine ⟨N, ?_, eN⟩
      show B_Mod_potAt_3 (ls 0) (ls 1) (ls 2) (H_Mod_potAt_3 (ls 0) (ls 1) (ls 2) f) (nI 10) N = _
      generalize H_Mod_potAt_3 (ls 0) (ls 1) (ls 2) f = H
      unfold B_Mod_potAt_3
      rw [if_pos (by decide)]
      rfl
    | succ s ih =>
      intro h f N hh eN
      have step : ∀ {A : gM} {j : Nat}, Eo mV N0 A → j < 3 → ∃ X, F_Mod_forceBy (nI j) (nI h) A = some (pFo M lv nf day w j h, X) ∧ Eo mV N0 X := fun {A j} eA hj => by
        have eA' := e0.tr (eA.mono mV_mQ)
        obtain ⟨X, x1, x2⟩ := m_force7 (M := M) (hL.kQ eA') (fun c j a b => (mQ_M eA' c j a b).trans (mb c j a b)) (w := w) (j := j) (h := h) (day := day) (fun f hf => (eA 438 f (by unfold mV; omega)).trans (hR f hf)) ((eA 437 35 (by unfold mV; omega)).trans hd) hj
        exact ⟨X, x1, eA.tr x2⟩
      obtain ⟨A, a1, a2⟩ := step eN (show 0 < 3 by decide)
      obtain ⟨B, b1, b2⟩ := step a2 (show 1 < 3 by decide)
      obtain ⟨C, c1, c2⟩ := step b2 (show 2 < 3 by decide)
      have iA := ih (h + 1) f A (by omega) a2
      have iB := ih (h + 1) f B (by omega) b2
      have iC := ih (h + 1) f C (by omega) c2
      have lt : ∀ {x y : Int32}, x < y → ¬ y ≤ x := fun {x y} z => Int32.not_le.mpr z
      show ∃ X, B_Mod_potAt_3 (ls 0) (ls 1) (ls 2) (H_Mod_potAt_3 (ls 0) (ls 1) (ls 2) (f + 1 + s)) (nI h) N = some (oI (if pEn M lv nf day ls w h = true then some h else fs7 (pEn M lv nf day ls w) s (h + 1)), X) ∧ _
      generalize H_Mod_potAt_3 (ls 0) (ls 1) (ls 2) (f + 1 + s) = H at iA iB iC ⊢
      have hE : pEn M lv nf day ls w h = (decide (ls 0 ≤ pFo M lv nf day w 0 h) && (decide (ls 1 ≤ pFo M lv nf day w 1 h) && (decide (ls 2 ≤ pFo M lv nf day w 2 h) && true))) := rfl
      unfold B_Mod_potAt_3 J_Mod_potAt_46
      rw [hE, if_neg (by rw [show (9 : Int32) = nI 9 from rfl, nI_ltI (by omega) (by omega)]; omega), show F_Mod_forceBy 0 (nI h) N = _ from a1, bI2_s, nmI_e, nI_1]
      by_cases z0 : pFo M lv nf day w 0 h < ls 0
      · rw [if_pos z0, decide_eq_false (lt z0), Bool.false_and, if_neg (by decide)]
        exact iA
      rw [if_neg z0, decide_eq_true (Int32.not_lt.mp z0), Bool.true_and, show F_Mod_forceBy 1 (nI h) A = _ from b1, bI2_s, nmI_e]
      by_cases z1 : pFo M lv nf day w 1 h < ls 1
      · rw [if_pos z1, decide_eq_false (lt z1), Bool.false_and, if_neg (by decide)]
        exact iB
      rw [if_neg z1, decide_eq_true (Int32.not_lt.mp z1), Bool.true_and, show F_Mod_forceBy 2 (nI h) B = _ from c1, bI2_s, nmI_e]
      by_cases z2 : pFo M lv nf day w 2 h < ls 2
      · rw [if_pos z2, decide_eq_false (lt z2), Bool.false_and, if_neg (by decide)]
        exact iC
      · rw [if_neg z2, decide_eq_true (Int32.not_lt.mp z2), Bool.true_and, if_pos rfl]
        exact ⟨C, rfl, c2⟩
  unfold F_Mod_potAt
  obtain ⟨f, hf⟩ := FU_k (1 + 10) (by omega)
  rw [hf, ← Nat.add_assoc]
  exact key 10 0 f N0 (by omega) Eo.rf
/-- the best so far, in the model's places -/
def MpS (M : gM) (lv nf : Nat) (o : Option (Nat × Nat)) (N : gM) : Prop := match o with
  | none => N 401 59 = -1
  | some (w, h) => N 401 59 = nI w ∧ N 401 60 = pPr M lv nf w ∧ N 401 61 = nI (sd7 6 w) ∧ N 401 62 = nI h
theorem MpS.k {o : Option (Nat × Nat)} {N N' : gM} (h : MpS M lv nf o N) (e : ∀ j, 59 ≤ j → j ≤ 62 → N' 401 j = N 401 j) : MpS M lv nf o N' := by
  match o, h with
  | none, h => exact (e 59 (by omega) (by omega)).trans h
  | some (w, x), h => exact ⟨(e 59 (by omega) (by omega)).trans h.1, (e 60 (by omega) (by omega)).trans h.2.1, (e 61 (by omega) (by omega)).trans h.2.2.1, (e 62 (by omega) (by omega)).trans h.2.2.2⟩
theorem m_potPr {N : gM} (hN : Lnd ld lv nf nd ng ne N) (mN : ∀ c j, 411 ≤ c → c ≤ 432 → N c j = M c j) {w : Nat} (hR : Rm7 w N) : F_Mod_potPrice N = some (pPr M lv nf w) := by
  have h6 := hN.nf6
  rw [m_potPrice hN]
  unfold pPr
  rw [sm_c nf (fun k hk => show N 438 k * N 413 (6 * lv + k) = nI (d7 w (5 - k)) * M 413 (6 * lv + k) by rw [hR k (by omega), mN 413 _ (by decide) (by decide)])]
/-- one pot that can be, by the model -/
theorem m_try7 (hL : Lnd ld lv nf nd ng ne Mb) (mb : ∀ c j, 411 ≤ c → c ≤ 432 → Mb c j = M c j) {w : Nat} (hw : w < 117649) {day : Int32} {ls : Nat → Int32} {N : gM} (e0 : Eo mPt Mb N) (hR : Rm7 w N) (hd : N 437 35 = day) (hs6 : sd7 6 w ≤ 6) {o : Option (Nat × Nat)} (ho : ∀ w0 h0, o = some (w0, h0) → sd7 6 w0 ≤ 6 ∧ h0 < 10 ∧ w0 ≤ 117648) (hM : MpS M lv nf o N) {v4 : Int32} (K : Int32 → gM → Option (Int32 × gM)) (v5 : Int32) (hv5 : v5 = nI w) : ∃ X, (if (N 401 59) < 0 then J_Mod_pot_96 K (ls 0) (ls 1) (ls 2) v4 v5 N else bI (F_Mod_potPrice N) (fun r48 => (if r48 ≤ (N 401 60) then J_Mod_pot_96 K (ls 0) (ls 1) (ls 2) v4 v5 N else J_Mod_pot_150 K (ls 0) (ls 1) (ls 2) v4 v5 N))) = K (v5 + -1) X ∧ Eo mPt Mb X ∧ MpS M lv nf (up7 (pEn M lv nf day ls) (pPr M lv nf) o w) X := by
  have e0Q := e0.mono mPt_Q
  have hN := hL.kQ e0Q
  have mN : ∀ c j, 411 ≤ c → c ≤ 432 → N c j = M c j := fun c j a b => (mQ_M e0Q c j a b).trans (mb c j a b)
  obtain ⟨A, a1, a2⟩ := m_potAt (M := M) hL mb (w := w) (day := day) (ls := ls) e0Q hR hd
  have aQ := e0Q.tr (a2.mono mV_mQ)
  have eA : Eo mPt Mb A := e0.tr (a2.mono mV_Pt)
  have hA := hL.kQ aQ
  have mA : ∀ c j, 411 ≤ c → c ≤ 432 → A c j = M c j := fun c j a b => (mQ_M aQ c j a b).trans (mb c j a b)
  have rA : Rm7 w A := fun f hf => (a2 438 f (by unfold mV; omega)).trans (hR f hf)
  have kA : ∀ o, MpS M lv nf o N → MpS M lv nf o A := fun o h => h.k (fun j a b => a2 401 j (by unfold mV; omega))
  -- a new best
  have take : ∀ h, ∃ X, nmM (uM A 401 59 v5) (fun M39 => bI (F_Mod_potPrice M39) (fun r41 => nmM (uM M39 401 60 r41) (fun M42 => bI (F_Mod_potMany M42) (fun r44 => nmM (uM M42 401 61 r44) (fun M45 => nmM (uM M45 401 62 (nI h)) (fun M46 => J_Mod_pot_150 K (ls 0) (ls 1) (ls 2) v4 v5 M46)))))) = K (v5 + -1) X ∧ Eo mPt Mb X ∧ MpS M lv nf (some (w, h)) X := fun h => by
    have u1 : Eo mPt Mb (uM A 401 59 v5) := eA.u (Or.inr (Or.inr (by omega)))
    have p1 := m_potPr (M := M) (hL.kQ (u1.mono mPt_Q)) (fun c j a b => (mQ_M (u1.mono mPt_Q) c j a b).trans (mb c j a b)) (w := w) (fun f hf => by rw [uM_diff (by omega)]; exact rA f hf)
    have r2 : Rm7 w (uM (uM A 401 59 v5) 401 60 (pPr M lv nf w)) := fun f hf => by rw [uM_diff (by omega), uM_diff (by omega)]; exact rA f hf
    refine ⟨uM (uM (uM (uM A 401 59 v5) 401 60 (pPr M lv nf w)) 401 61 (nI (sd7 6 w))) 401 62 (nI h), ?_, (((u1.u (show mPt 401 60 from Or.inr (Or.inr (by omega)))).u (show mPt 401 61 from Or.inr (Or.inr (by omega)))).u (show mPt 401 62 from Or.inr (Or.inr (by omega)))), ?_⟩
    · rw [nmM_e, p1, bI_s, nmM_e, m_potMany, bI_s, nmM_e, nmM_e, r2.many]
      rfl
    · refine ⟨?_, ?_, ?_, ?_⟩
      · rw [uM_diff (by omega), uM_diff (by omega), uM_diff (by omega), uM_same, hv5]
      · rw [uM_diff (by omega), uM_diff (by omega), uM_same]
      · rw [uM_diff (by omega), uM_same]
      · rw [uM_same]
  -- the look at the heats
  have look : ∀ o', (∀ h, fs7 (pEn M lv nf day ls w) 10 0 = some h → F_Mod_isBetter (nI h) A = some 1 ∧ o' = some (w, h) ∨ F_Mod_isBetter (nI h) A = some 0 ∧ o' = o) → (fs7 (pEn M lv nf day ls w) 10 0 = none → o' = o) → ∃ X, J_Mod_pot_96 K (ls 0) (ls 1) (ls 2) v4 v5 N = K (v5 + -1) X ∧ Eo mPt Mb X ∧ MpS M lv nf o' X := fun o' h1 h2 => by
    unfold J_Mod_pot_96
    rw [a1, bI2_s]
    cases q : fs7 (pEn M lv nf day ls w) 10 0 with
    | none =>
      rw [if_pos (show oI none < 0 by decide), h2 q]
      exact ⟨A, rfl, eA, kA _ hM⟩
    | some h =>
      have l := fs7_in _ _ _ q
      rw [if_neg (show ¬ oI (some h) < 0 from nI_pos (by omega))]
      rcases h1 h q with ⟨b1, b2⟩ | ⟨b1, b2⟩
      · rw [show F_Mod_isBetter (oI (some h)) A = some 1 from b1, bI_s, if_neg (by decide), b2]
        exact take h
      · rw [show F_Mod_isBetter (oI (some h)) A = some 0 from b1, bI_s, if_pos rfl, b2]
        exact ⟨A, rfl, eA, kA _ hM⟩
  match o, ho, hM, kA, look with
  | none, ho, hM, kA, look =>
    have h59 : N 401 59 = -1 := hM
    rw [h59, if_pos (by decide)]
    refine look _ (fun h q => Or.inl ⟨?_, up7_f q⟩) (fun q => up7_n q)
    unfold F_Mod_isBetter
    rw [show A 401 59 = -1 from kA none hM, if_neg (by decide)]
  | some (w0, h0), ho, hM, kA, look =>
    obtain ⟨s0, hh0, hw0⟩ := ho w0 h0 rfl
    have hAo := kA _ hM
    obtain ⟨m59, m60, m61, m62⟩ := id hM
    have stay : J_Mod_pot_150 K (ls 0) (ls 1) (ls 2) v4 v5 N = K (v5 + -1) N := rfl
    have better : ∀ h, h < 10 → F_Mod_isBetter (nI h) A = some (if pPr M lv nf w < pPr M lv nf w0 then 1 else if pPr M lv nf w = pPr M lv nf w0 then (if sd7 6 w < sd7 6 w0 then 1 else if sd7 6 w = sd7 6 w0 then (if h < h0 then 1 else 0) else 0) else 0) := fun h hh => by
      unfold F_Mod_isBetter
      rw [hAo.1, if_pos (nI_pos' (by omega)), m_potPr (M := M) hA mA rA, bI_s, bI_s, hAo.2.1, m_potMany, bI_s, bI_s, rA.many, hAo.2.2.1, hAo.2.2.2]
      by_cases p2 : pPr M lv nf w = pPr M lv nf w0
      · rw [if_pos p2, if_neg (show ¬ pPr M lv nf w < pPr M lv nf w0 by rw [i_lt, p2]; omega), if_pos p2]
        by_cases m2 : sd7 6 w = sd7 6 w0
        · rw [if_pos (by rw [m2]), if_neg (show ¬ sd7 6 w < sd7 6 w0 by omega), if_pos m2]
          by_cases l : h < h0
          · rw [if_pos l, if_neg (by rw [nI_leI (by omega) (by omega)]; omega)]
          · rw [if_neg l, if_pos (by rw [nI_leI (by omega) (by omega)]; omega)]
        · rw [if_neg (fun z => m2 ((nI_eq (by omega) (by omega)).mp z)), if_neg m2]
          by_cases l : sd7 6 w < sd7 6 w0
          · rw [if_pos l, if_neg (by rw [nI_leI (by omega) (by omega)]; omega)]
          · rw [if_neg l, if_pos (by rw [nI_leI (by omega) (by omega)]; omega)]
      · rw [if_neg p2, if_neg p2]
        by_cases l : pPr M lv nf w < pPr M lv nf w0
        · rw [if_pos l, if_neg (Int32.not_le.mpr l)]
        · rw [if_neg l, if_pos (Int32.not_lt.mp l)]
    rw [m59, if_neg (nI_pos (by omega)), m_potPr (M := M) hN mN hR, bI_s, m60]
    by_cases p1 : pPr M lv nf w ≤ pPr M lv nf w0
    rotate_left
    · rw [if_neg p1]
      refine ⟨N, stay, e0, ?_⟩
      cases q : fs7 (pEn M lv nf day ls w) 10 0 with
      | none => rw [up7_n q]; exact hM
      | some h =>
        rw [i_le] at p1
        rw [up7_s q, if_neg (show ¬ pPr M lv nf w < pPr M lv nf w0 by rw [i_lt]; omega), if_neg (fun z => by rw [z] at p1; omega)]
        exact hM
    rw [if_pos p1]
    refine look _ (fun h q => ?_) (fun q => up7_n q)
    have l := fs7_in _ _ _ q
    rw [better h (by omega), up7_s q]
    by_cases c1 : pPr M lv nf w < pPr M lv nf w0
    · rw [if_pos c1, if_pos c1]; exact Or.inl ⟨rfl, rfl⟩
    rw [if_neg c1, if_neg c1]
    by_cases c2 : pPr M lv nf w = pPr M lv nf w0
    rotate_left
    · rw [if_neg c2, if_neg c2]; exact Or.inr ⟨rfl, rfl⟩
    rw [if_pos c2, if_pos c2]
    by_cases c3 : sd7 6 w < sd7 6 w0
    · rw [if_pos c3, if_pos c3]; exact Or.inl ⟨rfl, rfl⟩
    rw [if_neg c3, if_neg c3]
    by_cases c4 : sd7 6 w = sd7 6 w0
    rotate_left
    · rw [if_neg c4, if_neg c4]; exact Or.inr ⟨rfl, rfl⟩
    rw [if_pos c4, if_pos c4]
    by_cases c5 : h < h0
    · rw [if_pos c5, if_pos c5]; exact Or.inl ⟨rfl, rfl⟩
    · rw [if_neg c5, if_neg c5]; exact Or.inr ⟨rfl, rfl⟩
theorem m_potLoop (hL : Lnd ld lv nf nd ng ne Mb) (mb : ∀ c j, 411 ≤ c → c ≤ 432 → Mb c j = M c j) {st : Nat → Nat} (hst : ∀ j, st j ≤ 99) (hnf : ∀ f, f < 6 → nf ≤ f → st (5 - f) = 0) (h7 : ∀ x, x < 6 → Mb 437 x = nI (st (5 - x))) {day : Int32} (hd : Mb 437 35 = day) {ls : Nat → Int32} {v4 : Int32} : ∀ (w f : Nat) (N : gM), w ≤ 117648 → Eo mPt Mb N → MpS M lv nf (ps7 st (pEn M lv nf day ls) (pPr M lv nf) (117648 - w)) N → ∃ X, H_Mod_pot_61 (ls 0) (ls 1) (ls 2) v4 (f + 1 + w) (nI w) N = J_Mod_pot_156 v4 X ∧ MpS M lv nf (ps7 st (pEn M lv nf day ls) (pPr M lv nf) 117648) X := by
  intro w
  induction w with
  | zero =>
    intro f N _ e hM
    refine ⟨N, ?_, hM⟩
    show B_Mod_pot_61 (ls 0) (ls 1) (ls 2) v4 (H_Mod_pot_61 (ls 0) (ls 1) (ls 2) v4 f) (nI 0) N = _
    generalize H_Mod_pot_61 (ls 0) (ls 1) (ls 2) v4 f = H
    unfold B_Mod_pot_61
    rw [if_pos (by decide)]
  | succ w ih =>
    intro f N hw e hM
    have eQ := e.mono mPt_Q
    have fr : ∀ x, N 437 x = Mb 437 x := fun x => e 437 x (by unfold mPt mV; omega)
    obtain ⟨A, a1, a2, a3⟩ := m_isPot (hL.kQ eQ) hst hnf (w := w + 1) (by omega) (by omega) (fun x hx => (fr x).trans (h7 x hx))
    have eA : Eo mPt Mb A := e.tr (fun c j z => a2 c j (fun y => z (Or.inr (Or.inl y))))
    have aM : MpS M lv nf (ps7 st (pEn M lv nf day ls) (pPr M lv nf) (117648 - (w + 1))) A := hM.k (fun j a b => a2 401 j (show ¬ (401 : Nat) = 438 by decide))
    have hu : ps7 st (pEn M lv nf day ls) (pPr M lv nf) (117648 - w) = if pb7 st (w + 1) = true then up7 (pEn M lv nf day ls) (pPr M lv nf) (ps7 st (pEn M lv nf day ls) (pPr M lv nf) (117648 - (w + 1))) (w + 1) else ps7 st (pEn M lv nf day ls) (pPr M lv nf) (117648 - (w + 1)) := by
      rw [show 117648 - w = 117648 - (w + 1) + 1 by omega]
      show (if pb7 st (117648 - (117648 - (w + 1))) = true then up7 _ _ _ (117648 - (117648 - (w + 1))) else _) = _
      rw [show 117648 - (117648 - (w + 1)) = w + 1 by omega]
    have hn := ih f
    show ∃ X, B_Mod_pot_61 (ls 0) (ls 1) (ls 2) v4 (H_Mod_pot_61 (ls 0) (ls 1) (ls 2) v4 (f + 1 + w)) (nI (w + 1)) N = _ ∧ _
    generalize H_Mod_pot_61 (ls 0) (ls 1) (ls 2) v4 (f + 1 + w) = H at hn ⊢
    unfold B_Mod_pot_61
    rw [if_neg (by rw [show (0 : Int32) = nI 0 from rfl, nI_leI (by omega) (by omega)]; omega), a1, bI2_s]
    by_cases z : pb7 st (w + 1) = true
    rotate_left
    · rw [if_neg z] at hu
      obtain ⟨X, x1, x2⟩ := hn A (by omega) eA (by rw [hu]; exact aM)
      refine ⟨X, ?_, x2⟩
      rw [if_pos (b32_0.mpr z), ← x1]
      unfold J_Mod_pot_150
      rw [nmI_e, nI_m1]
    rw [if_pos z] at hu
    rw [if_neg (fun y => b32_0.mp y z)]
    obtain ⟨B, b1, b2, b3⟩ := m_try7 (M := M) hL mb (w := w + 1) (by omega) (day := day) (ls := ls) eA (a3 z) ((a2 437 35 (show ¬ (437 : Nat) = 438 by decide)).trans ((fr 35).trans hd)) (pb7_e.mp z).2 (o := ps7 st (pEn M lv nf day ls) (pPr M lv nf) (117648 - (w + 1))) (fun w0 h0 y => by
      obtain ⟨y1, y2, y3, y4⟩ := ps7_in _ w0 h0 (by omega) y
      exact ⟨y1.2, y2, y4⟩) aM (v4 := v4) H (nI (w + 1)) rfl
    rw [b1, nI_m1]
    exact hn B (by omega) b2 (by rw [hu]; exact b3)
/-- the answer of a pot -/
def ptS (M : gM) (lv nf : Nat) (o : Option (Nat × Nat)) (k : Nat) : Int32 := match o with
  | none => -2
  | some (w, h) => if k = 0 then pPr M lv nf w else if k = 1 then nI h else nI (d7 w (7 - k))
theorem m_potEnd {o : Option (Nat × Nat)} (ho : ∀ w0 h0, o = some (w0, h0) → w0 ≤ 117648) {X : gM} (hM : MpS M lv nf o X) {k : Nat} (hk : k ≤ 7) : J_Mod_pot_156 (nI k) X = some (ptS M lv nf o k, X) := by
  unfold J_Mod_pot_156
  cases o with
  | none =>
    rw [show X 401 59 = -1 from hM, if_neg (by decide)]
    rfl
  | some p =>
    obtain ⟨w, h⟩ := p
    have hw := ho w h rfl
    rw [hM.1, if_pos (nI_pos' (by omega)), hM.2.1, hM.2.2.2]
    show _ = some (if k = 0 then pPr M lv nf w else if k = 1 then nI h else nI (d7 w (7 - k)), X)
    by_cases k0 : k = 0
    · rw [if_pos k0, if_pos (by rw [k0]; rfl)]
    rw [if_neg k0, if_neg (nI_ne0 (by omega) (by omega))]
    by_cases k1 : k = 1
    · rw [if_pos k1, if_pos (by rw [k1]; rfl)]
    have lp := q7_le (7 - k) (by omega)
    have pp := q7_pos (7 - k)
    have wl : w / q7 (7 - k) < 2 ^ 31 := Nat.lt_of_le_of_lt (Nat.div_le_self _ _) (by omega)
    rw [if_neg k1, if_neg (show ¬ nI k = (1 : Int32) from fun z => k1 ((nI_eq (a := k) (b := 1) (by omega) (by omega)).mp z)), show (7 : Int32) - nI k = nI (7 - k) by rw [show (7 : Int32) = nI 7 from rfl, nI_sub (by omega)], m_sevens (by omega), bI_s, if_neg (nI_ne0 pp (by omega)), pk_div (by omega) pp (by omega), show (7 : Int32) = nI 7 from rfl, pk_rem wl (by decide) (by decide)]
    rfl
theorem c_potEnd {hs : Nat} {o : Option (Nat × Nat)} {X : gM} (hC : CpS M lv nf hs o X) {k : Nat} (hk : k ≤ 7) : (if (if o = none then (0 : Int32) else 1) = 0 then some ((-2 : Int32), X) else (if nI k = 0 then some ((X 391 6), X) else (if nI k = 1 then some ((X 391 8), X) else bI (F_Main_at 395 6 (nI k - 2) X) (fun r20 => some (r20, X))))) = some (ptS M lv nf o k, X) := by
  cases o with
  | none => rw [if_pos rfl, if_pos rfl]; rfl
  | some p =>
    obtain ⟨w, h⟩ := p
    rw [if_neg (show ¬ (some (w, h) = (none : Option (Nat × Nat))) from fun z => nomatch z), if_neg (show ¬ (1 : Int32) = 0 by decide), hC.2.1, hC.2.2.2.1]
    show _ = some (if k = 0 then pPr M lv nf w else if k = 1 then nI h else nI (d7 w (7 - k)), X)
    by_cases k0 : k = 0
    · rw [if_pos k0, if_pos (by rw [k0]; rfl)]
    rw [if_neg k0, if_neg (nI_ne0 (by omega) (by omega))]
    by_cases k1 : k = 1
    · rw [if_pos k1, if_pos (by rw [k1]; rfl)]
    rw [if_neg k1, if_neg (show ¬ nI k = (1 : Int32) from fun z => k1 ((nI_eq (a := k) (b := 1) (by omega) (by omega)).mp z)), show nI k - 2 = nI (k - 2) by rw [show (2 : Int32) = nI 2 from rfl, nI_sub (by omega)], s_at (by omega) (by decide), bI_s, hC.2.2.2.2.2 (k - 2) (by omega), show 5 - (k - 2) = 7 - k by omega]
theorem v_pot (h : G1 q ld M L) (hq : q < 512) (a b c d : Int32) : ∃ r M1 r' M2, F_Main_pot ld a b c d M = some (r, M1) ∧ F_Mod_pot a b c d M1 = some (r', M2) ∧ G1 (q + 1) ld M2 L ∧ r = r' := by
  obtain ⟨r, M1, e1, -, k1⟩ := tf_Main_pot (p1 := a) (p2 := b) (p3 := c) (p4 := d) (M := M) h.1.la
  have g1 := h.1.kC1 k1
  obtain ⟨r', M2, e2, -, k2⟩ := tf_Mod_pot (p0 := a) (p1 := b) (p2 := c) (p3 := d) g1.inv
  refine ⟨r, M1, r', M2, e1, e2, h.q2 (g1.kM1 k2) k1 k2, ?_⟩
  obtain ⟨lv, nf, nd, ng, ne, hL, hS⟩ := h.get
  obtain ⟨hL1, m1, Mc, x1, x2, x3, hLc, mc⟩ := cop hL k1
  unfold F_Main_pot at e1
  unfold F_Mod_pot at e2
  rcases one_in0 a (n := 99) (by decide) with ⟨d1, d2⟩ | ⟨l0, h0, rfl, d1, d2⟩
  · rw [show F_Main_isOne a 100 = some 0 from d1, bI_s, if_pos rfl] at e1
    rw [show F_Mod_in a 0 99 = some 0 from d2, bI_s, if_pos rfl] at e2
    exact pair_fin e1 e2 rfl
  rw [show F_Main_isOne (nI l0) 100 = some 1 from d1, bI_s, if_neg (by decide)] at e1
  rw [show F_Mod_in (nI l0) 0 99 = some 1 from d2, bI_s, if_neg (by decide)] at e2
  rcases one_in0 b (n := 99) (by decide) with ⟨d1, d2⟩ | ⟨l1, h1, rfl, d1, d2⟩
  · rw [show F_Main_isOne b 100 = some 0 from d1, bI_s, if_pos rfl] at e1
    rw [show F_Mod_in b 0 99 = some 0 from d2, bI_s, if_pos rfl] at e2
    exact pair_fin e1 e2 rfl
  rw [show F_Main_isOne (nI l1) 100 = some 1 from d1, bI_s, if_neg (by decide)] at e1
  rw [show F_Mod_in (nI l1) 0 99 = some 1 from d2, bI_s, if_neg (by decide)] at e2
  rcases one_in0 c (n := 99) (by decide) with ⟨d1, d2⟩ | ⟨l2, h2, rfl, d1, d2⟩
  · rw [show F_Main_isOne c 100 = some 0 from d1, bI_s, if_pos rfl] at e1
    rw [show F_Mod_in c 0 99 = some 0 from d2, bI_s, if_pos rfl] at e2
    exact pair_fin e1 e2 rfl
  rw [show F_Main_isOne (nI l2) 100 = some 1 from d1, bI_s, if_neg (by decide)] at e1
  rw [show F_Mod_in (nI l2) 0 99 = some 1 from d2, bI_s, if_neg (by decide)] at e2
  rcases one_in0 d (n := 7) (by decide) with ⟨d1, d2⟩ | ⟨k, hk, rfl, d1, d2⟩
  · rw [show F_Main_isOne d 8 = some 0 from d1, bI_s, if_pos rfl] at e1
    rw [show F_Mod_in d 0 7 = some 0 from d2, bI_s, if_pos rfl] at e2
    exact pair_fin e1 e2 rfl
  rw [show F_Main_isOne (nI k) 8 = some 1 from d1, bI_s, if_neg (by decide)] at e1
  rw [show F_Mod_in (nI k) 0 7 = some 1 from d2, bI_s, if_neg (by decide), x1, bI_s, nmM_e, show F_Mod_sevens 6 = some (nI (q7 6)) from m_sevens (k := 6) (by decide), bI_s, nmI_e, show nI (q7 6) - 1 = nI 117648 by rw [q7_6]; decide] at e2
  have hSt := hS.1.2.2.2.2.2.1
  have key : ∀ j, ∃ x, x ≤ 99 ∧ (j < 6 → M 66 (5 - j) = nI x ∧ M 436 (5 - j) = nI x ∧ (nf ≤ 5 - j → x = 0)) := fun j => by
    by_cases hj : j < 6
    · obtain ⟨x, y1, y2, y3, y4⟩ := hSt (5 - j) (by omega)
      exact ⟨x, y1, fun _ => ⟨y2, y3, y4⟩⟩
    · exact ⟨0, by omega, fun z => absurd z hj⟩
  obtain ⟨st, hst⟩ := Classical.axiomOfChoice key
  have s1 : ∀ j, st j ≤ 99 := fun j => (hst j).1
  have s2 : ∀ f, f < 6 → M 66 f = nI (st (5 - f)) ∧ M 436 f = nI (st (5 - f)) ∧ (nf ≤ f → st (5 - f) = 0) := fun f hf => by
    have := (hst (5 - f)).2 (by omega)
    rw [show 5 - (5 - f) = f by omega] at this
    exact this
  generalize hls : (fun j : Nat => if j = 0 then nI l0 else if j = 1 then nI l1 else nI l2) = ls
  have ls0 : ls 0 = nI l0 := by rw [← hls]; rfl
  have ls1 : ls 1 = nI l1 := by rw [← hls]; rfl
  have ls2 : ls 2 = nI l2 := by rw [← hls]; rfl
  have lsx : ∀ j, j < 3 → ∃ l, l ≤ 99 ∧ ls j = nI l := fun j hj => by
    rcases (show j = 0 ∨ j = 1 ∨ j = 2 by omega) with z | z | z <;> subst z
    · exact ⟨l0, h0, ls0⟩
    · exact ⟨l1, h1, ls1⟩
    · exact ⟨l2, h2, ls2⟩
  obtain ⟨X, hs, y1, y2⟩ := c_pot hL s1 (fun f hf hn => (s2 f hf).2.2 hn) (fun f hf => (s2 f hf).1) (day := M 436 35) hS.1.d0 lsx
  rw [← ls0, ← ls1, ← ls2] at e1 e2
  rw [y1, bI2_s, c_potEnd y2 hk] at e1
  obtain ⟨f, hf⟩ := FU_k (1 + 117648) (by omega)
  obtain ⟨Y, z1, z2⟩ := m_potLoop (M := M) hLc mc s1 (fun f hf hn => (s2 f hf).2.2 hn) (fun x hx => (x2 x (by omega)).trans (s2 x hx).2.1) (day := M 436 35) (x2 35 (by omega)) (ls := ls) (v4 := nI k) 117648 f (uM Mc 401 59 (-1)) (Nat.le_refl _) (Eo.rf.u (Or.inr (Or.inr (by omega)))) (show uM Mc 401 59 (-1) 401 59 = -1 from uM_same)
  rw [hf, ← Nat.add_assoc, z1, m_potEnd (fun w0 h0 y => (ps7_in _ w0 h0 (Nat.le_refl _) y).2.2.2) z2 hk] at e2
  exact pair_fin e1 e2 rfl
end MP
end PAR62
end MG17x9
