section MG14x0
/-! what a law comes to: a step, a sum -/
section PAR30
def opv (op : Nat) (a b : Int32) : Int32 := if op = 2 then a + b else if op = 3 then a - b else if op = 4 then a * b else a / b
def stp (k v : Int32) (vs : Nat → Int32) (s : List Int32) : Option (List Int32) :=
  if k = 0 then some (v :: s) else if k = 1 then some (vs v.toNatClampNeg :: s) else match s with
  | b :: a :: r => if k = 5 ∧ b = 0 then none else some ((if k = 2 then a + b else if k = 3 then a - b else if k = 4 then a * b else a / b) :: r)
  | _ => none
def evs (N : gM) (c : Nat) (vs : Nat → Int32) : Nat → Option (List Int32)
  | 0 => some []
  | k + 1 => bI (evs N c vs k) (fun s => stp (N 431 (c + k)) (N 432 (c + k)) vs s)
def K6 (k v : Int32) : Prop := k = nI 0 ∨ (k = nI 1 ∧ ∃ x, x < 9 ∧ v = nI x) ∨ ∃ op, 2 ≤ op ∧ op ≤ 5 ∧ k = nI op
def Sgm (N : gM) (c l : Nat) : Prop := vdp N c l = some 1 ∧ (∀ k d, k ≤ l → vdp N c k = some d → d ≤ 16) ∧ ∀ k, k < l → K6 (N 431 (c + k)) (N 432 (c + k))
theorem Cd.k6 {c k v : Int32} (h : Cd c k v) : K6 k v := by
  rcases h with ⟨x, hx, e, _⟩ | ⟨x, hx, e, e2, _⟩ | ⟨e, _⟩ | ⟨e, _⟩ | ⟨e, _⟩ | ⟨e, _⟩
  · exact Or.inl e
  · exact Or.inr (Or.inl ⟨e, x, hx, e2⟩)
  · exact Or.inr (Or.inr ⟨2, by decide, by decide, e⟩)
  · exact Or.inr (Or.inr ⟨3, by decide, by decide, e⟩)
  · exact Or.inr (Or.inr ⟨4, by decide, by decide, e⟩)
  · exact Or.inr (Or.inr ⟨5, by decide, by decide, e⟩)
theorem Sg.sgm {W q c l : Nat} {M N : gM} (h : Sg W q c l M N) : Sgm N c l := ⟨h.2.2.1, h.2.2.2, fun k hk => (h.2.1 k hk).k6⟩
theorem stp_0 {v : Int32} {vs : Nat → Int32} {s : List Int32} : stp (nI 0) v vs s = some (v :: s) := by
  unfold stp; rw [if_pos (show nI 0 = 0 from rfl)]
theorem stp_1 {x : Nat} {vs : Nat → Int32} {s : List Int32} (hx : x < 9) : stp (nI 1) (nI x) vs s = some (vs x :: s) := by
  unfold stp; rw [if_neg (show ¬ nI 1 = 0 by decide), if_pos (show nI 1 = 1 from rfl), nI_clamp (by omega)]
theorem stp_op {op : Nat} {v a b : Int32} {r : List Int32} {vs : Nat → Int32} (h2 : 2 ≤ op) (h5 : op ≤ 5) : stp (nI op) v vs (b :: a :: r) = if op = 5 ∧ b = 0 then none else some (opv op a b :: r) := by
  unfold stp opv
  rw [if_neg (nI_ne0 (by omega) (by omega)), if_neg (fun q => by have := (nI_eq (a := op) (b := 1) (by omega) (by omega)).mp q; omega)]
  rcases (show op = 2 ∨ op = 3 ∨ op = 4 ∨ op = 5 by omega) with e | e | e | e <;> subst e
  · rfl
  · rfl
  · rfl
  · by_cases hb : b = 0
    · subst hb; rfl
    · show (if nI 5 = 5 ∧ b = 0 then none else some ((if nI 5 = 2 then a + b else if nI 5 = 3 then a - b else if nI 5 = 4 then a * b else a / b) :: r)) = if 5 = 5 ∧ b = 0 then none else some ((if 5 = 2 then a + b else if 5 = 3 then a - b else if 5 = 4 then a * b else a / b) :: r)
      rw [if_neg (fun q : nI 5 = 5 ∧ b = 0 => hb q.2), if_neg (fun q : 5 = 5 ∧ b = 0 => hb q.2)]
      rfl
theorem stp_op0 {op : Nat} {v : Int32} {s : List Int32} {vs : Nat → Int32} (h2 : 2 ≤ op) (h5 : op ≤ 5) (hs : s.length < 2) : stp (nI op) v vs s = none := by
  unfold stp
  rw [if_neg (nI_ne0 (by omega) (by omega)), if_neg (fun q => by have := (nI_eq (a := op) (b := 1) (by omega) (by omega)).mp q; omega)]
  match s, hs with
  | [], _ => rfl
  | [x], _ => rfl
theorem vdp_s {N : gM} {c k d : Nat} (h : vdp N c k = some d) : vdp N c (k + 1) = if (N 431 (c + k)).toInt < 2 then some (d + 1) else if 2 ≤ d then some (d - 1) else none := by
  simp only [vdp, h]
theorem evs_len {N : gM} {c l : Nat} {vs : Nat → Int32} (h : Sgm N c l) : ∀ k s, k ≤ l → evs N c vs k = some s → vdp N c k = some s.length := by
  intro k
  induction k with
  | zero => intro s _ hs; cases hs; rfl
  | succ k ih =>
    intro s hk hs
    obtain ⟨s0, h0, h1⟩ := bnd hs
    have hd := ih s0 (by omega) h0
    rw [vdp_s hd]
    rcases h.2.2 k (by omega) with e | ⟨e, x, hx, e2⟩ | ⟨op, h2, h5, e⟩
    · rw [e, stp_0] at h1
      cases h1
      rw [e, if_pos (by decide)]
      rfl
    · rw [e, e2, stp_1 hx] at h1
      cases h1
      rw [e, if_pos (by decide)]
      rfl
    · rw [e] at h1 ⊢
      rw [if_neg (by rw [nI_toInt (by omega)]; omega)]
      match s0, h1 with
      | [], h1 => rw [stp_op0 h2 h5 (by decide)] at h1; cases h1
      | [x], h1 => rw [stp_op0 h2 h5 (by simp)] at h1; cases h1
      | b :: a :: r, h1 =>
        rw [stp_op h2 h5] at h1
        by_cases hb : op = 5 ∧ b = 0
        · rw [if_pos hb] at h1; cases h1
        · rw [if_neg hb] at h1
          cases h1
          rw [if_pos (by simp)]
          rfl
theorem seg_step {N : gM} {c l k : Nat} {vs : Nat → Int32} {s : List Int32} (h : Sgm N c l) (hk : k < l) (hs : evs N c vs k = some s) : s.length ≤ 16 ∧
    ((N 431 (c + k) = nI 0 ∧ evs N c vs (k + 1) = some (N 432 (c + k) :: s)) ∨ (∃ x, x < 9 ∧ N 431 (c + k) = nI 1 ∧ N 432 (c + k) = nI x ∧ evs N c vs (k + 1) = some (vs x :: s)) ∨
     ∃ op a b r, 2 ≤ op ∧ op ≤ 5 ∧ N 431 (c + k) = nI op ∧ s = b :: a :: r ∧ ((op = 5 ∧ b = 0 ∧ evs N c vs (k + 1) = none) ∨ (¬ (op = 5 ∧ b = 0) ∧ evs N c vs (k + 1) = some (opv op a b :: r)))) := by
  have hd := evs_len h k s (by omega) hs
  refine ⟨h.2.1 k _ (by omega) hd, ?_⟩
  have e1 : evs N c vs (k + 1) = stp (N 431 (c + k)) (N 432 (c + k)) vs s := by
    show bI (evs N c vs k) _ = _
    rw [hs, bI_s]
  rcases h.2.2 k hk with e | ⟨e, x, hx, e2⟩ | ⟨op, h2, h5, e⟩
  · exact Or.inl ⟨e, by rw [e1, e, stp_0]⟩
  · exact Or.inr (Or.inl ⟨x, hx, e, e2, by rw [e1, e, e2, stp_1 hx]⟩)
  · refine Or.inr (Or.inr ?_)
    have hn : vdp N c (k + 1) ≠ none := vdp_pre (l - (k + 1)) (by rw [show k + 1 + (l - (k + 1)) = l by omega, h.1]; exact fun q => by cases q)
    rw [vdp_s hd, e, if_neg (by rw [nI_toInt (by omega)]; omega)] at hn
    match s, hn, e1 with
    | [], hn, _ => simp at hn
    | [x], hn, _ => simp at hn
    | b :: a :: r, _, e1 =>
      refine ⟨op, a, b, r, h2, h5, e, rfl, ?_⟩
      rw [e1, e, stp_op h2 h5]
      by_cases hb : op = 5 ∧ b = 0
      · exact Or.inl ⟨hb.1, hb.2, by rw [if_pos hb]⟩
      · exact Or.inr ⟨hb, by rw [if_neg hb]⟩
theorem evs_none {N : gM} {c k : Nat} {vs : Nat → Int32} (h : evs N c vs k = none) : ∀ j, evs N c vs (k + j) = none := by
  intro j
  induction j with
  | zero => exact h
  | succ j ih =>
    show bI (evs N c vs (k + j)) _ = none
    rw [ih]; rfl
/-- a stack lies in a row, from b on -/
def Sk (M : gM) (c b : Nat) : List Int32 → Prop
  | [] => True
  | x :: r => M c (b + r.length) = x ∧ Sk M c b r
theorem Sk.u {M : gM} {c b i : Nat} {x : Int32} : ∀ {s : List Int32}, Sk M c b s → b + s.length ≤ i → Sk (uM M c i x) c b s
  | [], _, _ => trivial
  | y :: r, h, hi => by
    have hl : (y :: r).length = r.length + 1 := rfl
    exact ⟨by rw [uM_diff (by omega)]; exact h.1, h.2.u (by omega)⟩
theorem Sk.o {M M' : gM} {c b : Nat} : ∀ {s : List Int32}, Sk M c b s → (∀ i, M' c i = M c i) → Sk M' c b s
  | [], _, _ => trivial
  | _ :: _, h, e => ⟨(e _).trans h.1, h.2.o e⟩
theorem Sk.push {M : gM} {c b : Nat} {s : List Int32} {x : Int32} (h : Sk M c b s) : Sk (uM M c (b + s.length) x) c b (x :: s) := ⟨uM_same, h.u (Nat.le_refl _)⟩
theorem nI_m1 (n : Nat) : nI (n + 1) + (-1) = nI n := by
  rw [← nI_1, Int32.add_assoc, show (1 : Int32) + -1 = 0 by decide, Int32.add_zero]
theorem nI_m2 (n : Nat) : nI (n + 2) + (-2) = nI n := by
  rw [← nI_add, Int32.add_assoc, show nI 2 + -2 = 0 by decide, Int32.add_zero]
theorem nI_m2' (n : Nat) : nI (n + 2) + -(nI 2) = nI n := nI_m2 n
/-- a step of the model -/
theorem m_step {N M : gM} {c l k : Nat} {vs : Nat → Int32} {s : List Int32} (h : Sgm N c l) (hc : c + l ≤ 840) (hk : k < l) (hs : evs N c vs k = some s) (hM : ∀ j, M 431 j = N 431 j ∧ M 432 j = N 432 j) (hv : ∀ i, i < 9 → M 434 i = vs i) (hS : Sk M 435 0 s) (K5 : Int32 → Int32 → gM → Option (Int32 × gM)) :
    (∃ s' M', evs N c vs (k + 1) = some s' ∧ B_Mod_termOf_5 (nI (c + l)) K5 (nI s.length) (nI (c + k)) M = K5 (nI s'.length) (nI (c + (k + 1))) M' ∧ Sk M' 435 0 s' ∧ Eo (fun c _ => c = 435) M M') ∨
    (evs N c vs (k + 1) = none ∧ B_Mod_termOf_5 (nI (c + l)) K5 (nI s.length) (nI (c + k)) M = some (0, uM M 401 51 1)) := by
  obtain ⟨h16, hst⟩ := seg_step h hk hs
  unfold B_Mod_termOf_5
  rw [if_neg (by rw [nI_leI (by omega) (by omega)]; omega), if_neg (nI_in (by omega) (by omega)), nI_clamp (by omega), nmI_e, (hM (c + k)).1, (hM (c + k)).2]
  have push : ∀ x : Int32, J_Mod_termOf_58 K5 (nI (c + l)) (nI s.length) (nI (c + k)) (nI s.length) x M = K5 (nI (x :: s).length) (nI (c + (k + 1))) (uM M 435 (0 + s.length) x) := fun x => by
    unfold J_Mod_termOf_58 J_Mod_termOf_159
    rw [if_neg (nI_in (by omega) (by omega)), nI_clamp (by omega), nmM_e, nmI_e, nI_1, nmI_e, nI_1, Nat.zero_add]
    rfl
  rcases hst with ⟨e, e2⟩ | ⟨x, hx, e, e2, e3⟩ | ⟨op, a, b, r, h2, h5, e, rfl, hst⟩
  · refine Or.inl ⟨_, _, e2, ?_, hS.push, Eo.rf.u rfl⟩
    rw [e, if_neg (show ¬ (2 : Int32) ≤ nI 0 by decide), if_pos (show nI 0 = 0 from rfl), if_neg (nI_inc (by omega) (by omega)), push]
  · refine Or.inl ⟨_, _, e3, ?_, hS.push, Eo.rf.u rfl⟩
    rw [e, e2, if_neg (show ¬ (2 : Int32) ≤ nI 1 by decide), if_neg (show ¬ nI 1 = 0 by decide), if_neg (nI_inc (by omega) (by omega)), if_neg (nI_in (by omega) (by omega)), nI_clamp (by omega), hv x hx, push]
  · have hl : (b :: a :: r).length = r.length + 1 + 1 := rfl
    have ea : M 435 r.length = a := by have := hS.2.1; rw [Nat.zero_add] at this; exact this
    have eb : M 435 (r.length + 1) = b := by have := hS.1; rw [Nat.zero_add] at this; exact this
    rw [e, if_pos (show (2 : Int32) ≤ nI op by rw [show (2 : Int32) = nI 2 from rfl, nI_leI (by omega) (by omega)]; exact h2), nmI_e, hl, nI_m1, show (1 : Int32) = nI 1 from rfl, nI_sub (by omega), Nat.add_sub_cancel, if_neg (nI_in (by omega) (by omega)), nI_clamp (by omega), nmI_e, ea, if_neg (nI_in (by omega) (by omega)), nI_clamp (by omega), nmI_e, eb]
    have e5 : (nI op = 5) ↔ op = 5 := nI_eq (by omega) (by decide)
    have fin : ¬ (op = 5 ∧ b = 0) → J_Mod_termOf_104 K5 (nI (c + l)) (nI (r.length + 1)) (nI (c + k)) (nI op) a b M = K5 (nI (opv op a b :: r).length) (nI (c + (k + 1))) (uM M 435 (0 + r.length) (opv op a b)) := fun hn => by
      have j158 : ∀ x : Int32, J_Mod_termOf_158 K5 (nI (c + l)) (nI (r.length + 1)) (nI (c + k)) (nI r.length) x M = K5 (nI (x :: r).length) (nI (c + (k + 1))) (uM M 435 (0 + r.length) x) := fun x => by
        unfold J_Mod_termOf_158 J_Mod_termOf_159
        rw [if_neg (nI_in (by omega) (by omega)), nI_clamp (by omega), nmM_e, nmI_e, nI_1, Nat.zero_add]
        rfl
      unfold J_Mod_termOf_104
      rw [show (1 : Int32) = nI 1 from rfl, nI_sub (by omega), Nat.add_sub_cancel]
      rcases (show op = 2 ∨ op = 3 ∨ op = 4 ∨ op = 5 by omega) with q | q | q | q <;> subst q
      · rw [if_pos (show nI 2 = 2 from rfl)]; exact j158 _
      · rw [if_neg (show ¬ nI 3 = 2 by decide), if_pos (show nI 3 = 3 from rfl)]; exact j158 _
      · rw [if_neg (show ¬ nI 4 = 2 by decide), if_neg (show ¬ nI 4 = 3 by decide), if_pos (show nI 4 = 4 from rfl)]; exact j158 _
      · rw [if_neg (show ¬ nI 5 = 2 by decide), if_neg (show ¬ nI 5 = 3 by decide), if_neg (show ¬ nI 5 = 4 by decide), if_neg (fun q => hn ⟨rfl, q⟩)]; exact j158 _
    rcases hst with ⟨h1, hb, e3⟩ | ⟨hn, e3⟩
    · refine Or.inr ⟨e3, ?_⟩
      rw [if_pos (e5.mpr h1), if_pos hb]
      rfl
    · refine Or.inl ⟨_, uM M 435 (0 + r.length) (opv op a b), e3, ?_, Sk.push hS.2.2, Eo.rf.u rfl⟩
      by_cases h1 : op = 5
      · rw [if_pos (e5.mpr h1), if_neg (fun q => hn ⟨h1, q⟩)]; exact fin hn
      · rw [if_neg (fun q => h1 (e5.mp q))]; exact fin hn
/-- a sum of the model -/
theorem m_term {N : gM} {c l : Nat} {vs : Nat → Int32} (h : Sgm N c l) (hc : c + l ≤ 840) : ∀ (d k f : Nat) (M : gM) (s : List Int32), k + d = l → evs N c vs k = some s → (∀ j, M 431 j = N 431 j ∧ M 432 j = N 432 j) → (∀ i, i < 9 → M 434 i = vs i) → Sk M 435 0 s →
    ∃ r M', H_Mod_termOf_5 (nI (c + l)) (f + 1 + d) (nI s.length) (nI (c + k)) M = some (r, M') ∧ Eo (fun c j => c = 435 ∨ (c = 401 ∧ j = 51)) M M' ∧ ((∃ x, evs N c vs l = some [x] ∧ r = x ∧ M' 401 51 = M 401 51) ∨ (evs N c vs l = none ∧ r = 0 ∧ M' 401 51 = 1)) := by
  intro d
  induction d with
  | zero =>
    intro k f M s hk hs hM hv hS
    obtain rfl : k = l := by omega
    have hd := evs_len h k s (Nat.le_refl _) hs
    rw [h.1] at hd
    match s, hd, hs, hS with
    | [x], _, hs, hS =>
      refine ⟨x, M, ?_, Eo.rf, Or.inl ⟨x, hs, rfl, rfl⟩⟩
      show B_Mod_termOf_5 (nI (c + k)) (H_Mod_termOf_5 (nI (c + k)) f) (nI 1) (nI (c + k)) M = _
      unfold B_Mod_termOf_5 J_Mod_termOf_165
      rw [if_pos (by rw [nI_leI (by omega) (by omega)]; omega)]
      have := hS.1
      rw [show (0 : Nat) + ([] : List Int32).length = 0 from rfl] at this
      rw [this]
    | [], hd, _, _ => simp at hd
    | _ :: _ :: _, hd, _, _ => simp at hd
  | succ d ih =>
    intro k f M s hk hs hM hv hS
    show ∃ r M', B_Mod_termOf_5 (nI (c + l)) (H_Mod_termOf_5 (nI (c + l)) (f + 1 + d)) (nI s.length) (nI (c + k)) M = some (r, M') ∧ _
    rcases m_step h hc (by omega) hs hM hv hS (H_Mod_termOf_5 (nI (c + l)) (f + 1 + d)) with ⟨s', M1, e1, e2, e3, e4⟩ | ⟨e1, e2⟩
    · rw [e2]
      obtain ⟨r, M', y1, y2, y3⟩ := ih (k + 1) f M1 s' (by omega) e1 (fun j => by rw [e4 431 j (by omega), e4 432 j (by omega)]; exact hM j) (fun i hi => by rw [e4 434 i (by omega)]; exact hv i hi) e3
      refine ⟨r, M', y1, (e4.mono (fun _ _ q => Or.inl q)).tr y2, ?_⟩
      rw [← e4 401 51 (by omega)]
      exact y3
    · rw [e2]
      exact ⟨0, _, rfl, Eo.rf.u (Or.inr ⟨rfl, rfl⟩), Or.inr ⟨by rw [← hk, show k + (d + 1) = k + 1 + d by omega]; exact evs_none e1 d, rfl, uM_same⟩⟩
theorem f_termOf {N M : gM} {c l : Nat} {vs : Nat → Int32} (h : Sgm N c l) (hc : c + l ≤ 840) (hM : ∀ j, M 431 j = N 431 j ∧ M 432 j = N 432 j) (hv : ∀ i, i < 9 → M 434 i = vs i) :
    ∃ r M', F_Mod_termOf (nI c) (nI (c + l)) M = some (r, M') ∧ Eo (fun c j => c = 435 ∨ (c = 401 ∧ j = 51)) M M' ∧ ((∃ x, evs N c vs l = some [x] ∧ r = x ∧ M' 401 51 = M 401 51) ∨ (evs N c vs l = none ∧ r = 0 ∧ M' 401 51 = 1)) := by
  unfold F_Mod_termOf
  obtain ⟨g, hg⟩ := FU_k (1 + l) (by omega)
  rw [hg, ← Nat.add_assoc]
  exact m_term h hc l 0 g M [] (Nat.zero_add _) rfl hM hv trivial
/-- a step of the class -/
theorem c_step {N M : gM} {W q c l k b st len : Nat} {vs : Nat → Int32} {s : List Int32} (h : Sgm N c l) (hC : ∀ k, k < l → Cd (M (W + 1) (q + k)) (N 431 (c + k)) (N 432 (c + k))) (hlen : M W 1 = nI len) (hq : q + l ≤ len) (h400 : len ≤ 400) (hst : st ≤ q + k) (hb1 : b ≤ 1) (hk : k < l) (hs : evs N c vs k = some s) (hv : ∀ i, i < 9 → M (W + 2) i = vs i) (hS : Sk M (W + 3) b s) (K : Int32 → Int32 → Int32 → gM → Option (Int32 × gM)) :
    (∃ s' M', evs N c vs (k + 1) = some s' ∧ B_Law_value_6 W K (nI (b + s.length)) (nI (q + k)) (nI st) M = K (nI (b + s'.length)) (nI (q + (k + 1))) (nI (st + 1)) M' ∧ Sk M' (W + 3) b s' ∧ Eo (fun c j => c = W + 3 ∧ b ≤ j) M M') ∨
    (evs N c vs (k + 1) = none ∧ B_Law_value_6 W K (nI (b + s.length)) (nI (q + k)) (nI st) M = some (0, M)) := by
  obtain ⟨h16, hst2⟩ := seg_step h hk hs
  have e400 : (400 : Int32) = nI 400 := rfl
  unfold B_Law_value_6
  rw [e400, if_neg (by rw [nI_leI (by omega) (by omega)]; omega), if_neg (nI_pos (by omega)), hlen, if_neg (by rw [nI_leI (by omega) (by omega)]; omega), if_neg (by rw [nI_leI (by omega) (by omega)]; omega), if_neg (nI_in (by omega) (by omega)), nI_clamp (by omega), nmI_e, nmI_e, nI_1]
  have push : ∀ x : Int32, J_Law_value_110 W K (nI (b + s.length)) (nI (q + k + 1)) (nI st) (nI (b + s.length)) x M = K (nI (b + (x :: s).length)) (nI (q + (k + 1))) (nI (st + 1)) (uM M (W + 3) (b + s.length) x) := fun x => by
    unfold J_Law_value_110 J_Law_value_226
    rw [if_neg (nI_in (by omega) (by omega)), nI_clamp (by omega), nmM_e, nmI_e, nI_1, nmI_e, nI_1]
    rfl
  have e20k : (20000 : Int32) = nI 20000 := rfl
  have e10k : (10000 : Int32) = nI 10000 := rfl
  have e59 : (20059 : Int32) = nI 20059 := rfl
  have e60 : (20060 : Int32) = nI 20060 := rfl
  have e47 : (20047 : Int32) = nI 20047 := rfl
  have e32 : (32 : Int32) = nI 32 := rfl
  have e2' : (2 : Int32) = nI 2 := rfl
  have ne : ∀ a b : Nat, a < 2 ^ 31 → b < 2 ^ 31 → a ≠ b → ¬ nI a = nI b := fun a b ha hb hn w => hn ((nI_eq ha hb).mp w)
  have hcd := hC k hk
  rcases hst2 with ⟨e, e2⟩ | ⟨x, hx, e, e2, e3⟩ | ⟨op, a, bb, r, h2, h5, e, rfl, hst2⟩
  · rcases hcd with ⟨x, hx, _, w2, w3⟩ | ⟨x, hx, w1, _⟩ | ⟨w1, _⟩ | ⟨w1, _⟩ | ⟨w1, _⟩ | ⟨w1, _⟩
    · refine Or.inl ⟨_, uM M (W + 3) (b + s.length) (nI x), e2, ?_, by rw [w2]; exact hS.push, Eo.rf.u ⟨rfl, by omega⟩⟩
      rw [w3, e59, if_neg (ne _ _ (by omega) (by omega) (by omega)), e20k, if_neg (by rw [nI_leI (by omega) (by omega)]; omega), if_neg (nI_pos (by omega)), e32, if_pos (by rw [nI_ltI (by omega) (by omega)]; omega), e10k, if_neg (by rw [nI_leI (by omega) (by omega)]; omega), push, w2]
    all_goals exact absurd (w1.symm.trans e) (by decide)
  · rcases hcd with ⟨x2, hx2, w1, _⟩ | ⟨x2, hx2, _, w2, w3⟩ | ⟨w1, _⟩ | ⟨w1, _⟩ | ⟨w1, _⟩ | ⟨w1, _⟩
    · exact absurd (w1.symm.trans e) (by decide)
    · have ex : x2 = x := (nI_eq (by omega) (by omega)).mp (w2.symm.trans e2)
      subst ex
      refine Or.inl ⟨_, uM M (W + 3) (b + s.length) (vs x2), e3, ?_, hS.push, Eo.rf.u ⟨rfl, by omega⟩⟩
      rw [w3, e59, if_neg (ne _ _ (by omega) (by omega) (by omega)), e20k, if_neg (by rw [nI_leI (by omega) (by omega)]; omega), if_neg (nI_pos (by omega)), e32, if_pos (by rw [nI_ltI (by omega) (by omega)]; omega), e10k, if_pos (by rw [nI_leI (by omega) (by omega)]; omega), nI_sub (by omega), Nat.add_sub_cancel_left, s_at (by omega) (by decide), bI_s, hv x2 hx, push]
    all_goals exact absurd (w1.symm.trans e) (by decide)
  · have hl : (bb :: a :: r).length = r.length + 2 := rfl
    have ea : M (W + 3) (b + r.length) = a := hS.2.1
    have eb : M (W + 3) (b + (r.length + 1)) = bb := hS.1
    obtain ⟨ch, hch, hcell⟩ : ∃ ch, ((op = 2 ∧ ch = 43) ∨ (op = 3 ∧ ch = 45) ∨ (op = 4 ∧ ch = 42) ∨ (op = 5 ∧ ch = 47)) ∧ M (W + 1) (q + k) = nI (20000 + ch) := by
      rcases hcd with ⟨x, hx, w1, _⟩ | ⟨x, hx, w1, _⟩ | ⟨w1, w2⟩ | ⟨w1, w2⟩ | ⟨w1, w2⟩ | ⟨w1, w2⟩
      · exact absurd (w1.symm.trans e) (ne _ _ (by omega) (by omega) (by omega))
      · exact absurd (w1.symm.trans e) (ne _ _ (by omega) (by omega) (by omega))
      · exact ⟨43, Or.inl ⟨((nI_eq (by omega) (by omega)).mp (w1.symm.trans e)).symm, rfl⟩, w2⟩
      · exact ⟨45, Or.inr (Or.inl ⟨((nI_eq (by omega) (by omega)).mp (w1.symm.trans e)).symm, rfl⟩), w2⟩
      · exact ⟨42, Or.inr (Or.inr (Or.inl ⟨((nI_eq (by omega) (by omega)).mp (w1.symm.trans e)).symm, rfl⟩)), w2⟩
      · exact ⟨47, Or.inr (Or.inr (Or.inr ⟨((nI_eq (by omega) (by omega)).mp (w1.symm.trans e)).symm, rfl⟩)), w2⟩
    have hch2 : ch ≤ 47 ∧ 42 ≤ ch := by omega
    rw [hcell, e59, if_neg (ne _ _ (by omega) (by omega) (by omega)), e20k, if_pos (by rw [nI_leI (by omega) (by omega)]; omega), hl, e2', if_neg (by rw [nI_ltI (by omega) (by omega)]; omega), e32, if_pos (by rw [nI_leI (by omega) (by omega)]; omega), nI_sub (by omega), show b + (r.length + 2) - 2 = b + r.length by omega, if_neg (nI_in (by omega) (by omega)), nI_clamp (by omega), nmI_e, ea, show (1 : Int32) = nI 1 from rfl, nI_sub (by omega), show b + (r.length + 2) - 1 = b + (r.length + 1) by omega, if_neg (nI_in (by omega) (by omega)), nI_clamp (by omega), nmI_e, eb, nmI_e, show b + (r.length + 2) = b + r.length + 2 by omega, nI_m2', e60, if_neg (ne _ _ (by omega) (by omega) (by omega))]
    have fin : ¬ (op = 5 ∧ bb = 0) → J_Law_value_204 W K (nI (b + r.length)) (nI (q + k + 1)) (nI st) (nI (20000 + ch)) a bb M = K (nI (b + (opv op a bb :: r).length)) (nI (q + (k + 1))) (nI (st + 1)) (uM M (W + 3) (b + r.length) (opv op a bb)) := fun hn => by
      unfold J_Law_value_204 J_Law_value_226
      have hr : F_Law_reckon (nI (20000 + ch) - 20000) a bb = some (opv op a bb) := by
        rw [e20k, nI_sub (by omega), Nat.add_sub_cancel_left]
        unfold F_Law_reckon opv
        rcases hch with ⟨q1, q2⟩ | ⟨q1, q2⟩ | ⟨q1, q2⟩ | ⟨q1, q2⟩ <;> subst q1 <;> subst q2
        · rfl
        · rfl
        · rfl
        · rw [if_neg (show ¬ nI 47 = 42 by decide), if_neg (show ¬ nI 47 = 43 by decide), if_neg (show ¬ nI 47 = 44 by decide), if_neg (show ¬ nI 47 = 45 by decide), if_neg (fun w => hn ⟨rfl, w⟩), if_neg (fun w => hn ⟨rfl, w⟩)]
          rfl
      rw [hr, bI_s, if_neg (nI_in (by omega) (by omega)), nI_clamp (by omega), nmM_e, nmI_e, nI_1, nmI_e, nI_1]
      rfl
    have e5 : nI (20000 + ch) = nI 20047 ↔ op = 5 := by
      rw [nI_eq (by omega) (by omega)]
      omega
    rw [e47]
    rcases hst2 with ⟨h1, hb, e3⟩ | ⟨hn, e3⟩
    · refine Or.inr ⟨e3, ?_⟩
      rw [if_pos (e5.mpr h1), if_pos hb]
    · refine Or.inl ⟨_, uM M (W + 3) (b + r.length) (opv op a bb), e3, ?_, Sk.push hS.2.2, Eo.rf.u ⟨rfl, by omega⟩⟩
      by_cases h1 : op = 5
      · rw [if_pos (e5.mpr h1), if_neg (fun w => hn ⟨h1, w⟩)]; exact fin hn
      · rw [if_neg (fun w => h1 (e5.mp w))]; exact fin hn
/-- a sum of the class -/
theorem c_seg {N : gM} {W q c l b len : Nat} {vs : Nat → Int32} (h : Sgm N c l) (hq : q + l ≤ len) (h400 : len ≤ 400) (hb1 : b ≤ 1) : ∀ (d k f st : Nat) (M : gM) (s : List Int32), k + d = l → evs N c vs k = some s → st ≤ q + k → (∀ k, k < l → Cd (M (W + 1) (q + k)) (N 431 (c + k)) (N 432 (c + k))) → M W 1 = nI len → (∀ i, i < 9 → M (W + 2) i = vs i) → Sk M (W + 3) b s →
    (∃ x M', evs N c vs l = some [x] ∧ H_Law_value_6 W (f + d) (nI (b + s.length)) (nI (q + k)) (nI st) M = H_Law_value_6 W f (nI (b + 1)) (nI (q + l)) (nI (st + d)) M' ∧ M' (W + 3) b = x ∧ Eo (fun c j => c = W + 3 ∧ b ≤ j) M M') ∨
    (∃ M', evs N c vs l = none ∧ H_Law_value_6 W (f + d) (nI (b + s.length)) (nI (q + k)) (nI st) M = some (0, M') ∧ Eo (fun c j => c = W + 3 ∧ b ≤ j) M M') := by
  intro d
  induction d with
  | zero =>
    intro k f st M s hk hs hst hC hlen hv hS
    obtain rfl : k = l := by omega
    have hd := evs_len h k s (Nat.le_refl _) hs
    rw [h.1] at hd
    match s, hd, hs, hS with
    | [x], _, hs, hS => exact Or.inl ⟨x, M, hs, rfl, hS.1, Eo.rf⟩
    | [], hd, _, _ => simp at hd
    | _ :: _ :: _, hd, _, _ => simp at hd
  | succ d ih =>
    intro k f st M s hk hs hst hC hlen hv hS
    have e0 : H_Law_value_6 W (f + (d + 1)) (nI (b + s.length)) (nI (q + k)) (nI st) M = B_Law_value_6 W (H_Law_value_6 W (f + d)) (nI (b + s.length)) (nI (q + k)) (nI st) M := rfl
    rw [e0]
    rcases c_step h hC hlen hq h400 hst hb1 (by omega) hs hv hS (H_Law_value_6 W (f + d)) with ⟨s', M1, e1, e2, e3, e4⟩ | ⟨e1, e2⟩
    · rw [e2]
      have r := ih (k + 1) f (st + 1) M1 s' (by omega) e1 (by omega) (fun j hj => by rw [e4 _ _ (by omega)]; exact hC j hj) (by rw [e4 _ _ (by omega)]; exact hlen) (fun i hi => by rw [e4 _ _ (by omega)]; exact hv i hi) e3
      rw [show st + 1 + d = st + (d + 1) by omega] at r
      rcases r with ⟨x, M', y1, y2, y3, y4⟩ | ⟨M', y1, y2, y4⟩
      · exact Or.inl ⟨x, M', y1, y2, y3, e4.tr y4⟩
      · exact Or.inr ⟨M', y1, y2, e4.tr y4⟩
    · rw [e2]
      exact Or.inr ⟨M, by rw [← hk, show k + (d + 1) = k + 1 + d by omega]; exact evs_none e1 d, rfl, Eo.rf⟩
end PAR30
end MG14x0
section MG14x1
/-! what a law comes to, whole -/
section PAR31
/-- a sum's value -/
def sv (N : gM) (vs : Nat → Int32) (a b : Int32) : Option Int32 := bI (evs N a.toInt.toNat vs (b.toInt.toNat - a.toInt.toNat)) (fun s => match s with | x :: _ => some x | [] => none)
def lwv (N : gM) (vs : Nat → Int32) : Nat → Nat → Int32
  | 0, b => (sv N vs (N 429 b) (N 430 b)).getD 0
  | d + 1, b => match sv N vs (N 427 b) (N 428 b), sv N vs (N 428 b) (N 429 b) with
    | some u, some v => if u < v then (sv N vs (N 429 b) (N 430 b)).getD 0 else lwv N vs d (b + 1)
    | _, _ => 0
/-- what the law of a side and a kind tells, plain if it isn't told -/
def lawS (M : gM) (lv w : Nat) (vs : Nat → Int32) (plain : Int32) : Int32 := if M 425 (4 * lv + w) ≤ M 424 (4 * lv + w) then plain else lwv M vs ((M 425 (4 * lv + w)).toInt.toNat - (M 424 (4 * lv + w)).toInt.toNat - 1) (M 424 (4 * lv + w)).toInt.toNat
theorem sv_e {N : gM} {vs : Nat → Int32} {c l : Nat} (h : c + l < 2 ^ 31) : sv N vs (nI c) (nI (c + l)) = bI (evs N c vs l) (fun s => match s with | x :: _ => some x | [] => none) := by
  unfold sv
  rw [nI_tn (by omega), nI_tn (by omega), show c + l - c = l by omega]
theorem sv_s {N : gM} {vs : Nat → Int32} {c l : Nat} {x : Int32} (h : c + l < 2 ^ 31) (e : evs N c vs l = some [x]) : sv N vs (nI c) (nI (c + l)) = some x := by rw [sv_e h, e, bI_s]
theorem sv_n {N : gM} {vs : Nat → Int32} {c l : Nat} (h : c + l < 2 ^ 31) (e : evs N c vs l = none) : sv N vs (nI c) (nI (c + l)) = none := by rw [sv_e h, e]; rfl
theorem evs_keep {N N' : gM} {c : Nat} {vs : Nat → Int32} (h : ∀ j, N' 431 j = N 431 j ∧ N' 432 j = N 432 j) : ∀ l, evs N' c vs l = evs N c vs l := by
  intro l
  induction l with
  | zero => rfl
  | succ l ih =>
    show bI (evs N' c vs l) _ = bI (evs N c vs l) _
    rw [ih, (h (c + l)).1, (h (c + l)).2]
theorem sv_keep {N N' : gM} {vs : Nat → Int32} {a b : Int32} (h : ∀ j, N' 431 j = N 431 j ∧ N' 432 j = N 432 j) : sv N' vs a b = sv N vs a b := by
  unfold sv
  rw [evs_keep h]
theorem lwv_keep {N N' : gM} {vs : Nat → Int32} (h : ∀ c j, 426 ≤ c → c ≤ 432 → N' c j = N c j) : ∀ d b, lwv N' vs d b = lwv N vs d b := by
  have h2 : ∀ j, N' 431 j = N 431 j ∧ N' 432 j = N 432 j := fun j => ⟨h 431 j (by decide) (by decide), h 432 j (by decide) (by decide)⟩
  intro d
  induction d with
  | zero =>
    intro b
    unfold lwv
    rw [sv_keep h2, h 429 b (by decide) (by decide), h 430 b (by decide) (by decide)]
  | succ d ih =>
    intro b
    unfold lwv
    rw [sv_keep h2, sv_keep h2, sv_keep h2, h 427 b (by decide) (by decide), h 428 b (by decide) (by decide), h 429 b (by decide) (by decide), h 430 b (by decide) (by decide), ih]
theorem lawS_keep {M M' : gM} {lv w : Nat} {vs : Nat → Int32} {p : Int32} (h : ∀ c j, 424 ≤ c → c ≤ 432 → M' c j = M c j) : lawS M' lv w vs p = lawS M lv w vs p := by
  unfold lawS
  rw [lwv_keep (fun c j a b => h c j (by omega) b), h 424 _ (by decide) (by decide), h 425 _ (by decide) (by decide)]
theorem lawS_vs {M : gM} {lv w : Nat} {vs vs' : Nat → Int32} {p : Int32} (h : vs = vs') : lawS M lv w vs p = lawS M lv w vs' p := by rw [h]
theorem c_seg0 {N : gM} {W q c l b len : Nat} {vs : Nat → Int32} (h : Sgm N c l) (hq : q + l ≤ len) (h400 : len ≤ 400) (hb1 : b ≤ 1) {F f st : Nat} {M : gM} (hF : F = f + l) (hst : st ≤ q) (hC : ∀ k, k < l → Cd (M (W + 1) (q + k)) (N 431 (c + k)) (N 432 (c + k))) (hlen : M W 1 = nI len) (hv : ∀ i, i < 9 → M (W + 2) i = vs i) :
    (∃ x M', evs N c vs l = some [x] ∧ H_Law_value_6 W F (nI b) (nI q) (nI st) M = H_Law_value_6 W f (nI (b + 1)) (nI (q + l)) (nI (st + l)) M' ∧ M' (W + 3) b = x ∧ Eo (fun c j => c = W + 3 ∧ b ≤ j) M M') ∨
    (∃ M', evs N c vs l = none ∧ H_Law_value_6 W F (nI b) (nI q) (nI st) M = some (0, M') ∧ Eo (fun c j => c = W + 3 ∧ b ≤ j) M M') := by
  subst hF
  exact c_seg h hq h400 hb1 l 0 f st M [] (Nat.zero_add _) rfl hst hC hlen hv trivial
/-- the class, from a branch on -/
theorem c_lawL {W sd w c' len fi k : Nat} {Q : Nat → Nat} {vs : Nat → Int32} {M0 : gM} (hb : ∀ j, j < k → Br (420 * sd) W (fi + j) (Q j) (Q (j + 1)) c' M0 M0 ∧ Q (j + 1) ≤ len) (hl : Ls (420 * sd) W (fi + k) (Q k) len c' M0 M0) (h400 : len ≤ 400) (hc : c' ≤ 840) : ∀ (d j f st : Nat) (M : gM), j + d = k → st ≤ Q j → M W 1 = nI len → (∀ i, M (W + 1) i = M0 (W + 1) i) → (∀ i, i < 9 → M (W + 2) i = vs i) →
    ∃ M', H_Law_value_6 W (f + 402 * (d + 1)) (nI 0) (nI (Q j)) (nI st) M = some (lwv M0 vs d (fi + j), M') ∧ Eo (fun c _ => c = W + 3) M M' := by
  intro d
  induction d with
  | zero =>
    intro j f st M hj hst hlen hC hv
    obtain rfl : j = k := by omega
    obtain ⟨c1, l, x1, x2, x3, x4, x5, x6, x7⟩ := hl
    have hs := c_seg0 (W := W) (q := Q j) (b := 0) (len := len) (vs := vs) (F := f + 402 * (0 + 1)) (f := f + 402 - l) (st := st) (M := M) x4.sgm (by omega) h400 (by decide) (by omega) (by omega) (fun i hi => by rw [hC]; exact x4.2.1 i hi) hlen hv
    unfold lwv
    rw [x2, x3]
    rcases hs with ⟨x, M', y1, y2, y3, y4⟩ | ⟨M', y1, y2, y3⟩
    · rw [y2, sv_s (by omega) y1]
      refine ⟨M', ?_, y4.mono (fun _ _ q => q.1)⟩
      obtain ⟨g, hg⟩ : ∃ g, f + 402 - l = g + 1 := ⟨f + 402 - l - 1, by omega⟩
      rw [hg]
      show B_Law_value_6 W (H_Law_value_6 W g) (nI 1) (nI (Q j + l)) (nI (st + l)) M' = _
      unfold B_Law_value_6 J_Law_value_232
      have hlen' : M' W 1 = nI len := by rw [y4 W 1 (by omega)]; exact hlen
      have hat : F_Main_at (W + 3) 32 0 M' = some x := by
        rw [show (0 : Int32) = nI 0 from rfl, s_at (by omega) (by decide), y3]
      have hle : len ≤ Q j + l := by omega
      rw [hat, bI_s]
      by_cases q : (400 : Int32) ≤ nI (st + l)
      · rw [if_pos q]; rfl
      · rw [if_neg q, if_neg (nI_pos (by omega)), hlen', if_pos (by rw [nI_leI (by omega) (by omega)]; exact hle)]; rfl
    · rw [y2, sv_n (by omega) y1]
      exact ⟨M', rfl, y3.mono (fun _ _ q => q.1)⟩
  | succ d ih =>
    intro j f st M hj hst hlen hC hv
    obtain ⟨⟨c1, l1, l2, l3, x1, x2, x3, x4, x5, x6, x7, x8, x9, x10, x11, x12, x13, x14⟩, xq⟩ := hb j (by omega)
    have hs := c_seg0 (W := W) (q := Q j) (b := 0) (len := len) (vs := vs) (F := f + 402 * (d + 1 + 1)) (f := f + 402 * (d + 1 + 1) - l1) (st := st) (M := M) x6.sgm (by omega) h400 (by decide) (by omega) (by omega) (fun i hi => by rw [hC]; exact x6.2.1 i hi) hlen hv
    unfold lwv
    rw [x2, x3, x4, x5]
    rcases hs with ⟨u, M1, y1, y2, y3, y4⟩ | ⟨M', y1, y2, y3⟩
    rotate_left
    · rw [y2, sv_n (by omega) y1]
      exact ⟨M', rfl, y3.mono (fun _ _ q => q.1)⟩
    have hs2 := c_seg0 (W := W) (q := Q j + l1) (b := 1) (len := len) (vs := vs) (F := f + 402 * (d + 1 + 1) - l1) (f := f + 402 * (d + 1 + 1) - l1 - l2) (st := st + l1) (M := M1) x7.sgm (by omega) h400 (by decide) (by omega) (by omega) (fun i hi => by rw [y4 _ _ (by omega), hC]; exact x7.2.1 i hi) (by rw [y4 _ _ (by omega)]; exact hlen) (fun i hi => by rw [y4 _ _ (by omega)]; exact hv i hi)
    rw [y2, sv_s (by omega) y1, show nI (0 + 1) = nI 1 from rfl]
    rcases hs2 with ⟨v, M2, z1, z2, z3, z4⟩ | ⟨M', z1, z2, z3⟩
    rotate_left
    · rw [z2, sv_n (by omega) z1]
      exact ⟨M', rfl, (y4.mono (fun _ _ q => q.1)).tr (z3.mono (fun _ _ q => q.1))⟩
    rw [z2, sv_s (by omega) z1]
    have hE2 : Eo (fun c _ => c = W + 3) M M2 := (y4.mono (fun _ _ q => q.1)).tr (z4.mono (fun _ _ q => q.1))
    have m2 : ∀ c i, c ≠ W + 3 → M2 c i = M c i := fun c i hc => hE2 c i hc
    have u2 : M2 (W + 3) 0 = u := by rw [z4 _ _ (by omega)]; exact y3
    have hlen2 : M2 W 1 = nI len := by rw [m2 _ _ (by omega)]; exact hlen
    obtain ⟨g, hg⟩ : ∃ g, f + 402 * (d + 1 + 1) - l1 - l2 = g + 1 := ⟨f + 402 * (d + 1 + 1) - l1 - l2 - 1, by omega⟩
    rw [hg]
    -- the '<'
    have hun : ∀ K : Int32 → Int32 → Int32 → gM → Option (Int32 × gM), B_Law_value_6 W K (nI (1 + 1)) (nI (Q j + l1 + l2)) (nI (st + l1 + l2)) M2 = if u < v then K (nI 0) (nI (Q j + l1 + l2 + 2)) (nI (st + l1 + l2 + 1)) M2 else K (nI 0) (nI (Q (j + 1))) (nI (st + l1 + l2 + 1)) M2 := fun K => by
      unfold B_Law_value_6 J_Law_value_185 J_Law_value_226
      have c8 : M2 (W + 1) (Q j + l1 + l2) = nI 20060 := by rw [m2 _ _ (by omega), hC]; exact x8
      have c9 : M2 (W + 1) (Q j + l1 + l2 + 1) = nI (Q (j + 1)) := by rw [m2 _ _ (by omega), hC, x9, x12]
      rw [show (400 : Int32) = nI 400 from rfl, if_neg (by rw [nI_leI (by omega) (by omega)]; omega), if_neg (nI_pos (by omega)), hlen2, if_neg (by rw [nI_leI (by omega) (by omega)]; omega), if_neg (by rw [nI_leI (by omega) (by omega)]; omega), if_neg (nI_in (by omega) (by omega)), nI_clamp (by omega), nmI_e, nmI_e, nI_1, c8, if_neg (show ¬ nI 20060 = 20059 by decide), if_pos (show (20000 : Int32) ≤ nI 20060 by decide), if_neg (show ¬ nI (1 + 1) < 2 by decide), if_pos (show nI (1 + 1) ≤ 32 by decide), if_neg (show ¬ (nI (1 + 1) - 2 < 0 ∨ 32 ≤ (nI (1 + 1) - 2).toNatClampNeg) by decide), nmI_e, show (nI (1 + 1) - 2).toNatClampNeg = 0 by decide, u2, if_neg (show ¬ (nI (1 + 1) - 1 < 0 ∨ 32 ≤ (nI (1 + 1) - 1).toNatClampNeg) by decide), nmI_e, show (nI (1 + 1) - 1).toNatClampNeg = 1 by decide, z3, nmI_e, show nI (1 + 1) + (-2) = nI 0 by decide, if_pos (show nI 20060 = 20060 from rfl)]
      by_cases q : u < v
      · rw [if_neg (i32_nle_of_lt q), if_pos q, nI_1, nmI_e, nI_1]
      · rw [if_pos (i32_le_of_nlt q), if_neg q, s_at (by omega) (by decide), bI_s, c9, nmI_e, nI_1]
    have hB : H_Law_value_6 W (g + 1) (nI (1 + 1)) (nI (Q j + l1 + l2)) (nI (st + l1 + l2)) M2 = B_Law_value_6 W (H_Law_value_6 W g) (nI (1 + 1)) (nI (Q j + l1 + l2)) (nI (st + l1 + l2)) M2 := rfl
    rw [hB, hun]
    dsimp only
    by_cases q : u < v
    · rw [if_pos q, if_pos q]
      have hs3 := c_seg0 (W := W) (q := Q j + l1 + l2 + 2) (b := 0) (len := len) (vs := vs) (F := g) (f := g - l3) (st := st + l1 + l2 + 1) (M := M2) x10.sgm (by omega) h400 (by decide) (by omega) (by omega) (fun i hi => by rw [m2 _ _ (by omega), hC]; exact x10.2.1 i hi) hlen2 (fun i hi => by rw [m2 _ _ (by omega)]; exact hv i hi)
      rcases hs3 with ⟨x, M3, w1, w2, w3, w4⟩ | ⟨M', w1, w2, w3⟩
      · rw [w2, sv_s (by omega) w1]
        refine ⟨M3, ?_, hE2.tr (w4.mono (fun _ _ q => q.1))⟩
        obtain ⟨g2, hg2⟩ : ∃ g2, g - l3 = g2 + 1 := ⟨g - l3 - 1, by omega⟩
        rw [hg2]
        have hB2 : H_Law_value_6 W (g2 + 1) (nI (0 + 1)) (nI (Q j + l1 + l2 + 2 + l3)) (nI (st + l1 + l2 + 1 + l3)) M3 = B_Law_value_6 W (H_Law_value_6 W g2) (nI (0 + 1)) (nI (Q j + l1 + l2 + 2 + l3)) (nI (st + l1 + l2 + 1 + l3)) M3 := rfl
        rw [hB2]
        unfold B_Law_value_6 J_Law_value_53 J_Law_value_232
        have hat : F_Main_at (W + 3) 32 0 M3 = some x := by rw [show (0 : Int32) = nI 0 from rfl, s_at (by omega) (by decide), w3]
        have c11 : M3 (W + 1) (Q j + l1 + l2 + 2 + l3) = nI 20059 := by rw [w4 _ _ (by omega), m2 _ _ (by omega), hC, show Q j + l1 + l2 + 2 + l3 = Q j + l1 + l2 + l3 + 2 by omega]; exact x11
        have hlen3 : M3 W 1 = nI len := by rw [w4 _ _ (by omega)]; exact hlen2
        rw [hat, bI_s]
        rw [show (400 : Int32) = nI 400 from rfl, if_neg (by rw [nI_leI (by omega) (by omega)]; omega), if_neg (nI_pos (by omega)), hlen3, if_neg (by rw [nI_leI (by omega) (by omega)]; omega), if_neg (by rw [nI_leI (by omega) (by omega)]; omega), if_neg (nI_in (by omega) (by omega)), nI_clamp (by omega), nmI_e, nmI_e, c11, if_pos (show nI 20059 = 20059 from rfl)]
        rfl
      · rw [w2, sv_n (by omega) w1]
        exact ⟨M', rfl, hE2.tr (w3.mono (fun _ _ q => q.1))⟩
    · rw [if_neg q, if_neg q]
      obtain ⟨M', w1, w2⟩ := ih (j + 1) (g - 402 * (d + 1)) (st + l1 + l2 + 1) M2 (by omega) (by omega) hlen2 (fun i => by rw [m2 _ _ (by omega)]; exact hC i) (fun i hi => by rw [m2 _ _ (by omega)]; exact hv i hi)
      rw [show g - 402 * (d + 1) + 402 * (d + 1) = g by omega] at w1
      exact ⟨M', w1, hE2.tr w2⟩
/-- the model, from a branch on -/
theorem m_lawL {W sd w c' len fi k : Nat} {Q : Nat → Nat} {vs : Nat → Int32} {M0 : gM} (hsd : sd ≤ 1) (hw : w < 4) (h424 : M0 425 (4 * sd + w) = nI (fi + k + 1)) (hfi : fi + k + 1 ≤ 260) (hb : ∀ j, j < k → Br (420 * sd) W (fi + j) (Q j) (Q (j + 1)) c' M0 M0 ∧ Q (j + 1) ≤ len) (hl : Ls (420 * sd) W (fi + k) (Q k) len c' M0 M0) (hc : c' ≤ 840) : ∀ (d j f : Nat) (M : gM), j + d = k → (∀ c i, 424 ≤ c → c ≤ 432 → M c i = M0 c i) → (∀ i, i < 9 → M 434 i = vs i) → M 401 51 = 0 →
    ∃ M', H_Mod_lawTells_12 (nI (4 * sd + w)) (f + (d + 1)) (nI (fi + j)) M = some (lwv M0 vs d (fi + j), M') ∧ Eo (fun c j => c = 435 ∨ (c = 401 ∧ j = 51)) M M' := by
  have j84 : ∀ (b c1 l : Nat) (M : gM), b < 260 → Sgm M0 c1 l → c1 + l ≤ 840 → M0 429 b = nI c1 → M0 430 b = nI (c1 + l) → (∀ c i, 424 ≤ c → c ≤ 432 → M c i = M0 c i) → (∀ i, i < 9 → M 434 i = vs i) → M 401 51 = 0 → ∃ M', J_Mod_lawTells_84 (nI b) M = some ((sv M0 vs (nI c1) (nI (c1 + l))).getD 0, M') ∧ Eo (fun c j => c = 435 ∨ (c = 401 ∧ j = 51)) M M' := by
    intro b c1 l M hb hS hc e1 e2 hM hv h51
    unfold J_Mod_lawTells_84
    rw [if_neg (nI_in hb (by omega)), if_neg (nI_in hb (by omega)), nI_clamp (by omega), hM 429 b (by decide) (by decide), hM 430 b (by decide) (by decide), e1, e2]
    obtain ⟨r, M', y1, y2, y3⟩ := f_termOf (M := M) (vs := vs) hS hc (fun j => ⟨hM 431 j (by decide) (by decide), hM 432 j (by decide) (by decide)⟩) hv
    rw [y1, bI2_s]
    rcases y3 with ⟨x, z1, z2, z3⟩ | ⟨z1, z2, z3⟩
    · rw [sv_s (by omega) z1, z3, h51, if_pos (by decide), z2]
      exact ⟨M', rfl, y2⟩
    · rw [sv_n (by omega) z1, z3, if_neg (by decide)]
      exact ⟨M', rfl, y2⟩
  intro d
  induction d with
  | zero =>
    intro j f M hj hM hv h51
    obtain rfl : j = k := by omega
    obtain ⟨c1, l, x1, x2, x3, x4, x5, x6, x7⟩ := hl
    show ∃ M', B_Mod_lawTells_12 (nI (4 * sd + w)) (H_Mod_lawTells_12 (nI (4 * sd + w)) f) (nI (fi + j)) M = _ ∧ _
    unfold B_Mod_lawTells_12 lwv
    rw [if_neg (nI_in (by omega) (by omega)), nI_clamp (by omega), hM 425 _ (by decide) (by decide), h424, if_neg (by rw [nI_leI (by omega) (by omega)]; omega), if_neg (nI_in (by omega) (by omega)), nI_clamp (by omega), hM 426 _ (by decide) (by decide), x1, if_pos rfl, x2, x3]
    exact j84 (fi + j) c1 l M (by omega) x4.sgm (by omega) x2 x3 hM hv h51
  | succ d ih =>
    intro j f M hj hM hv h51
    obtain ⟨⟨c1, l1, l2, l3, x1, x2, x3, x4, x5, x6, x7, x8, x9, x10, x11, x12, x13, x14⟩, xq⟩ := hb j (by omega)
    show ∃ M', B_Mod_lawTells_12 (nI (4 * sd + w)) (H_Mod_lawTells_12 (nI (4 * sd + w)) (f + (d + 1))) (nI (fi + j)) M = _ ∧ _
    unfold B_Mod_lawTells_12 lwv
    rw [if_neg (nI_in (by omega) (by omega)), nI_clamp (by omega), hM 425 _ (by decide) (by decide), h424, if_neg (by rw [nI_leI (by omega) (by omega)]; omega), if_neg (nI_in (by omega) (by omega)), nI_clamp (by omega), hM 426 _ (by decide) (by decide), x1, if_neg (show ¬ (1 : Int32) = 0 by decide), hM 427 _ (by decide) (by decide), hM 428 _ (by decide) (by decide), x2, x3, x4, x5, if_neg (nI_inc (by omega) (by omega)), if_neg (nI_inc (by omega) (by omega))]
    obtain ⟨r1, M1, y1, y2, y3⟩ := f_termOf (M := M) (vs := vs) x6.sgm (by omega) (fun j => ⟨hM 431 j (by decide) (by decide), hM 432 j (by decide) (by decide)⟩) hv
    have hM1 : ∀ c i, 424 ≤ c → c ≤ 432 → M1 c i = M0 c i := fun c i a b => (y2 c i (by omega)).trans (hM c i a b)
    have hv1 : ∀ i, i < 9 → M1 434 i = vs i := fun i hi => (y2 434 i (by omega)).trans (hv i hi)
    rw [y1, bI2_s, if_neg (nI_inc (by omega) (by omega)), if_neg (nI_inc (by omega) (by omega)), hM1 428 _ (by decide) (by decide), hM1 429 _ (by decide) (by decide), x3, x4]
    obtain ⟨r2, M2, z1, z2, z3⟩ := f_termOf (M := M1) (vs := vs) x7.sgm (by omega) (fun j => ⟨hM1 431 j (by decide) (by decide), hM1 432 j (by decide) (by decide)⟩) hv1
    have hM2 : ∀ c i, 424 ≤ c → c ≤ 432 → M2 c i = M0 c i := fun c i a b => (z2 c i (by omega)).trans (hM1 c i a b)
    have hv2 : ∀ i, i < 9 → M2 434 i = vs i := fun i hi => (z2 434 i (by omega)).trans (hv1 i hi)
    rw [z1, bI2_s]
    have hE := y2.tr z2
    rcases y3 with ⟨u, w1, w2, w3⟩ | ⟨w1, w2, w3⟩
    rotate_left
    · have e51 : ¬ b01 (M2 401 51) = 0 := by
        rcases z3 with ⟨v, q1, q2, q3⟩ | ⟨q1, q2, q3⟩
        · rw [q3, w3]; decide
        · rw [q3]; decide
      rw [if_neg e51, sv_n (by omega) w1]
      exact ⟨M2, rfl, hE⟩
    rw [sv_s (by omega) w1]
    rcases z3 with ⟨v, q1, q2, q3⟩ | ⟨q1, q2, q3⟩
    rotate_left
    · rw [if_neg (by rw [q3]; decide), sv_n (by omega) q1]
      exact ⟨M2, rfl, hE⟩
    have h51b : M2 401 51 = 0 := by rw [q3, w3]; exact h51
    rw [sv_s (by omega) q1, h51b, if_pos (by decide), w2, q2]
    dsimp only
    by_cases q : u < v
    · rw [if_pos q, if_pos q]
      obtain ⟨M', k1, k2⟩ := j84 (fi + j) (c1 + l1 + l2) l3 M2 (by omega) x10.sgm (by omega) x4 x5 hM2 hv2 h51b
      exact ⟨M', k1, hE.tr k2⟩
    · rw [if_neg q, if_neg q, nmI_e, nI_1]
      obtain ⟨M', k1, k2⟩ := ih (j + 1) f M2 (by omega) hM2 hv2 h51b
      exact ⟨M', k1, hE.tr k2⟩
/-- the class's law -/
theorem c_law {W sd w c i : Nat} {vs : Nat → Int32} {M M0 : gM} {p : Int32} (h : LawR W sd w c i M0 M0) (hc : c ≤ 840) (hi : i ≤ 260) (e1 : M W 1 = M0 W 1) (eC : ∀ i, M (W + 1) i = M0 (W + 1) i) (hv : ∀ i, i < 9 → M (W + 2) i = vs i) : F_Law_isTold W M = some 1 ∧ ∃ M', F_Law_value W M = some (lawS M0 sd w vs p, M') ∧ Eo (fun c _ => c = W + 3) M M' := by
  obtain ⟨fi, k, len, Q, a1, a2, a3, a4, b4, a5, a6, a7, a8, a9⟩ := h
  obtain ⟨c1, l, x1, x2, x3, x4, x5, x6, x7⟩ := id a7
  have hl0 := x4.1
  refine ⟨?_, ?_⟩
  · unfold F_Law_isTold
    rw [e1, a8, if_neg (nI_nle (by omega) (by omega))]
  · unfold F_Law_value lawS
    rw [a1, a2, if_neg (by rw [nI_leI (by omega) (by omega)]; omega), nI_tn (by omega), nI_tn (by omega), show fi + k + 1 - fi - 1 = k by omega]
    obtain ⟨g, hg⟩ := FU_k (402 * (k + 1)) (by omega)
    have r := c_lawL (w := w) (vs := vs) (M0 := M0) a6 a7 a9 hc k 0 g 0 M (Nat.zero_add _) (Nat.zero_le _) (e1.trans a8) eC hv
    rw [a5] at r
    rw [hg]
    exact r
theorem c_law0 {W sd w : Nat} {vs : Nat → Int32} {M M0 : gM} {p : Int32} (h1 : M W 1 = nI 0) (h2 : M0 424 (4 * sd + w) = nI 0) (h3 : M0 425 (4 * sd + w) = nI 0) : F_Law_isTold W M = some 0 ∧ lawS M0 sd w vs p = p := by
  refine ⟨?_, ?_⟩
  · unfold F_Law_isTold
    rw [h1, if_pos (by decide)]
  · unfold lawS
    rw [h2, h3, if_pos (by decide)]
/-- the model's asks -/
theorem m_asks {ld lv w : Nat} {M : gM} {p a b : Int32} {vs : Nat → Int32} (hlv : lv ≤ 1) (hw : w < 4) (h18 : M 401 18 = nI lv) (hL : ∃ c i, Lws ld lv c i M M ∧ c ≤ 420 * lv + 400 ∧ i ≤ 130 * lv + 100) (hv : ∀ i, i < 9 → M 434 i = vs i) : ∃ M', F_Mod_asks (nI w) p a b M = bI (F_Mod_held (lawS M lv w vs p) a b) (fun r => some (r, M')) ∧ Eo (fun c j => c = 435 ∨ (c = 401 ∧ j = 51)) M M' := by
  obtain ⟨c, i, hL, hc, hi⟩ := hL
  unfold F_Mod_asks
  rw [h18, show (4 : Int32) = nI 4 from rfl, nI_mul, nI_add, nmI_e, if_neg (nI_in (by omega) (by omega)), if_neg (nI_in (by omega) (by omega)), nI_clamp (by omega)]
  unfold J_Mod_asks_38
  rcases hL w hw with ⟨z1, z2, z3⟩ | hL
  · unfold lawS
    rw [z2, z3, if_pos (by decide), if_pos (by decide)]
    exact ⟨M, rfl, Eo.rf⟩
  · obtain ⟨fi, k, len, Q, a1, a2, a3, a4, b4, a5, a6, a7, a8, a9⟩ := hL
    unfold lawS F_Mod_lawTells
    rw [a1, a2, if_neg (by rw [nI_leI (by omega) (by omega)]; omega), if_neg (by rw [nI_leI (by omega) (by omega)]; omega), nI_tn (by omega), nI_tn (by omega), show fi + k + 1 - fi - 1 = k by omega, nmM_e, if_neg (nI_in (by omega) (by omega)), nI_clamp (by omega), uM_diff (by omega), a1, nmI_e]
    obtain ⟨g, hg⟩ := FU_k (k + 1) (by omega)
    obtain ⟨M', y1, y2⟩ := m_lawL (vs := vs) (M0 := M) hlv hw a2 (by omega) a6 a7 (by omega) k 0 g (uM M 401 51 0) (Nat.zero_add _) (fun c i x y => uM_diff (by omega)) (fun i hi => by rw [uM_diff (by omega)]; exact hv i hi) uM_same
    have y1' : H_Mod_lawTells_12 (nI (4 * lv + w)) (g + (k + 1)) (nI fi) (uM M 401 51 0) = some (lwv M vs k fi, M') := y1
    rw [hg, y1', bI2_s]
    exact ⟨M', rfl, Eo.tr (Eo.rf.u (Or.inr ⟨rfl, rfl⟩)) y2⟩
end PAR31
end MG14x1
section MG14x2
/-! the land: what its laws and its dishes come to, in both -/
section PAR32
def vzC (c j : Nat) : Bool := varL.contains c && !(vok c j)
/-- VARs that a law may not have stay 0 -/
def VZ (M : gM) : Prop := ∀ c j, vzC c j = true → j < 9 → M c j = 0
def Lnd (ld lv nf nd ng ne : Nat) (M : gM) : Prop := isLa ld ∧ lv ≤ 1 ∧ M 401 18 = nI lv ∧ Cnts ld lv nf nd ng ne M M ∧ Dat ld lv nf nd ng ne M M ∧ (∃ c i, Lws ld lv c i M M ∧ c ≤ 420 * lv + 400 ∧ i ≤ 130 * lv + 100) ∧ VZ M
def gv (c j : Nat) : Bool := gl c j || vzC c j
theorem vz_va {c j : Nat} (h : vzC c j = true) : vaC c := by
  have h1 : varL.contains c = true := by
    unfold vzC at h
    cases e : varL.contains c with
    | true => rfl
    | false => rw [e] at h; cases h
  have h2 : c ∈ varL := by simpa using h1
  unfold vaC
  exact (by decide +kernel : ∀ x ∈ varL, x = 23 ∨ x = 27 ∨ x = 31 ∨ x = 35 ∨ x = 49 ∨ x = 53 ∨ x = 57 ∨ x = 61) c h2
theorem vz_C0 {c j : Nat} (h : vzC c j = true) : C0 c j = false := by
  unfold vzC at h
  unfold C0
  cases e : varL.contains c with
  | false => rw [e] at h; cases h
  | true =>
    rw [e] at h
    cases e2 : vok c j with
    | true => rw [e2] at h; cases h
    | false => cases scrL.contains c <;> rfl
theorem vz_C1 {c j : Nat} (h : vzC c j = true) : C1 c j = false := by
  have h2 := vz_va h
  unfold vaC at h2
  unfold C1
  rw [vz_C0 h]
  simp only [Bool.false_or, Bool.or_eq_false_iff, Bool.and_eq_false_iff, beq_eq_false_iff_ne, decide_eq_false_iff_not, Bool.not_eq_false', beq_iff_eq]
  omega
theorem vz_CSt {c j : Nat} (h : vzC c j = true) : CSt c j = false := by
  have h2 := vz_va h
  unfold vaC at h2
  unfold CSt
  rw [vz_C0 h]
  simp only [Bool.false_or, Bool.or_eq_false_iff, Bool.and_eq_false_iff, decide_eq_false_iff_not]
  omega
theorem VZ.keep {M M' : gM} (h : VZ M) (e : ∀ c j, vaC c → vzC c j = true → M' c j = M c j) : VZ M' := fun c j q hj => (e c j (vz_va q) q).trans (h c j q hj)
section LND
variable {ld lv nf nd ng ne : Nat} {M M' : gM}
theorem Lnd.keep (h : Lnd ld lv nf nd ng ne M) (e : ∀ c j, gv c j = true → M' c j = M c j) : Lnd ld lv nf nd ng ne M' := by
  obtain ⟨h1, h2, h3, h4, ⟨d1, d2, d3, d4, d5⟩, ⟨c, i, h5, h6, h7⟩, h8⟩ := h
  have eg : ∀ c j, gl c j = true → M' c j = M c j := fun c j q => e c j (by unfold gv; rw [q]; rfl)
  have eL : ∀ c j, ld ≤ c → c ≤ ld + 10 → M' c j = M c j := fun c j a b => eg c j (gl_Lc h1 a b)
  have eM : ∀ c j, 411 ≤ c → c ≤ 432 → M' c j = M c j := fun c j a b => eg c j (gl_M a b)
  refine ⟨h1, h2, (eg 401 18 rfl).trans h3, ?_, ⟨d1.keep (fun c j a b => eL c j (by omega) (by omega)) (fun c j a b => eM c j (by omega) (by omega)), d2.keep (Nat.le_refl _) (fun c j a b => eL c j (by omega) (by omega)) (fun c j a b => eM c j (by omega) (by omega)), d3.keep (fun j => eL _ j (by omega) (by omega)) (fun j => eM _ j (by omega) (by omega)), d4.keep (fun c j a b => eL c j (by omega) (by omega)) (fun c j a b => eM c j (by omega) (by omega)), d5.keep (eL _ _ (by omega) (by omega)) (eM _ _ (by omega) (by omega))⟩, ⟨c, i, fun w hw => ?_, h6, h7⟩, h8.keep (fun c j _ q => e c j (by unfold gv; rw [q, Bool.or_true]))⟩
  · unfold Cnts at h4 ⊢
    rw [eL ld 0 (by omega) (by omega), eL ld 1 (by omega) (by omega), eL ld 2 (by omega) (by omega), eL ld 3 (by omega) (by omega), eM 411 _ (by omega) (by omega), eM 415 _ (by omega) (by omega), eM 418 _ (by omega) (by omega), eM 420 _ (by omega) (by omega)]
    exact h4
  · have g1 : ∀ j, M' (ld + 9 + 4 * w) j = M (ld + 9 + 4 * w) j := fun j => eg _ j (gl_Lw h1 hw).1
    have g2 : ∀ j, M' (ld + 9 + 4 * w + 1) j = M (ld + 9 + 4 * w + 1) j := fun j => eg _ j (gl_Lw h1 hw).2
    rcases h5 w hw with ⟨a1, a2, a3⟩ | h
    · exact Or.inl ⟨by rw [g1]; exact a1, by rw [eM 424 _ (by omega) (by omega)]; exact a2, by rw [eM 425 _ (by omega) (by omega)]; exact a3⟩
    · exact Or.inr (h.keep (Nat.le_refl _) (Nat.le_refl _) (g1 1) g2 (fun j x y => ⟨eM 431 _ (by omega) (by omega), eM 432 _ (by omega) (by omega)⟩) (fun cc j x y z1 z2 => eM _ _ (by omega) (by omega)) (eM 424 _ (by omega) (by omega)) (eM 425 _ (by omega) (by omega)))
theorem gv_C1 {c j : Nat} (h : gv c j = true) : C1 c j = false := by
  unfold gv at h
  rcases (Bool.or_eq_true _ _).mp h with h | h
  · exact gl_C1 (by rw [h]; rfl)
  · exact vz_C1 h
theorem gv_C0 {c j : Nat} (h : gv c j = true) : C0 c j = false := by
  unfold gv at h
  rcases (Bool.or_eq_true _ _).mp h with h | h
  · exact gl_C0 (by rw [h]; rfl)
  · exact vz_C0 h
theorem gv_CSt {c j : Nat} (h : gv c j = true) : CSt c j = false := by
  unfold gv at h
  rcases (Bool.or_eq_true _ _).mp h with h | h
  · exact gl_CSt (by rw [h]; rfl)
  · exact vz_CSt h
theorem gv_num {c j : Nat} (h : gv c j = true) : (c ≤ 2) ∨ (12 ≤ c ∧ c < 64) ∨ c = 360 ∨ (c = 383 ∧ j = 3) ∨ (384 ≤ c ∧ c ≤ 386) ∨ (c = 401 ∧ (j = 2 ∨ j = 17 ∨ j = 18 ∨ j = 64)) ∨ c = 402 ∨ (411 ≤ c ∧ c ≤ 432) ∨ (441 ≤ c ∧ c ≤ 443) ∨ c = 445 := by
  unfold gv at h
  rcases (Bool.or_eq_true _ _).mp h with h | h
  · exact (gl_num (by rw [h]; rfl)).2
  · have := vz_va h
    unfold vaC at this
    omega
theorem Lnd.k0 (h : Lnd ld lv nf nd ng ne M) (k : Kl C0 M zL M' zL) : Lnd ld lv nf nd ng ne M' := h.keep (fun _ _ q => k.m (gv_C0 q))
theorem Lnd.k1 (h : Lnd ld lv nf nd ng ne M) (k : Kl C1 M zL M' zL) : Lnd ld lv nf nd ng ne M' := h.keep (fun _ _ q => k.m (gv_C1 q))
/-- what the model's queries may change -/
def mQ (c j : Nat) : Prop := c = 434 ∨ c = 435 ∨ c = 437 ∨ c = 438 ∨ c = 439 ∨ c = 444 ∨ (c = 401 ∧ (j = 51 ∨ j = 54 ∨ j = 59 ∨ j = 60 ∨ j = 61 ∨ j = 62 ∨ j = 63))
/-- the VARs and the pile -/
def mV (c j : Nat) : Prop := c = 434 ∨ c = 435 ∨ (c = 401 ∧ j = 51)
theorem mV_mQ : ∀ c j, mV c j → mQ c j := fun c j h => by unfold mV at h; unfold mQ; omega
theorem Lnd.kQ (h : Lnd ld lv nf nd ng ne M) (k : Eo mQ M M') : Lnd ld lv nf nd ng ne M' := h.keep (fun c j q => k c j (by have := gv_num q; unfold mQ; omega))
theorem Lnd.kV (h : Lnd ld lv nf nd ng ne M) (k : Eo mV M M') : Lnd ld lv nf nd ng ne M' := h.kQ (k.mono mV_mQ)
def sm (g : Nat → Int32) : Nat → Int32
  | 0 => 0
  | n + 1 => sm g n + g n
theorem sm_c {g g' : Nat → Int32} : ∀ n, (∀ k, k < n → g k = g' k) → sm g n = sm g' n
  | 0, _ => rfl
  | n + 1, h => by
    show sm g n + g n = sm g' n + g' n
    rw [sm_c n (fun k hk => h k (by omega)), h n (by omega)]
def v9 (s h k m d p a st pr : Int32) (i : Nat) : Int32 := match i with
  | 0 => s | 1 => h | 2 => k | 3 => m | 4 => d | 5 => p | 6 => a | 7 => st | 8 => pr | _ => 0
def hb (a b x : Int32) : Int32 := if a ≤ x then (if x ≤ b then x else b) else a
theorem held_e {x a b : Int32} : F_Mod_held x a b = some (hb a b x) := by
  unfold F_Mod_held hb
  split
  · split <;> rfl
  · rfl
theorem within_e {x a b : Int32} (h : a ≤ b) : F_Main_within x a b = some (hb a b x) := by
  unfold F_Main_within hb
  refine congrArg some ?_
  rw [i_le] at h
  by_cases h1 : x < b
  · rw [if_pos h1]
    rw [i_lt] at h1
    by_cases h2 : a < x
    · rw [i_lt] at h2
      rw [if_pos (by rw [i_lt]; exact h2), if_pos (by rw [i_le]; omega), if_pos (by rw [i_le]; omega)]
    · rw [if_neg h2]
      rw [i_lt] at h2
      by_cases h3 : a ≤ x
      · rw [if_pos h3, if_pos (by rw [i_le]; omega)]
        rw [i_le] at h3
        exact Int32.toInt_inj.mp (by omega)
      · rw [if_neg h3]
  · rw [if_neg h1]
    rw [i_lt] at h1
    by_cases h2 : a < b
    · rw [if_pos h2]
      rw [i_lt] at h2
      rw [if_pos (by rw [i_le]; omega)]
      by_cases h3 : x ≤ b
      · rw [if_pos h3]
        rw [i_le] at h3
        exact Int32.toInt_inj.mp (by omega)
      · rw [if_neg h3]
    · rw [if_neg h2]
      rw [i_lt] at h2
      rw [if_pos (by rw [i_le]; omega)]
      by_cases h3 : x ≤ b
      · rw [if_pos h3]
        rw [i_le] at h3
        exact Int32.toInt_inj.mp (by omega)
      · rw [if_neg h3]
        exact Int32.toInt_inj.mp (by omega)
def potS (M : gM) (lv : Nat) (kind sum heat many day : Int32) : Int32 := hb 0 99 (lawS M lv 0 (v9 sum heat kind many day 0 0 0 0) sum)
def bndS (M : gM) (lv g : Nat) (kind ate ago day : Int32) : Int32 := hb 0 99 (lawS M lv 1 (v9 ate 0 kind 0 day (M 419 (4 * lv + g)) ago 0 0) (ate - ago))
def filS (M : gM) (lv f : Nat) (st day : Int32) : Int32 := hb (-9) 9 (lawS M lv 2 (v9 0 0 (nI f) 0 day 0 0 st (M 413 (6 * lv + f))) 0)
def sliS (M : gM) (lv d : Nat) (many day : Int32) : Int32 := hb 0 100 (lawS M lv 3 (v9 0 (M 416 (5 * lv + d)) 0 many day 0 0 0 0) 0)
def sumS (M : gM) (lv nf d j : Nat) : Int32 := sm (fun f => M 417 (6 * (5 * lv + d) + f) * M 414 (3 * (6 * lv + f) + j)) nf
def manS (M : gM) (lv nf d : Nat) : Int32 := sm (fun f => M 417 (6 * (5 * lv + d) + f)) nf
def priS (M : gM) (lv nf d : Nat) : Int32 := sm (fun f => M 417 (6 * (5 * lv + d) + f) * M 413 (6 * lv + f)) nf
section KEEPS
theorem potS_k (e : ∀ c j, 411 ≤ c → c ≤ 432 → M' c j = M c j) {a b c d f : Int32} : potS M' lv a b c d f = potS M lv a b c d f := by unfold potS; rw [lawS_keep (fun c j x y => e c j (by omega) (by omega))]
theorem bndS_k (e : ∀ c j, 411 ≤ c → c ≤ 432 → M' c j = M c j) {g : Nat} {a b c d : Int32} : bndS M' lv g a b c d = bndS M lv g a b c d := by unfold bndS; rw [lawS_keep (fun c j x y => e c j (by omega) (by omega)), e 419 _ (by decide) (by decide)]
theorem filS_k (e : ∀ c j, 411 ≤ c → c ≤ 432 → M' c j = M c j) {g : Nat} {a b : Int32} : filS M' lv g a b = filS M lv g a b := by unfold filS; rw [lawS_keep (fun c j x y => e c j (by omega) (by omega)), e 413 _ (by decide) (by decide)]
theorem sliS_k (e : ∀ c j, 411 ≤ c → c ≤ 432 → M' c j = M c j) {g : Nat} {a b : Int32} : sliS M' lv g a b = sliS M lv g a b := by unfold sliS; rw [lawS_keep (fun c j x y => e c j (by omega) (by omega)), e 416 _ (by decide) (by decide)]
theorem sumS_k (e : ∀ c j, 411 ≤ c → c ≤ 432 → M' c j = M c j) {d j : Nat} : sumS M' lv nf d j = sumS M lv nf d j := by unfold sumS; exact sm_c nf (fun k hk => by rw [e 417 _ (by decide) (by decide), e 414 _ (by decide) (by decide)])
theorem manS_k (e : ∀ c j, 411 ≤ c → c ≤ 432 → M' c j = M c j) {d : Nat} : manS M' lv nf d = manS M lv nf d := by unfold manS; exact sm_c nf (fun k hk => by rw [e 417 _ (by decide) (by decide)])
theorem priS_k (e : ∀ c j, 411 ≤ c → c ≤ 432 → M' c j = M c j) {d : Nat} : priS M' lv nf d = priS M lv nf d := by unfold priS; exact sm_c nf (fun k hk => by rw [e 417 _ (by decide) (by decide), e 413 _ (by decide) (by decide)])
end KEEPS
section CLS
theorem Lnd.nf6 (h : Lnd ld lv nf nd ng ne M) : nf ≤ 6 := h.2.2.2.1.1.2.2
theorem Lnd.nd5 (h : Lnd ld lv nf nd ng ne M) : nd ≤ 5 := h.2.2.2.1.2.1.2.2
theorem Lnd.ng4 (h : Lnd ld lv nf nd ng ne M) : ng ≤ 4 := h.2.2.2.1.2.2.1.2.2
theorem Lnd.ne6 (h : Lnd ld lv nf nd ng ne M) : ne ≤ 6 := h.2.2.2.1.2.2.2.2.2
theorem Lnd.cf (h : Lnd ld lv nf nd ng ne M) : M ld 0 = nI nf := h.2.2.2.1.1.1
theorem Lnd.mf (h : Lnd ld lv nf nd ng ne M) : M 411 lv = nI nf := h.2.2.2.1.1.2.1
theorem Lnd.cd (h : Lnd ld lv nf nd ng ne M) : M ld 1 = nI nd := h.2.2.2.1.2.1.1
theorem Lnd.md (h : Lnd ld lv nf nd ng ne M) : M 415 lv = nI nd := h.2.2.2.1.2.1.2.1
theorem Lnd.cg (h : Lnd ld lv nf nd ng ne M) : M ld 2 = nI ng := h.2.2.2.1.2.2.1.1
theorem Lnd.mg (h : Lnd ld lv nf nd ng ne M) : M 418 lv = nI ng := h.2.2.2.1.2.2.1.2.1
theorem Lnd.ce (h : Lnd ld lv nf nd ng ne M) : M ld 3 = nI ne := h.2.2.2.1.2.2.2.1
theorem Lnd.me (h : Lnd ld lv nf nd ng ne M) : M 420 lv = nI ne := h.2.2.2.1.2.2.2.2.1
theorem Lnd.l1 (h : Lnd ld lv nf nd ng ne M) : lv ≤ 1 := h.2.1
theorem Lnd.la (h : Lnd ld lv nf nd ng ne M) : isLa ld := h.1
theorem Lnd.l18 (h : Lnd ld lv nf nd ng ne M) : M 401 18 = nI lv := h.2.2.1
theorem Lnd.am (h : Lnd ld lv nf nd ng ne M) {d f : Nat} (hd : d < nd) (hf : f < 6) : ∃ x, x ≤ 6 ∧ M (ld + 5) (6 * d + f) = nI x ∧ M 417 (6 * (5 * lv + d) + f) = nI x ∧ (0 < x → f < nf) := by
  obtain ⟨a1, A, a2, a3, a4⟩ := h.2.2.2.2.1.2.1.1 d hd
  refine ⟨A f, ?_, (a2 f hf).1, (a2 f hf).2.1, (a2 f hf).2.2⟩
  rcases (show f = 0 ∨ f = 1 ∨ f = 2 ∨ f = 3 ∨ f = 4 ∨ f = 5 by omega) with q | q | q | q | q | q <;> subst q <;> omega
theorem Lnd.amE (h : Lnd ld lv nf nd ng ne M) {d f : Nat} (hd : d < nd) (hf : f < 6) : M (ld + 5) (6 * d + f) = M 417 (6 * (5 * lv + d) + f) := by
  obtain ⟨x, _, h1, h2, _⟩ := h.am hd hf; rw [h1, h2]
theorem Lnd.br (h : Lnd ld lv nf nd ng ne M) {f j : Nat} (hf : f < nf) (hj : j < 3) : M (ld + 3) (3 * f + j) = M 414 (3 * (6 * lv + f) + j) := by
  obtain ⟨x, _, h1, h2⟩ := (h.2.2.2.2.1.1 f hf).2.2 j hj; rw [h1, h2]
theorem Lnd.pr (h : Lnd ld lv nf nd ng ne M) {f : Nat} (hf : f < nf) : M (ld + 2) f = M 413 (6 * lv + f) := by
  obtain ⟨x, _, h1, h2⟩ := (h.2.2.2.2.1.1 f hf).2.1; rw [h1, h2]
theorem Lnd.ht (h : Lnd ld lv nf nd ng ne M) {d : Nat} (hd : d < nd) : ∃ x, x ≤ 9 ∧ M (ld + 4) d = nI x ∧ M 416 (5 * lv + d) = nI x := (h.2.2.2.2.1.2.1.1 d hd).1
theorem Lnd.htE (h : Lnd ld lv nf nd ng ne M) {d : Nat} (hd : d < nd) : M (ld + 4) d = M 416 (5 * lv + d) := by
  obtain ⟨x, _, h1, h2⟩ := h.ht hd; rw [h1, h2]
theorem Lnd.pa (h : Lnd ld lv nf nd ng ne M) {g : Nat} (hg : g < ng) : M (ld + 6) g = M 419 (4 * lv + g) := by
  obtain ⟨x, _, h1, h2⟩ := h.2.2.2.2.1.2.2.1 g hg; rw [h1, h2]
theorem Lnd.df (h : Lnd ld lv nf nd ng ne M) {e : Nat} (he : e < ne) : ∃ x, x ≤ 2 ∧ M (ld + 7) e = nI x ∧ M 421 (6 * lv + e) = nI x := (h.2.2.2.2.1.2.2.2.1 e he).1
theorem Lnd.dl (h : Lnd ld lv nf nd ng ne M) {e : Nat} (he : e < ne) : M (ld + 8) e = M 422 (6 * lv + e) := by
  obtain ⟨x, _, h1, h2⟩ := (h.2.2.2.2.1.2.2.2.1 e he).2; rw [h1, h2]
theorem Lnd.sd (h : Lnd ld lv nf nd ng ne M) : M ld 4 = M 423 lv := by
  obtain ⟨x, _, h1, h2⟩ := h.2.2.2.2.1.2.2.2.2; rw [h1, h2]
theorem Lnd.some_ (h : Lnd ld lv nf nd ng ne M) (hd : 0 < nd) : 0 < nf := by
  obtain ⟨a1, A, a2, a3, a4⟩ := h.2.2.2.2.1.2.1.1 0 hd
  have w0 := (a2 0 (by decide)).2.2
  have w1 := (a2 1 (by decide)).2.2
  have w2 := (a2 2 (by decide)).2.2
  have w3 := (a2 3 (by decide)).2.2
  have w4 := (a2 4 (by decide)).2.2
  have w5 := (a2 5 (by decide)).2.2
  omega
theorem c_inDish (h : Lnd ld lv nf nd ng ne M) {d f : Nat} (hd : d < nd) (hf : f < 6) : F_Land_inDish ld (nI d) (nI f) M = some (M 417 (6 * (5 * lv + d) + f)) := by
  have h5 := h.nd5
  unfold F_Land_inDish
  rw [show (6 : Int32) = nI 6 from rfl, nI_mul, nI_add, s_at (by omega) (by decide), bI_s, Nat.mul_comm d 6, h.amE hd hf]
theorem c_brought (h : Lnd ld lv nf nd ng ne M) {f j : Nat} (hf : f < nf) (hj : j < 3) : F_Land_broughtBy ld (nI f) (nI j) M = some (M 414 (3 * (6 * lv + f) + j)) := by
  have h6 := h.nf6
  unfold F_Land_broughtBy
  rw [show (3 : Int32) = nI 3 from rfl, nI_mul, nI_add, s_at (by omega) (by decide), bI_s, Nat.mul_comm f 3, h.br hf hj]
theorem c_manL (h : Lnd ld lv nf nd ng ne M) {d : Nat} (hd : d < nd) : ∀ (r k f : Nat), k + r = nf → H_Land_manyIn_4 ld (nI d) M (f + 1 + r) (sm (fun f => M 417 (6 * (5 * lv + d) + f)) k) (nI k) = some (manS M lv nf d) := by
  have h6 := h.nf6
  intro r
  induction r with
  | zero =>
    intro k f hk
    obtain rfl : k = nf := by omega
    show B_Land_manyIn_4 ld (nI d) M (H_Land_manyIn_4 ld (nI d) M f) _ (nI k) = _
    unfold B_Land_manyIn_4
    rw [h.cf, if_pos (by rw [nI_leI (by omega) (by omega)]; omega)]
    rfl
  | succ r ih =>
    intro k f hk
    show B_Land_manyIn_4 ld (nI d) M (H_Land_manyIn_4 ld (nI d) M (f + 1 + r)) _ (nI k) = _
    unfold B_Land_manyIn_4
    rw [h.cf, if_neg (by rw [nI_leI (by omega) (by omega)]; omega), c_inDish h hd (by omega), bI_s, nmI_e, nmI_e, nI_1]
    exact ih (k + 1) f (by omega)
theorem c_manyIn (h : Lnd ld lv nf nd ng ne M) {d : Nat} (hd : d < nd) : F_Land_manyIn ld (nI d) M = some (manS M lv nf d) := by
  have h6 := h.nf6
  unfold F_Land_manyIn
  obtain ⟨g, hg⟩ := FU_k (1 + nf) (by omega)
  rw [hg, ← Nat.add_assoc]
  exact c_manL h hd nf 0 g (Nat.zero_add _)
theorem c_sumL (h : Lnd ld lv nf nd ng ne M) {d j : Nat} (hd : d < nd) (hj : j < 3) : ∀ (r k f : Nat), k + r = nf → H_Land_sumOf_5 ld (nI d) (nI j) M (f + 1 + r) (sm (fun f => M 417 (6 * (5 * lv + d) + f) * M 414 (3 * (6 * lv + f) + j)) k) (nI k) = some (sumS M lv nf d j) := by
  have h6 := h.nf6
  intro r
  induction r with
  | zero =>
    intro k f hk
    obtain rfl : k = nf := by omega
    show B_Land_sumOf_5 ld (nI d) (nI j) M (H_Land_sumOf_5 ld (nI d) (nI j) M f) _ (nI k) = _
    unfold B_Land_sumOf_5
    rw [h.cf, if_pos (by rw [nI_leI (by omega) (by omega)]; omega)]
    rfl
  | succ r ih =>
    intro k f hk
    show B_Land_sumOf_5 ld (nI d) (nI j) M (H_Land_sumOf_5 ld (nI d) (nI j) M (f + 1 + r)) _ (nI k) = _
    unfold B_Land_sumOf_5
    rw [h.cf, if_neg (by rw [nI_leI (by omega) (by omega)]; omega), c_inDish h hd (by omega), bI_s, c_brought h (by omega) hj, bI_s, nmI_e, nmI_e, nI_1]
    exact ih (k + 1) f (by omega)
theorem c_sumOf (h : Lnd ld lv nf nd ng ne M) {d j : Nat} (hd : d < nd) (hj : j < 3) : F_Land_sumOf ld (nI d) (nI j) M = some (sumS M lv nf d j) := by
  have h6 := h.nf6
  unfold F_Land_sumOf
  obtain ⟨g, hg⟩ := FU_k (1 + nf) (by omega)
  rw [hg, ← Nat.add_assoc]
  exact c_sumL h hd hj nf 0 g (Nat.zero_add _)
theorem c_priL (h : Lnd ld lv nf nd ng ne M) {d : Nat} (hd : d < nd) : ∀ (r k f : Nat), k + r = nf → H_Land_priceOf_4 ld (nI d) M (f + 1 + r) (sm (fun f => M 417 (6 * (5 * lv + d) + f) * M 413 (6 * lv + f)) k) (nI k) = some (priS M lv nf d) := by
  have h6 := h.nf6
  intro r
  induction r with
  | zero =>
    intro k f hk
    obtain rfl : k = nf := by omega
    show B_Land_priceOf_4 ld (nI d) M (H_Land_priceOf_4 ld (nI d) M f) _ (nI k) = _
    unfold B_Land_priceOf_4
    rw [h.cf, if_pos (by rw [nI_leI (by omega) (by omega)]; omega)]
    rfl
  | succ r ih =>
    intro k f hk
    show B_Land_priceOf_4 ld (nI d) M (H_Land_priceOf_4 ld (nI d) M (f + 1 + r)) _ (nI k) = _
    unfold B_Land_priceOf_4
    rw [h.cf, if_neg (by rw [nI_leI (by omega) (by omega)]; omega), c_inDish h hd (by omega), bI_s, s_at (by omega) (by decide), bI_s, h.pr (by omega), nmI_e, nmI_e, nI_1]
    exact ih (k + 1) f (by omega)
theorem c_priceOf (h : Lnd ld lv nf nd ng ne M) {d : Nat} (hd : d < nd) : F_Land_priceOf ld (nI d) M = some (priS M lv nf d) := by
  have h6 := h.nf6
  unfold F_Land_priceOf
  obtain ⟨g, hg⟩ := FU_k (1 + nf) (by omega)
  rw [hg, ← Nat.add_assoc]
  exact c_priL h hd nf 0 g (Nat.zero_add _)
/-- the class's law with its VARs let -/
theorem Lnd.law (h : Lnd ld lv nf nd ng ne M) {w : Nat} (hw : w < 4) {N : gM} {vs : Nat → Int32} {p : Int32} (e : ∀ c j, c ≠ ld + 9 + 4 * w + 2 → N c j = M c j) (hv : ∀ i, i < 9 → N (ld + 9 + 4 * w + 2) i = vs i) : (F_Law_isTold (ld + 9 + 4 * w) M = some 0 ∧ lawS M lv w vs p = p) ∨ (F_Law_isTold (ld + 9 + 4 * w) M = some 1 ∧ ∃ N', F_Law_value (ld + 9 + 4 * w) N = some (lawS M lv w vs p, N')) := by
  obtain ⟨c, i, hL, hc, hi⟩ := h.2.2.2.2.2.1
  have hl := h.l1
  rcases hL w hw with ⟨z1, z2, z3⟩ | hL
  · exact Or.inl (c_law0 z1 z2 z3)
  · obtain ⟨t1, N', t2, _⟩ := c_law (M := N) (M0 := M) (vs := vs) (p := p) hL (by omega) (by omega) (e _ _ (by omega)) (fun i => e _ _ (by omega)) hv
    obtain ⟨t3, _⟩ := c_law (M := M) (M0 := M) (vs := M (ld + 9 + 4 * w + 2)) (p := p) hL (by omega) (by omega) rfl (fun i => rfl) (fun _ _ => rfl)
    exact Or.inr ⟨t3, N', t2⟩
theorem Lnd.vz (h : Lnd ld lv nf nd ng ne M) {x j : Nat} (hj : j < 9) (q : ∀ y ∈ lLa, vzC (y + x) j = true) : M (ld + x) j = 0 := h.2.2.2.2.2.2 (ld + x) j (q ld h.1) hj
theorem c_potForce (h : Lnd ld lv nf nd ng ne M) {kind sum heat many day : Int32} : ∃ M', F_Land_potForce ld kind sum heat many day M = some (potS M lv kind sum heat many day, M') ∧ Kl C0 M zL M' zL := by
  obtain ⟨r, M1, e1, _, k1⟩ := tf_Land_potForce (p1 := kind) (p2 := sum) (p3 := heat) (p4 := many) (p5 := day) (M := M) h.la
  have key : ∃ M', F_Land_potForce ld kind sum heat many day M = some (potS M lv kind sum heat many day, M') := by
    unfold F_Land_potForce potS
    have hv : ∀ i, i < 9 → uM (uM (uM (uM (uM M (ld + 9 + 2) 0 sum) (ld + 9 + 2) 1 heat) (ld + 9 + 2) 2 kind) (ld + 9 + 2) 3 many) (ld + 9 + 2) 4 day (ld + 9 + 4 * 0 + 2) i = v9 sum heat kind many day 0 0 0 0 i := fun i hi => by
      rcases (show i = 0 ∨ i = 1 ∨ i = 2 ∨ i = 3 ∨ i = 4 ∨ i = 5 ∨ i = 6 ∨ i = 7 ∨ i = 8 by omega) with q | q | q | q | q | q | q | q | q <;> subst q
      · rw [uM_diff (by omega), uM_diff (by omega), uM_diff (by omega), uM_diff (by omega)]; exact uM_same
      · rw [uM_diff (by omega), uM_diff (by omega), uM_diff (by omega)]; exact uM_same
      · rw [uM_diff (by omega), uM_diff (by omega)]; exact uM_same
      · rw [uM_diff (by omega)]; exact uM_same
      · exact uM_same
      all_goals (rw [uM_diff (by omega), uM_diff (by omega), uM_diff (by omega), uM_diff (by omega), uM_diff (by omega)]; exact h.vz (x := 11) (by decide) (by decide +kernel))
    rcases h.law (w := 0) (p := sum) (by decide) (N := uM (uM (uM (uM (uM M (ld + 9 + 2) 0 sum) (ld + 9 + 2) 1 heat) (ld + 9 + 2) 2 kind) (ld + 9 + 2) 3 many) (ld + 9 + 2) 4 day) (fun c j hc => by rw [uM_diff (by omega), uM_diff (by omega), uM_diff (by omega), uM_diff (by omega), uM_diff (by omega)]) hv with ⟨t1, t2⟩ | ⟨t1, N', t2⟩
    · rw [show F_Law_isTold (ld + 9) M = some 0 from t1, bI_s, if_pos rfl, within_e (by decide), bI_s, t2]
      exact ⟨M, rfl⟩
    · rw [show F_Law_isTold (ld + 9) M = some 1 from t1, bI_s, if_neg (show ¬ (1 : Int32) = 0 by decide), show F_Law_let (ld + 9) 0 sum M = some (uM M (ld + 9 + 2) 0 sum) from let_e (j := 0) (by decide), bI_s, show F_Law_let (ld + 9) 1 heat (uM M (ld + 9 + 2) 0 sum) = some (uM (uM M (ld + 9 + 2) 0 sum) (ld + 9 + 2) 1 heat) from let_e (j := 1) (by decide), bI_s, show F_Law_let (ld + 9) 2 kind (uM (uM M (ld + 9 + 2) 0 sum) (ld + 9 + 2) 1 heat) = some (uM (uM (uM M (ld + 9 + 2) 0 sum) (ld + 9 + 2) 1 heat) (ld + 9 + 2) 2 kind) from let_e (j := 2) (by decide), bI_s, show F_Law_let (ld + 9) 3 many (uM (uM (uM M (ld + 9 + 2) 0 sum) (ld + 9 + 2) 1 heat) (ld + 9 + 2) 2 kind) = some (uM (uM (uM (uM M (ld + 9 + 2) 0 sum) (ld + 9 + 2) 1 heat) (ld + 9 + 2) 2 kind) (ld + 9 + 2) 3 many) from let_e (j := 3) (by decide), bI_s, show F_Law_let (ld + 9) 4 day (uM (uM (uM (uM M (ld + 9 + 2) 0 sum) (ld + 9 + 2) 1 heat) (ld + 9 + 2) 2 kind) (ld + 9 + 2) 3 many) = some (uM (uM (uM (uM (uM M (ld + 9 + 2) 0 sum) (ld + 9 + 2) 1 heat) (ld + 9 + 2) 2 kind) (ld + 9 + 2) 3 many) (ld + 9 + 2) 4 day) from let_e (j := 4) (by decide), bI_s]
      have t3 : F_Law_value (ld + 9) (uM (uM (uM (uM (uM M (ld + 9 + 2) 0 sum) (ld + 9 + 2) 1 heat) (ld + 9 + 2) 2 kind) (ld + 9 + 2) 3 many) (ld + 9 + 2) 4 day) = some (lawS M lv 0 (v9 sum heat kind many day 0 0 0 0) sum, N') := t2
      rw [t3, bI2_s, within_e (by decide), bI_s]
      exact ⟨N', rfl⟩
  obtain ⟨M', e2⟩ := key
  have := Option.some.inj (e1.symm.trans e2)
  injection this with i1 i2
  subst i2
  exact ⟨M1, e2, k1⟩
theorem c_boundBy (h : Lnd ld lv nf nd ng ne M) {g : Nat} {kind ate ago day : Int32} (hg : g < ng) : ∃ M', F_Land_boundBy ld (nI g) kind ate ago day M = some (bndS M lv g kind ate ago day, M') ∧ Kl C0 M zL M' zL := by
  have h4 := h.ng4
  obtain ⟨r, M1, e1, _, k1⟩ := tf_Land_boundBy (p1 := nI g) (p2 := kind) (p3 := ate) (p4 := ago) (p5 := day) (M := M) h.la
  have key : ∃ M', F_Land_boundBy ld (nI g) kind ate ago day M = some (bndS M lv g kind ate ago day, M') := by
    unfold F_Land_boundBy bndS
    generalize hN : uM (uM (uM (uM (uM M (ld + 13 + 2) 0 ate) (ld + 13 + 2) 2 kind) (ld + 13 + 2) 5 (M 419 (4 * lv + g))) (ld + 13 + 2) 6 ago) (ld + 13 + 2) 4 day = N
    have hv : ∀ i, i < 9 → N (ld + 9 + 4 * 1 + 2) i = v9 ate 0 kind 0 day (M 419 (4 * lv + g)) ago 0 0 i := fun i hi => by
      rw [show ld + 9 + 4 * 1 + 2 = ld + 13 + 2 by omega, ← hN]
      rcases (show i = 0 ∨ i = 1 ∨ i = 2 ∨ i = 3 ∨ i = 4 ∨ i = 5 ∨ i = 6 ∨ i = 7 ∨ i = 8 by omega) with q | q | q | q | q | q | q | q | q <;> subst q
      · rw [uM_diff (by omega), uM_diff (by omega), uM_diff (by omega), uM_diff (by omega)]; exact uM_same
      · rw [uM_diff (by omega), uM_diff (by omega), uM_diff (by omega), uM_diff (by omega), uM_diff (by omega)]; exact h.vz (x := 15) (by decide) (by decide +kernel)
      · rw [uM_diff (by omega), uM_diff (by omega), uM_diff (by omega)]; exact uM_same
      · rw [uM_diff (by omega), uM_diff (by omega), uM_diff (by omega), uM_diff (by omega), uM_diff (by omega)]; exact h.vz (x := 15) (by decide) (by decide +kernel)
      · exact uM_same
      · rw [uM_diff (by omega), uM_diff (by omega)]; exact uM_same
      · rw [uM_diff (by omega)]; exact uM_same
      · rw [uM_diff (by omega), uM_diff (by omega), uM_diff (by omega), uM_diff (by omega), uM_diff (by omega)]; exact h.vz (x := 15) (by decide) (by decide +kernel)
      · rw [uM_diff (by omega), uM_diff (by omega), uM_diff (by omega), uM_diff (by omega), uM_diff (by omega)]; exact h.vz (x := 15) (by decide) (by decide +kernel)
    rcases h.law (w := 1) (p := ate - ago) (by decide) (N := N) (fun c j hc => by rw [← hN, uM_diff (by omega), uM_diff (by omega), uM_diff (by omega), uM_diff (by omega), uM_diff (by omega)]) hv with ⟨t1, t2⟩ | ⟨t1, N', t2⟩
    · rw [show F_Law_isTold (ld + 13) M = some 0 from t1, bI_s, if_pos rfl, within_e (by decide), bI_s, t2]
      exact ⟨M, rfl⟩
    · have t3 : F_Law_value (ld + 13) N = some (lawS M lv 1 (v9 ate 0 kind 0 day (M 419 (4 * lv + g)) ago 0 0) (ate - ago), N') := t2
      rw [show F_Law_isTold (ld + 13) M = some 1 from t1, bI_s, if_neg (show ¬ (1 : Int32) = 0 by decide), show F_Law_let (ld + 13) 0 ate M = some (uM M (ld + 13 + 2) 0 ate) from let_e (j := 0) (by decide), bI_s, show F_Law_let (ld + 13) 2 kind (uM M (ld + 13 + 2) 0 ate) = some (uM (uM M (ld + 13 + 2) 0 ate) (ld + 13 + 2) 2 kind) from let_e (j := 2) (by decide), bI_s, s_at (by omega) (by decide), bI_s, uM_diff (by omega), uM_diff (by omega), h.pa hg, show F_Law_let (ld + 13) 5 (M 419 (4 * lv + g)) (uM (uM M (ld + 13 + 2) 0 ate) (ld + 13 + 2) 2 kind) = some (uM (uM (uM M (ld + 13 + 2) 0 ate) (ld + 13 + 2) 2 kind) (ld + 13 + 2) 5 (M 419 (4 * lv + g))) from let_e (j := 5) (by decide), bI_s, show F_Law_let (ld + 13) 6 ago (uM (uM (uM M (ld + 13 + 2) 0 ate) (ld + 13 + 2) 2 kind) (ld + 13 + 2) 5 (M 419 (4 * lv + g))) = some (uM (uM (uM (uM M (ld + 13 + 2) 0 ate) (ld + 13 + 2) 2 kind) (ld + 13 + 2) 5 (M 419 (4 * lv + g))) (ld + 13 + 2) 6 ago) from let_e (j := 6) (by decide), bI_s, show F_Law_let (ld + 13) 4 day (uM (uM (uM (uM M (ld + 13 + 2) 0 ate) (ld + 13 + 2) 2 kind) (ld + 13 + 2) 5 (M 419 (4 * lv + g))) (ld + 13 + 2) 6 ago) = some (uM (uM (uM (uM (uM M (ld + 13 + 2) 0 ate) (ld + 13 + 2) 2 kind) (ld + 13 + 2) 5 (M 419 (4 * lv + g))) (ld + 13 + 2) 6 ago) (ld + 13 + 2) 4 day) from let_e (j := 4) (by decide), bI_s, hN, t3, bI2_s, within_e (by decide), bI_s]
      exact ⟨N', rfl⟩
  obtain ⟨M', e2⟩ := key
  have := Option.some.inj (e1.symm.trans e2)
  injection this with i1 i2
  subst i2
  exact ⟨M1, e2, k1⟩
theorem c_fillOf (h : Lnd ld lv nf nd ng ne M) {f : Nat} {st day : Int32} (hf : f < nf) : ∃ M', F_Land_fillOf ld (nI f) st day M = some (filS M lv f st day, M') ∧ Kl C0 M zL M' zL := by
  have h6 := h.nf6
  obtain ⟨r, M1, e1, _, k1⟩ := tf_Land_fillOf (p1 := nI f) (p2 := st) (p3 := day) (M := M) h.la
  have key : ∃ M', F_Land_fillOf ld (nI f) st day M = some (filS M lv f st day, M') := by
    unfold F_Land_fillOf filS
    generalize hN : uM (uM (uM (uM M (ld + 17 + 2) 7 st) (ld + 17 + 2) 8 (M 413 (6 * lv + f))) (ld + 17 + 2) 2 (nI f)) (ld + 17 + 2) 4 day = N
    have hv : ∀ i, i < 9 → N (ld + 9 + 4 * 2 + 2) i = v9 0 0 (nI f) 0 day 0 0 st (M 413 (6 * lv + f)) i := fun i hi => by
      rw [show ld + 9 + 4 * 2 + 2 = ld + 17 + 2 by omega, ← hN]
      rcases (show i = 7 ∨ i = 8 ∨ i = 2 ∨ i = 4 ∨ i = 0 ∨ i = 1 ∨ i = 3 ∨ i = 5 ∨ i = 6 by omega) with q | q | q | q | q | q | q | q | q <;> subst q
      · rw [uM_diff (by omega), uM_diff (by omega), uM_diff (by omega)]; exact uM_same
      · rw [uM_diff (by omega), uM_diff (by omega)]; exact uM_same
      · rw [uM_diff (by omega)]; exact uM_same
      · exact uM_same
      all_goals (rw [uM_diff (by omega), uM_diff (by omega), uM_diff (by omega), uM_diff (by omega)]; exact h.vz (x := 19) (by decide) (by decide +kernel))
    rcases h.law (w := 2) (p := 0) (by decide) (N := N) (fun c j hc => by rw [← hN, uM_diff (by omega), uM_diff (by omega), uM_diff (by omega), uM_diff (by omega)]) hv with ⟨t1, t2⟩ | ⟨t1, N', t2⟩
    · rw [show F_Law_isTold (ld + 17) M = some 0 from t1, bI_s, if_pos rfl, t2]
      exact ⟨M, rfl⟩
    · have t3 : F_Law_value (ld + 17) N = some (lawS M lv 2 (v9 0 0 (nI f) 0 day 0 0 st (M 413 (6 * lv + f))) 0, N') := t2
      rw [show F_Law_isTold (ld + 17) M = some 1 from t1, bI_s, if_neg (show ¬ (1 : Int32) = 0 by decide), show F_Law_let (ld + 17) 7 st M = some (uM M (ld + 17 + 2) 7 st) from let_e (j := 7) (by decide), bI_s, s_at (by omega) (by decide), bI_s, uM_diff (by omega), h.pr hf, show F_Law_let (ld + 17) 8 (M 413 (6 * lv + f)) (uM M (ld + 17 + 2) 7 st) = some (uM (uM M (ld + 17 + 2) 7 st) (ld + 17 + 2) 8 (M 413 (6 * lv + f))) from let_e (j := 8) (by decide), bI_s, show F_Law_let (ld + 17) 2 (nI f) (uM (uM M (ld + 17 + 2) 7 st) (ld + 17 + 2) 8 (M 413 (6 * lv + f))) = some (uM (uM (uM M (ld + 17 + 2) 7 st) (ld + 17 + 2) 8 (M 413 (6 * lv + f))) (ld + 17 + 2) 2 (nI f)) from let_e (j := 2) (by decide), bI_s, show F_Law_let (ld + 17) 4 day (uM (uM (uM M (ld + 17 + 2) 7 st) (ld + 17 + 2) 8 (M 413 (6 * lv + f))) (ld + 17 + 2) 2 (nI f)) = some (uM (uM (uM (uM M (ld + 17 + 2) 7 st) (ld + 17 + 2) 8 (M 413 (6 * lv + f))) (ld + 17 + 2) 2 (nI f)) (ld + 17 + 2) 4 day) from let_e (j := 4) (by decide), bI_s, hN, t3, bI2_s, within_e (by decide), bI_s]
      exact ⟨N', rfl⟩
  obtain ⟨M', e2⟩ := key
  have := Option.some.inj (e1.symm.trans e2)
  injection this with i1 i2
  subst i2
  exact ⟨M1, e2, k1⟩
theorem c_slipsOf (h : Lnd ld lv nf nd ng ne M) {d : Nat} {day : Int32} (hd : d < nd) : ∃ M', F_Land_slipsOf ld (nI d) day M = some (sliS M lv d (manS M lv nf d) day, M') ∧ Kl C0 M zL M' zL := by
  have h5 := h.nd5
  obtain ⟨r, M1, e1, _, k1⟩ := tf_Land_slipsOf (p1 := nI d) (p2 := day) (M := M) h.la
  have key : ∃ M', F_Land_slipsOf ld (nI d) day M = some (sliS M lv d (manS M lv nf d) day, M') := by
    unfold F_Land_slipsOf sliS
    have hk : Kl C0 M zL (uM M (ld + 21 + 2) 1 (M 416 (5 * lv + d))) zL := Kl.wM Kl.rf ((by decide +kernel : ∀ x ∈ lLa, C0 (x + 21 + 2) 1 = true) ld h.la) rfl
    have hman : F_Land_manyIn ld (nI d) (uM M (ld + 21 + 2) 1 (M 416 (5 * lv + d))) = some (manS M lv nf d) := by
      rw [c_manyIn (h.k0 hk) hd, manS_k (fun c j x y => uM_diff (by rcases La_cases h.la with q | q <;> omega))]
    generalize hN : uM (uM (uM M (ld + 21 + 2) 1 (M 416 (5 * lv + d))) (ld + 21 + 2) 3 (manS M lv nf d)) (ld + 21 + 2) 4 day = N
    have hv : ∀ i, i < 9 → N (ld + 9 + 4 * 3 + 2) i = v9 0 (M 416 (5 * lv + d)) 0 (manS M lv nf d) day 0 0 0 0 i := fun i hi => by
      rw [show ld + 9 + 4 * 3 + 2 = ld + 21 + 2 by omega, ← hN]
      rcases (show i = 1 ∨ i = 3 ∨ i = 4 ∨ i = 2 ∨ i = 0 ∨ i = 5 ∨ i = 6 ∨ i = 7 ∨ i = 8 by omega) with q | q | q | q | q | q | q | q | q <;> subst q
      · rw [uM_diff (by omega), uM_diff (by omega)]; exact uM_same
      · rw [uM_diff (by omega)]; exact uM_same
      · exact uM_same
      all_goals (rw [uM_diff (by omega), uM_diff (by omega), uM_diff (by omega)]; exact h.vz (x := 23) (by decide) (by decide +kernel))
    rcases h.law (w := 3) (p := 0) (by decide) (N := N) (fun c j hc => by rw [← hN, uM_diff (by omega), uM_diff (by omega), uM_diff (by omega)]) hv with ⟨t1, t2⟩ | ⟨t1, N', t2⟩
    · rw [show F_Law_isTold (ld + 21) M = some 0 from t1, bI_s, if_pos rfl, t2]
      exact ⟨M, rfl⟩
    · have t3 : F_Law_value (ld + 21) N = some (lawS M lv 3 (v9 0 (M 416 (5 * lv + d)) 0 (manS M lv nf d) day 0 0 0 0) 0, N') := t2
      rw [show F_Law_isTold (ld + 21) M = some 1 from t1, bI_s, if_neg (show ¬ (1 : Int32) = 0 by decide), s_at (by omega) (by decide), bI_s, h.htE hd, show F_Law_let (ld + 21) 1 (M 416 (5 * lv + d)) M = some (uM M (ld + 21 + 2) 1 (M 416 (5 * lv + d))) from let_e (j := 1) (by decide), bI_s, hman, bI_s, show F_Law_let (ld + 21) 3 (manS M lv nf d) (uM M (ld + 21 + 2) 1 (M 416 (5 * lv + d))) = some (uM (uM M (ld + 21 + 2) 1 (M 416 (5 * lv + d))) (ld + 21 + 2) 3 (manS M lv nf d)) from let_e (j := 3) (by decide), bI_s, show F_Law_let (ld + 21) 4 day (uM (uM M (ld + 21 + 2) 1 (M 416 (5 * lv + d))) (ld + 21 + 2) 3 (manS M lv nf d)) = some (uM (uM (uM M (ld + 21 + 2) 1 (M 416 (5 * lv + d))) (ld + 21 + 2) 3 (manS M lv nf d)) (ld + 21 + 2) 4 day) from let_e (j := 4) (by decide), bI_s, hN, t3, bI2_s, within_e (by decide), bI_s]
      exact ⟨N', rfl⟩
  obtain ⟨M', e2⟩ := key
  have := Option.some.inj (e1.symm.trans e2)
  injection this with i1 i2
  subst i2
  exact ⟨M1, e2, k1⟩
/-- a dish's force: with one more of a food, or none -/
def disS (M : gM) (lv nf d : Nat) (more : Option Nat) (j : Nat) (day : Int32) : Int32 := match more with
  | none => potS M lv (nI j) (sumS M lv nf d j) (M 416 (5 * lv + d)) (manS M lv nf d) day
  | some f => potS M lv (nI j) (sumS M lv nf d j + M 414 (3 * (6 * lv + f) + j)) (M 416 (5 * lv + d)) (manS M lv nf d + 1) day
def moreI (more : Option Nat) : Int32 := match more with
  | none => -2
  | some f => nI f
theorem c_dishForce (h : Lnd ld lv nf nd ng ne M) {d j : Nat} {more : Option Nat} {day : Int32} (hd : d < nd) (hj : j < 3) (hm : ∀ f, more = some f → f < nf) : ∃ M', F_Land_dishForce ld (nI d) (moreI more) (nI j) day M = some (disS M lv nf d more j day, M') ∧ Kl C0 M zL M' zL := by
  have h5 := h.nd5
  have h6 := h.nf6
  unfold F_Land_dishForce J_Land_dishForce_33
  rw [c_sumOf h hd hj, bI_s, c_manyIn h hd, bI_s, s_at (by omega) (by decide), h.htE hd]
  match more, hm with
  | none, _ =>
    obtain ⟨M', e1, k1⟩ := c_potForce h (kind := nI j) (sum := sumS M lv nf d j) (heat := M 416 (5 * lv + d)) (many := manS M lv nf d) (day := day)
    rw [if_pos (show moreI none < 0 by decide), bI_s, e1, bI2_s]
    exact ⟨M', rfl, k1⟩
  | some f, hm =>
    have hf := hm f rfl
    obtain ⟨M', e1, k1⟩ := c_potForce h (kind := nI j) (sum := sumS M lv nf d j + M 414 (3 * (6 * lv + f) + j)) (heat := M 416 (5 * lv + d)) (many := manS M lv nf d + 1) (day := day)
    rw [show moreI (some f) = nI f from rfl, if_neg (nI_pos (by omega)), c_brought h hf hj, bI_s, nmI_e, nmI_e, bI_s, e1, bI2_s]
    exact ⟨M', rfl, k1⟩
end CLS
end LND
end PAR32
end MG14x2
section MG14x3
/-! the model: dishes, bounds, lots -/
section PAR33
theorem sm_z {g : Nat → Int32} {n : Nat} : ∀ r, (∀ k, n ≤ k → k < n + r → g k = 0) → sm g (n + r) = sm g n
  | 0, _ => rfl
  | r + 1, h => by
    show sm g (n + r) + g (n + r) = sm g n
    rw [sm_z r (fun k a b => h k a (by omega)), h (n + r) (by omega) (by omega), Int32.add_zero]
theorem i_ac (a b c : Int32) : a + b + c = a + c + b := by rw [Int32.add_assoc, Int32.add_comm b c, ← Int32.add_assoc]
theorem sm_u {g g' : Nat → Int32} {x : Nat} {e : Int32} (h1 : g' x = g x + e) (h2 : ∀ k, k ≠ x → g' k = g k) : ∀ n, sm g' n = if x < n then sm g n + e else sm g n
  | 0 => rfl
  | n + 1 => by
    show sm g' n + g' n = _
    rw [sm_u h1 h2 n]
    by_cases q : x = n
    · subst q
      rw [if_neg (by omega), if_pos (by omega), h1, ← Int32.add_assoc]
      rfl
    · rw [h2 n (fun w => q w.symm)]
      by_cases w : x < n
      · rw [if_pos w, if_pos (by omega), i_ac]; rfl
      · rw [if_neg w, if_neg (by omega)]; rfl
section MOD
variable {ld lv nf nd ng ne : Nat} {M M' : gM}
/-- what a dish puts in the pot -/
def potD (M : gM) (lv nf d f : Nat) : Int32 := if f < nf then M 417 (6 * (5 * lv + d) + f) else 0
theorem m_fillL (h : Lnd ld lv nf nd ng ne M) {d : Nat} (hd : d < nd) : ∀ (r k f : Nat) (N : gM), k + r = 6 → (∀ c j, c ≠ 438 → N c j = M c j) → H_Mod_fillsPot_2 (nI d) (f + 1 + r) (nI k) N = some (fl N 438 k r (fun j => potD M lv nf d (k + j))) := by
  have h6 := h.nf6
  have h5 := h.nd5
  have h1 := h.l1
  intro r
  induction r with
  | zero =>
    intro k f N hk hN
    show B_Mod_fillsPot_2 (nI d) (H_Mod_fillsPot_2 (nI d) f) (nI k) N = _
    unfold B_Mod_fillsPot_2
    rw [show (6 : Int32) = nI 6 from rfl, if_pos (by rw [nI_leI (by omega) (by omega)]; omega), fl_0]
  | succ r ih =>
    intro k f N hk hN
    show B_Mod_fillsPot_2 (nI d) (H_Mod_fillsPot_2 (nI d) (f + 1 + r)) (nI k) N = _
    unfold B_Mod_fillsPot_2 J_Mod_fillsPot_48
    rw [show (6 : Int32) = nI 6 from rfl, show (5 : Int32) = nI 5 from rfl, if_neg (by rw [nI_leI (by omega) (by omega)]; omega), hN 401 18 (by decide), h.l18, if_neg (nI_in (by omega) (by omega)), nI_clamp (by omega), hN 411 _ (by decide), h.mf]
    have fin : ∀ x : Int32, x = potD M lv nf d k → (if (nI k : Int32) < 0 ∨ 6 ≤ (nI k : Int32).toNatClampNeg then none else nmM (uM N 438 (nI k : Int32).toNatClampNeg x) (fun M5 => nmI (nI k + 1) (fun x6 => H_Mod_fillsPot_2 (nI d) (f + 1 + r) x6 M5))) = some (fl N 438 k (r + 1) (fun j => potD M lv nf d (k + j))) := fun x hx => by
      rw [if_neg (nI_in (by omega) (by omega)), nI_clamp (by omega), nmM_e, nmI_e, nI_1, ih (k + 1) f _ (by omega) (fun c j hc => by rw [uM_diff (by omega)]; exact hN c j hc)]
      refine congrArg some ?_
      have e : (fun j => potD M lv nf d (k + 1 + j)) = fun j => (fun j => potD M lv nf d (k + j)) (j + 1) := by
        funext j
        show potD M lv nf d (k + 1 + j) = potD M lv nf d (k + (j + 1))
        congr 1
        omega
      rw [e]
      exact fl_cons (v := fun j => potD M lv nf d (k + j)) hx
    by_cases q : k < nf
    · rw [if_neg (by rw [nI_leI (by omega) (by omega)]; omega), nI_mul, nI_add, nI_mul, nI_add, if_neg (nI_in (by omega) (by omega))]
      refine fin _ ?_
      rw [nI_clamp (by omega), hN 417 _ (by decide)]
      unfold potD
      rw [if_pos q]
    · rw [if_pos (by rw [nI_leI (by omega) (by omega)]; omega)]
      refine fin _ ?_
      unfold potD
      rw [if_neg q]
theorem m_fillsPot (h : Lnd ld lv nf nd ng ne M) {d : Nat} (hd : d < nd) : F_Mod_fillsPot (nI d) M = some (fl M 438 0 6 (potD M lv nf d)) := by
  unfold F_Mod_fillsPot
  obtain ⟨g, hg⟩ := FU_k (1 + 6) (by omega)
  rw [hg, ← Nat.add_assoc]
  refine (m_fillL h hd 6 0 g M (by omega) (fun _ _ _ => rfl)).trans ?_
  simp only [Nat.zero_add]
theorem m_potMany : F_Mod_potMany M = some (sm (M 438) 6) := by
  have key : ∀ (r k f : Nat), k + r = 6 → H_Mod_potMany_4 M (f + 1 + r) (sm (M 438) k) (nI k) = some (sm (M 438) 6) := by
    intro r
    induction r with
    | zero =>
      intro k f hk
      obtain rfl : k = 6 := by omega
      show B_Mod_potMany_4 M (H_Mod_potMany_4 M f) _ (nI 6) = _
      unfold B_Mod_potMany_4
      rw [if_pos (by decide)]
    | succ r ih =>
      intro k f hk
      show B_Mod_potMany_4 M (H_Mod_potMany_4 M (f + 1 + r)) _ (nI k) = _
      unfold B_Mod_potMany_4
      rw [show (6 : Int32) = nI 6 from rfl, if_neg (by rw [nI_leI (by omega) (by omega)]; omega), if_neg (nI_in (by omega) (by omega)), nI_clamp (by omega), nmI_e, nmI_e, nI_1]
      exact ih (k + 1) f (by omega)
  unfold F_Mod_potMany
  obtain ⟨g, hg⟩ := FU_k (1 + 6) (by omega)
  rw [hg, ← Nat.add_assoc]
  exact key 6 0 g (by omega)
theorem m_potPrice (h : Lnd ld lv nf nd ng ne M) : F_Mod_potPrice M = some (sm (fun f => M 438 f * M 413 (6 * lv + f)) nf) := by
  have h6 := h.nf6
  have h1 := h.l1
  have key : ∀ (r k f : Nat), k + r = nf → H_Mod_potPrice_4 M (f + 1 + r) (sm (fun f => M 438 f * M 413 (6 * lv + f)) k) (nI k) = some (sm (fun f => M 438 f * M 413 (6 * lv + f)) nf) := by
    intro r
    induction r with
    | zero =>
      intro k f hk
      obtain rfl : k = nf := by omega
      show B_Mod_potPrice_4 M (H_Mod_potPrice_4 M f) _ (nI k) = _
      unfold B_Mod_potPrice_4
      rw [h.l18, if_neg (nI_in (by omega) (by omega)), nI_clamp (by omega), h.mf, if_pos (by rw [nI_leI (by omega) (by omega)]; omega)]
    | succ r ih =>
      intro k f hk
      show B_Mod_potPrice_4 M (H_Mod_potPrice_4 M (f + 1 + r)) _ (nI k) = _
      unfold B_Mod_potPrice_4
      rw [h.l18, if_neg (nI_in (by omega) (by omega)), nI_clamp (by omega), h.mf, if_neg (by rw [nI_leI (by omega) (by omega)]; omega), if_neg (nI_in (by omega) (by omega)), show (6 : Int32) = nI 6 from rfl, nI_mul, nI_add, if_neg (nI_in (by omega) (by omega)), nI_clamp (by omega), nI_clamp (by omega), nmI_e, nmI_e, nI_1]
      exact ih (k + 1) f (by omega)
  unfold F_Mod_potPrice
  obtain ⟨g, hg⟩ := FU_k (1 + nf) (by omega)
  rw [hg, ← Nat.add_assoc]
  exact key nf 0 g (by omega)
theorem m_looks : F_Mod_looks M = some (uM (fl M 434 0 9 (fun _ => 0)) 434 4 (M 437 35)) := by
  have key : ∀ (r k f : Nat) (N : gM), k + r = 9 → H_Mod_looks_2 (f + 1 + r) (nI k) N = J_Mod_looks_21 (fl N 434 k r (fun _ => 0)) := by
    intro r
    induction r with
    | zero =>
      intro k f N hk
      show B_Mod_looks_2 _ (nI k) N = _
      unfold B_Mod_looks_2
      rw [show (9 : Int32) = nI 9 from rfl, if_pos (by rw [nI_leI (by omega) (by omega)]; omega), fl_0]
    | succ r ih =>
      intro k f N hk
      show B_Mod_looks_2 (H_Mod_looks_2 (f + 1 + r)) (nI k) N = _
      unfold B_Mod_looks_2
      rw [show (9 : Int32) = nI 9 from rfl, if_neg (by rw [nI_leI (by omega) (by omega)]; omega), if_neg (nI_in (by omega) (by omega)), nI_clamp (by omega), nmM_e, nmI_e, nI_1, ih (k + 1) f _ (by omega)]
      exact congrArg J_Mod_looks_21 (fl_cons (v := fun _ => 0) rfl)
  unfold F_Mod_looks
  obtain ⟨g, hg⟩ := FU_k (1 + 9) (by omega)
  rw [hg, ← Nat.add_assoc]
  refine (key 9 0 g M (by omega)).trans ?_
  unfold J_Mod_looks_21
  rw [nmM_e, fl_out (by omega)]
theorem Lnd.asks (h : Lnd ld lv nf nd ng ne M) {w : Nat} {p a b : Int32} {vs : Nat → Int32} (hw : w < 4) (hv : ∀ i, i < 9 → M 434 i = vs i) : ∃ M', F_Mod_asks (nI w) p a b M = some (hb a b (lawS M lv w vs p), M') ∧ Eo (fun c j => c = 435 ∨ (c = 401 ∧ j = 51)) M M' := by
  obtain ⟨M', e1, e2⟩ := m_asks (p := p) (a := a) (b := b) (vs := vs) h.l1 hw h.l18 h.2.2.2.2.2.1 hv
  rw [held_e, bI_s] at e1
  exact ⟨M', e1, e2⟩
theorem m_forceBy (h : Lnd ld lv nf nd ng ne M) {j : Nat} {heat : Int32} (hj : j < 3) : ∃ M', F_Mod_forceBy (nI j) heat M = some (potS M lv (nI j) (sm (fun f => M 438 f * M 414 (3 * (6 * lv + f) + j)) nf) heat (sm (M 438) 6) (M 437 35), M') ∧ Eo mV M M' := by
  have h6 := h.nf6
  have h1 := h.l1
  have key : ∀ (r k f : Nat), k + r = nf → H_Mod_forceBy_5 (nI j) heat M (f + 1 + r) (sm (fun f => M 438 f * M 414 (3 * (6 * lv + f) + j)) k) (nI k) = J_Mod_forceBy_55 (nI j) heat (sm (fun f => M 438 f * M 414 (3 * (6 * lv + f) + j)) nf) M := by
    intro r
    induction r with
    | zero =>
      intro k f hk
      obtain rfl : k = nf := by omega
      show B_Mod_forceBy_5 (nI j) heat M (H_Mod_forceBy_5 (nI j) heat M f) _ (nI k) = _
      unfold B_Mod_forceBy_5
      rw [h.l18, if_neg (nI_in (by omega) (by omega)), nI_clamp (by omega), h.mf, if_pos (by rw [nI_leI (by omega) (by omega)]; omega)]
    | succ r ih =>
      intro k f hk
      show B_Mod_forceBy_5 (nI j) heat M (H_Mod_forceBy_5 (nI j) heat M (f + 1 + r)) _ (nI k) = _
      unfold B_Mod_forceBy_5
      rw [h.l18, if_neg (nI_in (by omega) (by omega)), nI_clamp (by omega), h.mf, if_neg (by rw [nI_leI (by omega) (by omega)]; omega), if_neg (nI_in (by omega) (by omega)), show (6 : Int32) = nI 6 from rfl, show (3 : Int32) = nI 3 from rfl, nI_mul, nI_add, nI_mul, nI_add, if_neg (nI_in (by omega) (by omega)), nI_clamp (by omega), nI_clamp (by omega), nmI_e, nmI_e, nI_1]
      exact ih (k + 1) f (by omega)
  unfold F_Mod_forceBy
  obtain ⟨g, hg⟩ := FU_k (1 + nf) (by omega)
  rw [hg, ← Nat.add_assoc]
  have e0 := key nf 0 g (by omega)
  rw [show (0 : Int32) = nI 0 from rfl]
  rw [show sm (fun f => M 438 f * M 414 (3 * (6 * lv + f) + j)) 0 = nI 0 from rfl] at e0
  rw [e0]
  unfold J_Mod_forceBy_55
  generalize sm (fun f => M 438 f * M 414 (3 * (6 * lv + f) + j)) nf = s
  rw [m_looks, bI_s, nmM_e, nmM_e, nmM_e, m_potMany, bI_s, nmM_e]
  have f1 : Eo mV M (uM (uM (uM (uM (uM (fl M 434 0 9 (fun _ => 0)) 434 4 (M 437 35)) 434 0 s) 434 1 heat) 434 2 (nI j)) 434 3 (sm (uM (uM (uM (uM (fl M 434 0 9 (fun _ => 0)) 434 4 (M 437 35)) 434 0 s) 434 1 heat) 434 2 (nI j) 438) 6)) := fun c i q => by
    unfold mV at q
    rw [uM_diff (by omega), uM_diff (by omega), uM_diff (by omega), uM_diff (by omega), uM_diff (by omega), fl_out (by omega)]
  have es : sm (uM (uM (uM (uM (fl M 434 0 9 (fun _ => 0)) 434 4 (M 437 35)) 434 0 s) 434 1 heat) 434 2 (nI j) 438) 6 = sm (M 438) 6 := sm_c 6 (fun k _ => by rw [uM_diff (by omega), uM_diff (by omega), uM_diff (by omega), uM_diff (by omega), fl_out (by omega)])
  rw [es] at f1 ⊢
  generalize hN : uM (uM (uM (uM (uM (fl M 434 0 9 (fun _ => 0)) 434 4 (M 437 35)) 434 0 s) 434 1 heat) 434 2 (nI j)) 434 3 (sm (M 438) 6) = N at f1 ⊢
  have hv : ∀ i, i < 9 → N 434 i = v9 s heat (nI j) (sm (M 438) 6) (M 437 35) 0 0 0 0 i := fun i hi => by
    rw [← hN]
    rcases (show i = 0 ∨ i = 1 ∨ i = 2 ∨ i = 3 ∨ i = 4 ∨ i = 5 ∨ i = 6 ∨ i = 7 ∨ i = 8 by omega) with q | q | q | q | q | q | q | q | q <;> subst q
    · rw [uM_diff (by omega), uM_diff (by omega), uM_diff (by omega)]; exact uM_same
    · rw [uM_diff (by omega), uM_diff (by omega)]; exact uM_same
    · rw [uM_diff (by omega)]; exact uM_same
    · exact uM_same
    · rw [uM_diff (by omega), uM_diff (by omega), uM_diff (by omega), uM_diff (by omega)]; exact uM_same
    all_goals (rw [uM_diff (by omega), uM_diff (by omega), uM_diff (by omega), uM_diff (by omega), uM_diff (by omega)]; exact fl_in (by omega))
  obtain ⟨M', y1, y2⟩ := (h.kV f1).asks (w := 0) (p := s) (a := 0) (b := 99) (by decide) hv
  rw [show F_Mod_asks 0 s 0 99 N = _ from y1, bI2_s]
  refine ⟨M', ?_, f1.tr (y2.mono (fun c j q => by unfold mV; omega))⟩
  unfold potS
  rw [lawS_keep (fun c i a b => f1 c i (by unfold mV; omega))]
theorem m_boundBy (h : Lnd ld lv nf nd ng ne M) {g : Nat} {kind ate ago : Int32} (hg : g < 4) : ∃ M', F_Mod_boundBy (nI g) kind ate ago M = some (bndS M lv g kind ate ago (M 437 35), M') ∧ Eo mV M M' := by
  have h1 := h.l1
  unfold F_Mod_boundBy
  have e18 : uM (uM (uM (fl M 434 0 9 (fun _ => 0)) 434 4 (M 437 35)) 434 0 ate) 434 2 kind 401 18 = nI lv := by rw [uM_diff (by omega), uM_diff (by omega), uM_diff (by omega), fl_out (by omega)]; exact h.l18
  have e419 : uM (uM (uM (fl M 434 0 9 (fun _ => 0)) 434 4 (M 437 35)) 434 0 ate) 434 2 kind 419 (4 * lv + g) = M 419 (4 * lv + g) := by rw [uM_diff (by omega), uM_diff (by omega), uM_diff (by omega), fl_out (by omega)]
  rw [m_looks, bI_s, nmM_e, nmM_e, e18, show (4 : Int32) = nI 4 from rfl, nI_mul, nI_add, if_neg (nI_in (by omega) (by omega)), nI_clamp (by omega), e419, nmM_e, nmM_e]
  have f1 : Eo mV M (uM (uM (uM (uM (uM (fl M 434 0 9 (fun _ => 0)) 434 4 (M 437 35)) 434 0 ate) 434 2 kind) 434 5 (M 419 (4 * lv + g))) 434 6 ago) := fun c i q => by
    unfold mV at q
    rw [uM_diff (by omega), uM_diff (by omega), uM_diff (by omega), uM_diff (by omega), uM_diff (by omega), fl_out (by omega)]
  generalize hN : uM (uM (uM (uM (uM (fl M 434 0 9 (fun _ => 0)) 434 4 (M 437 35)) 434 0 ate) 434 2 kind) 434 5 (M 419 (4 * lv + g))) 434 6 ago = N at f1 ⊢
  have hv : ∀ i, i < 9 → N 434 i = v9 ate 0 kind 0 (M 437 35) (M 419 (4 * lv + g)) ago 0 0 i := fun i hi => by
    rw [← hN]
    rcases (show i = 0 ∨ i = 2 ∨ i = 4 ∨ i = 5 ∨ i = 6 ∨ i = 1 ∨ i = 3 ∨ i = 7 ∨ i = 8 by omega) with q | q | q | q | q | q | q | q | q <;> subst q
    · rw [uM_diff (by omega), uM_diff (by omega), uM_diff (by omega)]; exact uM_same
    · rw [uM_diff (by omega), uM_diff (by omega)]; exact uM_same
    · rw [uM_diff (by omega), uM_diff (by omega), uM_diff (by omega), uM_diff (by omega)]; exact uM_same
    · rw [uM_diff (by omega)]; exact uM_same
    · exact uM_same
    all_goals (rw [uM_diff (by omega), uM_diff (by omega), uM_diff (by omega), uM_diff (by omega), uM_diff (by omega)]; exact fl_in (by omega))
  obtain ⟨M', y1, y2⟩ := (h.kV f1).asks (w := 1) (p := ate - ago) (a := 0) (b := 99) (by decide) hv
  rw [show F_Mod_asks 1 (ate - ago) 0 99 N = _ from y1, bI2_s]
  refine ⟨M', ?_, f1.tr (y2.mono (fun c j q => by unfold mV; omega))⟩
  unfold bndS
  rw [lawS_keep (fun c i a b => f1 c i (by unfold mV; omega))]
/-- a dish in the pot -/
theorem potD_sum {d j : Nat} (e : ∀ f, f < 6 → M 438 f = potD M lv nf d f) (h6 : nf ≤ 6) : sm (fun f => M 438 f * M 414 (3 * (6 * lv + f) + j)) nf = sumS M lv nf d j := by
  unfold sumS
  exact sm_c nf (fun k hk => by rw [e k (by omega)]; unfold potD; rw [if_pos hk])
theorem potD_pri {d : Nat} (e : ∀ f, f < 6 → M 438 f = potD M lv nf d f) (h6 : nf ≤ 6) : sm (fun f => M 438 f * M 413 (6 * lv + f)) nf = priS M lv nf d := by
  unfold priS
  exact sm_c nf (fun k hk => by rw [e k (by omega)]; unfold potD; rw [if_pos hk])
theorem potD_man {d : Nat} (e : ∀ f, f < 6 → M 438 f = potD M lv nf d f) (h6 : nf ≤ 6) : sm (M 438) 6 = manS M lv nf d := by
  have e1 : sm (M 438) (nf + (6 - nf)) = sm (M 438) nf := sm_z (6 - nf) (fun k a b => by rw [e k (by omega)]; unfold potD; rw [if_neg (by omega)])
  rw [show nf + (6 - nf) = 6 by omega] at e1
  rw [e1]
  unfold manS
  exact sm_c nf (fun k hk => by rw [e k (by omega)]; unfold potD; rw [if_pos hk])
/-- the pot holds a dish, or a dish with one more of a food -/
def Pot (M : gM) (lv nf d : Nat) (more : Option Nat) : Prop := ∀ f, f < 6 → M 438 f = if more = some f then potD M lv nf d f + 1 else potD M lv nf d f
theorem Pot.force (h : Lnd ld lv nf nd ng ne M) {d j : Nat} {more : Option Nat} (hp : Pot M lv nf d more) (hm : ∀ f, more = some f → f < nf) (hj : j < 3) : ∃ M', F_Mod_forceBy (nI j) (M 416 (5 * lv + d)) M = some (disS M lv nf d more j (M 437 35), M') ∧ Eo mV M M' := by
  have h6 := h.nf6
  obtain ⟨M', e1, e2⟩ := m_forceBy h (j := j) (heat := M 416 (5 * lv + d)) hj
  refine ⟨M', ?_, e2⟩
  rw [e1]
  unfold disS
  match more, hm, hp with
  | none, _, hp =>
    have hp' : ∀ f, f < 6 → M 438 f = potD M lv nf d f := fun f hf => by rw [hp f hf, if_neg (by simp)]
    rw [potD_sum hp' h6, potD_man hp' h6]
  | some x, hm, hp =>
    have hx := hm x rfl
    have e3 : sm (fun f => M 438 f * M 414 (3 * (6 * lv + f) + j)) nf = sumS M lv nf d j + M 414 (3 * (6 * lv + x) + j) := by
      have e4 : sm (fun f => M 438 f * M 414 (3 * (6 * lv + f) + j)) nf = sm (fun f => if f = x then M 417 (6 * (5 * lv + d) + f) * M 414 (3 * (6 * lv + f) + j) + M 414 (3 * (6 * lv + f) + j) else M 417 (6 * (5 * lv + d) + f) * M 414 (3 * (6 * lv + f) + j)) nf := sm_c nf (fun k hk => by
        rw [hp k (by omega)]
        unfold potD
        rw [if_pos hk]
        by_cases q : k = x
        · rw [if_pos (by rw [q]), if_pos q, Int32.add_mul, Int32.one_mul]
        · rw [if_neg (fun w => q (Option.some.inj w).symm), if_neg q])
      rw [e4, sm_u (g := fun f => M 417 (6 * (5 * lv + d) + f) * M 414 (3 * (6 * lv + f) + j)) (x := x) (e := M 414 (3 * (6 * lv + x) + j)) (by rw [if_pos rfl]) (fun k hk => by rw [if_neg hk]) nf, if_pos hx]
      rfl
    have e5 : sm (M 438) 6 = manS M lv nf d + 1 := by
      have e6 : sm (M 438) 6 = sm (fun f => if f = x then potD M lv nf d f + 1 else potD M lv nf d f) 6 := sm_c 6 (fun k hk => by
        rw [hp k hk]
        by_cases q : k = x
        · rw [if_pos (by rw [q]), if_pos q]
        · rw [if_neg (fun w => q (Option.some.inj w).symm), if_neg q])
      rw [e6, sm_u (g := potD M lv nf d) (x := x) (e := 1) (by rw [if_pos rfl]) (fun k hk => by rw [if_neg hk]) 6, if_pos (by omega)]
      have e7 : sm (potD M lv nf d) (nf + (6 - nf)) = sm (potD M lv nf d) nf := sm_z (6 - nf) (fun k a b => by unfold potD; rw [if_neg (by omega)])
      rw [show nf + (6 - nf) = 6 by omega] at e7
      rw [e7]
      unfold manS
      rw [sm_c nf (fun k hk => by unfold potD; rw [if_pos hk])]
    rw [e3, e5]
/-- LOT -/
def mixS (h v : Int32) : Int32 := ((h ^^^ v) * 1103515245 + 12345) ^^^ ((((h ^^^ v) * 1103515245 + 12345).toUInt32 >>> ((15 : Int32).toUInt32 &&& Int32.toUInt32 31)).toInt32)
def lotS (n seed which : Int32) : Int32 := (((mixS (mixS seed 103) which).toUInt32 >>> ((1 : Int32).toUInt32 &&& Int32.toUInt32 31)).toInt32) - (((mixS (mixS seed 103) which).toUInt32 >>> ((1 : Int32).toUInt32 &&& Int32.toUInt32 31)).toInt32) / n * n
theorem c_lot {n seed which : Int32} (hn : ¬ n ≤ 0) : F_Land_lot n seed which = some (lotS n seed which) := by
  unfold F_Land_lot F_Land_stirred
  rw [nmI_e, bI_s, nmI_e, bI_s, if_neg hn, if_neg (fun q => hn (by rw [q]; decide))]
  rfl
theorem m_lotOf {n which : Int32} (hn : ¬ n = 0) : F_Mod_lotOf which n M = some (lotS n (M 401 54) which) := by
  unfold F_Mod_lotOf F_Mod_mixed
  rw [nmI_e, bI_s, nmI_e, bI_s, if_neg hn]
  rfl
theorem lotS_r {n : Nat} {seed which : Int32} (h0 : 0 < n) (hn : n < 2 ^ 31) : ∃ x, x < n ∧ lotS (nI n) seed which = nI x := by
  have hr := lot_rng (x := mixS (mixS seed 103) which) (n := nI n) (by rw [nI_toInt hn]; omega)
  have e : (nI n).toInt = (n : Int) := nI_toInt hn
  exact ⟨(lotS (nI n) seed which).toInt.toNat, by unfold lotS; omega, i_nI hr.1⟩
end MOD
end PAR33
end MG14x3
section MG14x4
/-! the state: the class's and the model's row -/
section PAR34
/-- a class's state at X as a row r of the model tells it: the day D at most, Q meals at most -/
def St (D Q nf X : Nat) (r : Nat → Int32) (M : gM) : Prop :=
  (∃ day, day ≤ D ∧ M X 0 = nI day ∧ r 35 = nI day ∧ ∀ g, g < 4 → ∃ ml, ml ≤ Q ∧ M (X + 4) g = nI ml ∧ r (31 + g) = nI ml ∧ ((ml = 0 ∧ r (15 + g) = -2) ∨ (0 < ml ∧ ∃ e, e ≤ day ∧ M (X + 5) g = nI e ∧ r (15 + g) = nI e))) ∧
  M X 1 = r 36 ∧ M X 2 = r 37 ∧ M X 3 = r 11 ∧ (∀ j, j < 3 → M (X + 1) j = r (12 + j)) ∧
  (∀ f, f < 6 → ∃ x, x ≤ 99 ∧ M (X + 2) f = nI x ∧ r f = nI x ∧ (nf ≤ f → x = 0)) ∧ (∀ d, d < 5 → M (X + 3) d = r (6 + d)) ∧ (∀ i, i < 12 → M (X + 6) i = r (19 + i))
theorem St.cp {D Q D' Q' nf X X' : Nat} {r r' : Nat → Int32} {M M' : gM} (h : St D Q nf X r M) (hD : D ≤ D') (hQ : Q ≤ Q') (a0 : ∀ j, j < 4 → M' X' j = M X j) (a1 : ∀ j, j < 3 → M' (X' + 1) j = M (X + 1) j) (a2 : ∀ j, j < 6 → M' (X' + 2) j = M (X + 2) j) (a3 : ∀ j, j < 5 → M' (X' + 3) j = M (X + 3) j) (a4 : ∀ j, j < 4 → M' (X' + 4) j = M (X + 4) j) (a5 : ∀ j, j < 4 → M' (X' + 5) j = M (X + 5) j) (a6 : ∀ j, j < 12 → M' (X' + 6) j = M (X + 6) j) (b : ∀ k, k < 38 → r' k = r k) : St D' Q' nf X' r' M' := by
  obtain ⟨⟨day, d1, d2, d3, d4⟩, h1, h2, h3, h4, h5, h6, h7⟩ := h
  refine ⟨⟨day, by omega, by rw [a0 0 (by omega)]; exact d2, by rw [b 35 (by omega)]; exact d3, fun g hg => ?_⟩, by rw [a0 1 (by omega), b 36 (by omega)]; exact h1, by rw [a0 2 (by omega), b 37 (by omega)]; exact h2, by rw [a0 3 (by omega), b 11 (by omega)]; exact h3, fun j hj => by rw [a1 j hj, b _ (by omega)]; exact h4 j hj, fun f hf => ?_, fun d hd => by rw [a3 d hd, b _ (by omega)]; exact h6 d hd, fun i hi => by rw [a6 i hi, b _ (by omega)]; exact h7 i hi⟩
  · obtain ⟨ml, m1, m2, m3, m4⟩ := d4 g hg
    refine ⟨ml, by omega, by rw [a4 g hg]; exact m2, by rw [b _ (by omega)]; exact m3, ?_⟩
    rw [a5 g hg, b (15 + g) (by omega)]
    exact m4
  · rw [a2 f hf, b f (by omega)]
    exact h5 f hf
theorem St.mono {D Q D' Q' nf X : Nat} {r : Nat → Int32} {M : gM} (h : St D Q nf X r M) (hD : D ≤ D') (hQ : Q ≤ Q') : St D' Q' nf X r M := h.cp hD hQ (fun _ _ => rfl) (fun _ _ => rfl) (fun _ _ => rfl) (fun _ _ => rfl) (fun _ _ => rfl) (fun _ _ => rfl) (fun _ _ => rfl) (fun _ _ => rfl)
theorem St.keep {D Q nf X : Nat} {r r' : Nat → Int32} {M M' : gM} (h : St D Q nf X r M) (e : ∀ c j, X ≤ c → c < X + 7 → M' c j = M c j) (b : ∀ k, k < 38 → r' k = r k) : St D Q nf X r' M' := h.cp (Nat.le_refl _) (Nat.le_refl _) (fun _ _ => e _ _ (by omega) (by omega)) (fun _ _ => e _ _ (by omega) (by omega)) (fun _ _ => e _ _ (by omega) (by omega)) (fun _ _ => e _ _ (by omega) (by omega)) (fun _ _ => e _ _ (by omega) (by omega)) (fun _ _ => e _ _ (by omega) (by omega)) (fun _ _ => e _ _ (by omega) (by omega)) b
/-- by how much a guest is bound, so many days ahead -/
def bowS (M : gM) (lv : Nat) (r : Nat → Int32) (g j : Nat) (ahead : Int32) : Int32 := if 0 ≤ r (15 + g) then bndS M lv g (nI j) (r (19 + 3 * g + j)) (r 35 - r (15 + g) + ahead) (r 35 + ahead) else 0
def frS (M : gM) (lv : Nat) (b : Nat → Int32) : Nat → Int32
  | 0 => 0
  | e + 1 => if M 422 (6 * lv + e) ≤ b (M 421 (6 * lv + e)).toInt.toNat then frS M lv b e else frS M lv b e ||| (1 <<< (nI e &&& 31))
def frK (M : gM) (lv j : Nat) (b : Int32) : Nat → Int32
  | 0 => 0
  | e + 1 => if M 421 (6 * lv + e) = nI j then (if M 422 (6 * lv + e) ≤ b then frK M lv j b e else frK M lv j b e ||| (1 <<< (nI e &&& 31))) else frK M lv j b e
section STA
variable {D Q ld lv nf nd ng ne X : Nat} {M M' : gM} {r : Nat → Int32}
theorem bowS_k (e : ∀ c j, 411 ≤ c → c ≤ 432 → M' c j = M c j) {g j : Nat} {a : Int32} : bowS M' lv r g j a = bowS M lv r g j a := by unfold bowS; rw [bndS_k e]
theorem frS_k (e : ∀ c j, 411 ≤ c → c ≤ 432 → M' c j = M c j) {b : Nat → Int32} : ∀ n, frS M' lv b n = frS M lv b n
  | 0 => rfl
  | n + 1 => by unfold frS; rw [frS_k e n, e 421 _ (by decide) (by decide), e 422 _ (by decide) (by decide)]
theorem frK_k (e : ∀ c j, 411 ≤ c → c ≤ 432 → M' c j = M c j) {j : Nat} {b : Int32} : ∀ n, frK M' lv j b n = frK M lv j b n
  | 0 => rfl
  | n + 1 => by unfold frK; rw [frK_k e n, e 421 _ (by decide) (by decide), e 422 _ (by decide) (by decide)]
theorem frS_b {b b' : Nat → Int32} (h : ∀ j, j < 3 → b j = b' j) (hk : ∀ e, e < ne → ∃ x, x ≤ 2 ∧ M 421 (6 * lv + e) = nI x) : ∀ n, n ≤ ne → frS M lv b n = frS M lv b' n
  | 0, _ => rfl
  | n + 1, hn => by
    obtain ⟨x, hx, e⟩ := hk n (by omega)
    unfold frS
    rw [frS_b h hk n (by omega), e, nI_tn (by omega), h x (by omega)]
/-- what is free by the three forces, together -/
theorem fr3 (h : Lnd ld lv nf nd ng ne M) {b : Nat → Int32} : ∀ n, n ≤ ne → 0 ||| frK M lv 0 (b 0) n ||| frK M lv 1 (b 1) n ||| frK M lv 2 (b 2) n = frS M lv b n
  | 0, _ => (by decide : (0 : Int32) ||| 0 ||| 0 ||| 0 = 0)
  | n + 1, hn => by
    have ih := fr3 h (b := b) n (by omega)
    obtain ⟨x, hx, _, e⟩ := h.df (e := n) (by omega)
    unfold frK frS
    rw [← ih, e, nI_tn (by omega)]
    generalize frK M lv 0 (b 0) n = A
    generalize frK M lv 1 (b 1) n = B
    generalize frK M lv 2 (b 2) n = C
    generalize (1 : Int32) <<< (nI n &&& 31) = t
    rcases (show x = 0 ∨ x = 1 ∨ x = 2 by omega) with q | q | q <;> subst q
    · rw [if_pos rfl, if_neg (show ¬ nI 0 = nI 1 by decide), if_neg (show ¬ nI 0 = nI 2 by decide)]
      by_cases w : M 422 (6 * lv + n) ≤ b 0
      · rw [if_pos w, if_pos w]
      · rw [if_neg w, if_neg w, ← Int32.or_assoc, Int32.or_assoc (0 ||| A) t B, Int32.or_comm t B, ← Int32.or_assoc, Int32.or_assoc (0 ||| A ||| B) t C, Int32.or_comm t C, ← Int32.or_assoc]
    · rw [if_neg (show ¬ nI 1 = nI 0 by decide), if_pos rfl, if_neg (show ¬ nI 1 = nI 2 by decide)]
      by_cases w : M 422 (6 * lv + n) ≤ b 1
      · rw [if_pos w, if_pos w]
      · rw [if_neg w, if_neg w, ← Int32.or_assoc, Int32.or_assoc (0 ||| A ||| B) t C, Int32.or_comm t C, ← Int32.or_assoc]
    · rw [if_neg (show ¬ nI 2 = nI 0 by decide), if_neg (show ¬ nI 2 = nI 1 by decide), if_pos rfl]
      by_cases w : M 422 (6 * lv + n) ≤ b 2
      · rw [if_pos w, if_pos w]
      · rw [if_neg w, if_neg w, ← Int32.or_assoc]
theorem c_freeUnder (h : Lnd ld lv nf nd ng ne M) {j : Nat} {b : Int32} (hj : j < 3) : F_Land_freeUnder ld (nI j) b M = some (frK M lv j b ne) := by
  have h6 := h.ne6
  have key : ∀ (s k f : Nat), k + s = ne → H_Land_freeUnder_5 ld (nI j) b M (f + 1 + s) (frK M lv j b k) (nI k) = some (frK M lv j b ne) := by
    intro s
    induction s with
    | zero =>
      intro k f hk
      obtain rfl : k = ne := by omega
      show B_Land_freeUnder_5 ld (nI j) b M (H_Land_freeUnder_5 ld (nI j) b M f) _ (nI k) = _
      unfold B_Land_freeUnder_5
      rw [h.ce, if_pos (by rw [nI_leI (by omega) (by omega)]; omega)]
    | succ s ih =>
      intro k f hk
      show B_Land_freeUnder_5 ld (nI j) b M (H_Land_freeUnder_5 ld (nI j) b M (f + 1 + s)) _ (nI k) = _
      obtain ⟨x, hx, e1, e2⟩ := h.df (e := k) (by omega)
      have hn := ih (k + 1) f (by omega)
      have hu : frK M lv j b (k + 1) = if M 421 (6 * lv + k) = nI j then (if M 422 (6 * lv + k) ≤ b then frK M lv j b k else frK M lv j b k ||| (1 <<< (nI k &&& 31))) else frK M lv j b k := rfl
      rw [hu, e2] at hn
      unfold B_Land_freeUnder_5 J_Land_freeUnder_47
      rw [h.ce, if_neg (by rw [nI_leI (by omega) (by omega)]; omega), s_at (by omega) (by decide), bI_s, e1, s_at (by omega) (by decide), bI_s, h.dl (by omega), nmI_e, nI_1]
      by_cases w : nI x = nI j
      · rw [if_pos w] at hn ⊢
        by_cases w2 : M 422 (6 * lv + k) ≤ b
        · rw [if_pos w2] at hn ⊢; exact hn
        · rw [if_neg w2] at hn ⊢; rw [nmI_e, nmI_e]; exact hn
      · rw [if_neg w] at hn ⊢; exact hn
  unfold F_Land_freeUnder
  obtain ⟨g, hg⟩ := FU_k (1 + ne) (by omega)
  rw [hg, ← Nat.add_assoc]
  exact key ne 0 g (Nat.zero_add _)
theorem c_hasEaten (hS : St D Q nf X r M) (hD : D < 2 ^ 31) (hQ : Q < 2 ^ 31) {g : Nat} (hg : g < 4) : F_State_hasEaten X (nI g) M = some (if 0 ≤ r (15 + g) then 1 else 0) := by
  obtain ⟨⟨day, d1, d2, d3, d4⟩, _⟩ := hS
  obtain ⟨ml, m1, m2, m3, m4⟩ := d4 g hg
  unfold F_State_hasEaten
  rw [s_at hg (by decide), bI_s, m2]
  rcases m4 with ⟨m5, m6⟩ | ⟨m5, e, m6, m7, m8⟩
  · rw [m5, m6, if_pos (by decide), if_neg (by decide)]
  · rw [m8, if_neg (nI_nle m5 (by omega)), if_pos (nI_pos' (by omega))]
theorem c_boundOf (h : Lnd ld lv nf nd ng ne M) (hS : St D Q nf X r M) (hD : D < 2 ^ 31) (hQ : Q < 2 ^ 31) {g j : Nat} {ahead : Int32} (hg : g < ng) (hj : j < 3) : ∃ M', F_State_boundOf X ld (nI g) (nI j) ahead M = some (bowS M lv r g j ahead, M') ∧ Kl C0 M zL M' zL := by
  have h4 := h.ng4
  have hs := id hS
  obtain ⟨⟨day, d1, d2, d3, d4⟩, s1, s2, s3, s4, s5, s6, s7⟩ := hs
  obtain ⟨ml, m1, m2, m3, m4⟩ := d4 g (by omega)
  unfold F_State_boundOf bowS
  rw [c_hasEaten hS hD hQ (by omega), bI_s]
  by_cases q : 0 ≤ r (15 + g)
  · rw [if_pos q, if_pos q, if_neg (show ¬ (1 : Int32) = 0 by decide)]
    unfold F_State_agoOf
    have e5 : M (X + 5) g = r (15 + g) := by
      rcases m4 with ⟨_, m6⟩ | ⟨_, e, _, m7, m8⟩
      · rw [m6] at q; exact absurd q (by decide)
      · rw [m7, m8]
    rw [show (3 : Int32) = nI 3 from rfl, nI_mul, nI_add, s_at (by omega) (by decide), bI_s, s_at (by omega) (by decide), bI_s, bI_s, e5, Nat.mul_comm g 3, s7 _ (by omega), d2, ← d3, ← Nat.add_assoc]
    obtain ⟨M', y1, y2⟩ := c_boundBy h (g := g) (kind := nI j) (ate := r (19 + 3 * g + j)) (ago := r 35 - r (15 + g) + ahead) (day := r 35 + ahead) hg
    rw [y1, bI2_s]
    exact ⟨M', rfl, y2⟩
  · rw [if_neg q, if_neg q, if_pos rfl]
    exact ⟨M, rfl, Kl.rf⟩
theorem C0_M {c j : Nat} (h : 64 ≤ c) (h2 : c ≠ 390) : C0 c j = false := by
  have e : scrL.contains c = false := by
    cases q : scrL.contains c with
    | false => rfl
    | true =>
      have := (by decide +kernel : ∀ x ∈ scrL, x < 64 ∨ x = 390) c (by simpa using q)
      omega
  exact C0_f e
theorem St.k0 (hS : St D Q nf X r M) (hX : isSt X) (k : Kl C0 M zL M' zL) : St D Q nf X r M' := hS.keep (fun c j a b => k.m (C0_M (by have := (by decide +kernel : ∀ X ∈ lSt, 64 ≤ X ∧ X + 7 ≤ 383) X hX; omega) (by have := (by decide +kernel : ∀ X ∈ lSt, 64 ≤ X ∧ X + 7 ≤ 383) X hX; omega))) (fun _ _ => rfl)
theorem k0_M (k : Kl C0 M zL M' zL) : ∀ c j, 411 ≤ c → c ≤ 432 → M' c j = M c j := fun c j a b => k.m (C0_M (by omega) (by omega))
theorem c_freeOf (h : Lnd ld lv nf nd ng ne M) (hS : St D Q nf X r M) (hX : isSt X) (hD : D < 2 ^ 31) (hQ : Q < 2 ^ 31) {g : Nat} {ahead : Int32} (hg : g < ng) : ∃ M', F_State_freeOf X ld (nI g) ahead M = some (frS M lv (fun j => bowS M lv r g j ahead) ne, M') ∧ Kl C0 M zL M' zL := by
  unfold F_State_freeOf
  obtain ⟨q, hq⟩ := FU_k 4 (by omega)
  rw [hq]
  have step : ∀ (N : gM) (f k : Nat) (acc : Int32), k < 3 → Kl C0 M zL N zL → ∃ N', H_State_freeOf_6 X ld (nI g) ahead (f + 1) acc (nI k) N = H_State_freeOf_6 X ld (nI g) ahead f (acc ||| frK M lv k (bowS M lv r g k ahead) ne) (nI (k + 1)) N' ∧ Kl C0 M zL N' zL := fun N f k acc hk kN => by
    show ∃ N', B_State_freeOf_6 X ld (nI g) ahead (H_State_freeOf_6 X ld (nI g) ahead f) acc (nI k) N = _ ∧ _
    unfold B_State_freeOf_6
    obtain ⟨N', y1, y2⟩ := c_boundOf (h.k0 kN) (hS.k0 hX kN) hD hQ (g := g) (j := k) (ahead := ahead) hg hk
    rw [show (3 : Int32) = nI 3 from rfl, if_neg (by rw [nI_leI (by omega) (by omega)]; omega), y1, bI2_s, c_freeUnder ((h.k0 kN).k0 y2) hk, bI_s, nmI_e, nmI_e, nI_1, bowS_k (k0_M kN), frK_k (k0_M (kN.trans y2))]
    exact ⟨N', rfl, kN.trans y2⟩
  obtain ⟨N1, y1, k1⟩ := step M (q + 3) 0 0 (by decide) Kl.rf
  obtain ⟨N2, y2, k2⟩ := step N1 (q + 2) 1 (0 ||| frK M lv 0 (bowS M lv r g 0 ahead) ne) (by decide) k1
  obtain ⟨N3, y3, k3⟩ := step N2 (q + 1) 2 (0 ||| frK M lv 0 (bowS M lv r g 0 ahead) ne ||| frK M lv 1 (bowS M lv r g 1 ahead) ne) (by decide) k2
  rw [show (H_State_freeOf_6 X ld (nI g) ahead (q + 4) 0 0 M) = H_State_freeOf_6 X ld (nI g) ahead (q + 3 + 1) 0 (nI 0) M from rfl, y1, y2, y3]
  refine ⟨N3, ?_, k3⟩
  show B_State_freeOf_6 X ld (nI g) ahead (H_State_freeOf_6 X ld (nI g) ahead q) _ (nI 3) N3 = _
  unfold B_State_freeOf_6
  rw [if_pos (by decide), fr3 h (b := fun j => bowS M lv r g j ahead) ne (Nat.le_refl _)]
theorem m_boundNow (h : Lnd ld lv nf nd ng ne M) {g j : Nat} (hg : g < 4) (hj : j < 3) : ∃ M', F_Mod_boundNow (nI g) (nI j) M = some (bowS M lv (M 437) g j 0, M') ∧ Eo mV M M' := by
  unfold F_Mod_boundNow bowS
  rw [show (15 : Int32) = nI 15 from rfl, show (19 : Int32) = nI 19 from rfl, show (3 : Int32) = nI 3 from rfl, nI_mul, nI_add, nI_add, nI_add, if_neg (nI_in (by omega) (by omega)), nI_clamp (by omega)]
  by_cases q : 0 ≤ M 437 (15 + g)
  · rw [if_pos q, if_pos q, if_neg (nI_in (by omega) (by omega)), if_neg (nI_inc (by omega) (by omega)), nI_clamp (by omega), Int32.add_zero, Int32.add_zero]
    obtain ⟨M', y1, y2⟩ := m_boundBy h (g := g) (kind := nI j) (ate := M 437 (19 + 3 * g + j)) (ago := M 437 35 - M 437 (15 + g)) hg
    rw [y1, bI2_s]
    exact ⟨M', rfl, y2⟩
  · rw [if_neg q, if_neg q]
    exact ⟨M, rfl, Eo.rf⟩
theorem mV_M (k : Eo mV M M') : ∀ c j, 411 ≤ c → c ≤ 432 → M' c j = M c j := fun c j a b => k c j (by unfold mV; omega)
theorem mQ_M (k : Eo mQ M M') : ∀ c j, 411 ≤ c → c ≤ 432 → M' c j = M c j := fun c j a b => k c j (by unfold mQ; omega)
theorem m_isFree (h : Lnd ld lv nf nd ng ne M) {g e : Nat} (hg : g < 4) (he : e < ne) : ∃ M', F_Mod_isFree (nI g) (nI e) M = some (if M 422 (6 * lv + e) ≤ bowS M lv (M 437) g (M 421 (6 * lv + e)).toInt.toNat 0 then 0 else 1, M') ∧ Eo mV M M' := by
  have h6 := h.ne6
  have h1 := h.l1
  obtain ⟨x, hx, _, e2⟩ := h.df he
  unfold F_Mod_isFree
  rw [h.l18, show (6 : Int32) = nI 6 from rfl, nI_mul, nI_add, if_neg (nI_in (by omega) (by omega)), nI_clamp (by omega), e2]
  obtain ⟨M', y1, y2⟩ := m_boundNow h (g := g) (j := x) hg (by omega)
  rw [y1, bI2_s, show M' 401 18 = nI lv from (y2 401 18 (by unfold mV; omega)).trans h.l18, nI_mul, nI_add, if_neg (nI_in (by omega) (by omega)), nI_clamp (by omega), mV_M y2 422 _ (by decide) (by decide), nI_tn (by omega)]
  by_cases q : M 422 (6 * lv + e) ≤ bowS M lv (M 437) g x 0
  · rw [if_pos q, if_pos q]; exact ⟨M', rfl, y2⟩
  · rw [if_neg q, if_neg q]; exact ⟨M', rfl, y2⟩
theorem m_freeBits (h : Lnd ld lv nf nd ng ne M) {g : Nat} (hg : g < 4) : ∃ M', F_Mod_freeBits (nI g) M = some (frS M lv (fun j => bowS M lv (M 437) g j 0) ne, M') ∧ Eo mV M M' := by
  have h6 := h.ne6
  have h1 := h.l1
  have key : ∀ (s k f : Nat) (N : gM), k + s = ne → Eo mV M N → ∃ M', H_Mod_freeBits_4 (nI g) (f + 1 + s) (frS M lv (fun j => bowS M lv (M 437) g j 0) k) (nI k) N = some (frS M lv (fun j => bowS M lv (M 437) g j 0) ne, M') ∧ Eo mV M M' := by
    intro s
    induction s with
    | zero =>
      intro k f N hk kN
      obtain rfl : k = ne := by omega
      have hN := h.kV kN
      show ∃ M', B_Mod_freeBits_4 (nI g) (H_Mod_freeBits_4 (nI g) f) _ (nI k) N = _ ∧ _
      unfold B_Mod_freeBits_4
      rw [hN.l18, if_neg (nI_in (by omega) (by omega)), nI_clamp (by omega), hN.me, if_pos (by rw [nI_leI (by omega) (by omega)]; omega)]
      exact ⟨N, rfl, kN⟩
    | succ s ih =>
      intro k f N hk kN
      have hN := h.kV kN
      obtain ⟨N', y1, y2⟩ := m_isFree hN (g := g) (e := k) hg (by omega)
      obtain ⟨M', z1, z2⟩ := ih (k + 1) f N' (by omega) (kN.tr y2)
      refine ⟨M', ?_, z2⟩
      rw [← z1]
      show B_Mod_freeBits_4 (nI g) (H_Mod_freeBits_4 (nI g) (f + 1 + s)) _ (nI k) N = _
      unfold B_Mod_freeBits_4 J_Mod_freeBits_32
      have e437 : N 437 = M 437 := funext (fun i => kN 437 i (by unfold mV; omega))
      rw [hN.l18, if_neg (nI_in (by omega) (by omega)), nI_clamp (by omega), hN.me, if_neg (by rw [nI_leI (by omega) (by omega)]; omega), y1, bI2_s, mV_M kN 421 _ (by decide) (by decide), mV_M kN 422 _ (by decide) (by decide), bowS_k (mV_M kN), e437, nmI_e, nI_1]
      have hu : frS M lv (fun j => bowS M lv (M 437) g j 0) (k + 1) = if M 422 (6 * lv + k) ≤ bowS M lv (M 437) g (M 421 (6 * lv + k)).toInt.toNat 0 then frS M lv (fun j => bowS M lv (M 437) g j 0) k else frS M lv (fun j => bowS M lv (M 437) g j 0) k ||| (1 <<< (nI k &&& 31)) := rfl
      rw [hu]
      by_cases q : M 422 (6 * lv + k) ≤ bowS M lv (M 437) g (M 421 (6 * lv + k)).toInt.toNat 0
      · rw [if_pos q, if_pos q, if_pos (show (0 : Int32) = 0 from rfl)]
      · rw [if_neg q, if_neg q, if_neg (show ¬ (1 : Int32) = 0 by decide), nmI_e, nmI_e]
  unfold F_Mod_freeBits
  obtain ⟨q, hq⟩ := FU_k (1 + ne) (by omega)
  rw [hq, ← Nat.add_assoc]
  exact key ne 0 q M (Nat.zero_add _) Eo.rf
end STA
end PAR34
end MG14x4
section MG14x5
/-! a dish cooked, by both -/
section PAR35
theorem i_sub3 (a b c : Int32) : a - (b + c) = a - b - c := by
  rw [Int32.sub_eq_add_neg, Int32.neg_add, Int32.sub_eq_add_neg (-b) c, ← Int32.add_assoc, ← Int32.sub_eq_add_neg, ← Int32.sub_eq_add_neg]
def inB (M : gM) (lv d : Nat) (r : Nat → Int32) : Nat → Bool
  | 0 => true
  | n + 1 => inB M lv d r n && decide (M 417 (6 * (5 * lv + d) + n) ≤ r n)
theorem inB_all {M : gM} {lv d : Nat} {r : Nat → Int32} : ∀ n, inB M lv d r n = true → ∀ f, f < n → M 417 (6 * (5 * lv + d) + f) ≤ r f
  | 0, _, f, hf => absurd hf (Nat.not_lt_zero _)
  | n + 1, h, f, hf => by
    unfold inB at h
    rw [Bool.and_eq_true] at h
    by_cases q : f = n
    · rw [q]; exact of_decide_eq_true h.2
    · exact inB_all n h.1 f (by omega)
theorem inB_no {M : gM} {lv d : Nat} {r : Nat → Int32} {k : Nat} (h : inB M lv d r k = false) : ∀ s, inB M lv d r (k + s) = false
  | 0 => h
  | s + 1 => by
    show (inB M lv d r (k + s) && _) = false
    rw [inB_no h s]; rfl
theorem inB_k {M M' : gM} {lv d : Nat} {r : Nat → Int32} (e : ∀ c j, 411 ≤ c → c ≤ 432 → M' c j = M c j) : ∀ n, inB M' lv d r n = inB M lv d r n
  | 0 => rfl
  | n + 1 => by unfold inB; rw [inB_k e n, e 417 _ (by decide) (by decide)]
def slS (M : gM) (lv nf : Nat) (seed : Int32) (r : Nat → Int32) (d : Nat) : Option Nat :=
  if lotS 100 seed (8 * r 37) < sliS M lv d (manS M lv nf d) (r 35) then
    (if r (lotS (nI nf) seed (8 * r 37 + 1)).toInt.toNat - M 417 (6 * (5 * lv + d) + (lotS (nI nf) seed (8 * r 37 + 1)).toInt.toNat) = 0 then none else some (lotS (nI nf) seed (8 * r 37 + 1)).toInt.toNat)
  else none
/-- the row behind it -/
def ckR (M : gM) (lv nf d : Nat) (sl : Option Nat) (r : Nat → Int32) (k : Nat) : Int32 :=
  if k < nf then r k - (M 417 (6 * (5 * lv + d) + k) + (if sl = some k then 1 else 0)) else if k = 6 + d then r k + 1 else if k = 11 then nI d else if 12 ≤ k ∧ k < 15 then disS M lv nf d sl (k - 12) (r 35) else if k = 36 then r 36 + priS M lv nf d else if k = 37 then r 37 + 1 else r k
section CK
variable {D Q ld lv nf nd ng ne X : Nat} {M M' : gM} {r : Nat → Int32}
theorem disS_k (e : ∀ c j, 411 ≤ c → c ≤ 432 → M' c j = M c j) {d j : Nat} {more : Option Nat} {day : Int32} : disS M' lv nf d more j day = disS M lv nf d more j day := by
  unfold disS
  match more with
  | none => dsimp only; rw [potS_k e, sumS_k e, manS_k e, e 416 _ (by decide) (by decide)]
  | some f => dsimp only; rw [potS_k e, sumS_k e, manS_k e, e 416 _ (by decide) (by decide), e 414 _ (by decide) (by decide)]
theorem slS_k (e : ∀ c j, 411 ≤ c → c ≤ 432 → M' c j = M c j) {d : Nat} {seed : Int32} : slS M' lv nf seed r d = slS M lv nf seed r d := by
  unfold slS
  rw [sliS_k e, manS_k e, e 417 _ (by decide) (by decide)]
theorem slS_lt (h0 : 0 < nf) (h6 : nf ≤ 6) {d x : Nat} {seed : Int32} (h : slS M lv nf seed r d = some x) : x < nf ∧ ¬ r x - M 417 (6 * (5 * lv + d) + x) = 0 := by
  obtain ⟨y, hy, e⟩ := lotS_r (n := nf) (seed := seed) (which := 8 * r 37 + 1) h0 (by omega)
  unfold slS at h
  rw [e, nI_tn (by omega)] at h
  by_cases q : lotS 100 seed (8 * r 37) < sliS M lv d (manS M lv nf d) (r 35)
  · rw [if_pos q] at h
    by_cases w : r y - M 417 (6 * (5 * lv + d) + y) = 0
    · rw [if_pos w] at h; cases h
    · rw [if_neg w] at h; cases h; exact ⟨hy, w⟩
  · rw [if_neg q] at h; cases h
theorem Lnd.kX (h : Lnd ld lv nf nd ng ne M) (hX : isSt X) (e : Eo (fun c _ => X ≤ c ∧ c < X + 7) M M') : Lnd ld lv nf nd ng ne M' := h.keep (fun c j q => e c j (by
  have h1 := gv_num q
  have h2 := (by decide +kernel : ∀ X ∈ lSt, (64 ≤ X ∧ X + 7 ≤ 360) ∨ (362 ≤ X ∧ X + 7 ≤ 383)) X hX
  omega))
theorem kX_M (hX : isSt X) (e : Eo (fun c _ => X ≤ c ∧ c < X + 7) M M') : ∀ c j, 411 ≤ c → c ≤ 432 → M' c j = M c j := fun c j a b => e c j (by
  have h2 := (by decide +kernel : ∀ X ∈ lSt, (64 ≤ X ∧ X + 7 ≤ 360) ∨ (362 ≤ X ∧ X + 7 ≤ 383)) X hX
  omega)
theorem kCX_M (hX : isSt X) (k : Kl (CX X) M zL M' zL) : ∀ c j, 411 ≤ c → c ≤ 432 → M' c j = M c j := fun c j a b => k.m (by
  have h2 := (by decide +kernel : ∀ X ∈ lSt, (64 ≤ X ∧ X + 7 ≤ 360) ∨ (362 ≤ X ∧ X + 7 ≤ 383)) X hX
  unfold CX
  rw [C0_M (by omega) (by omega)]
  simp only [Bool.false_or, Bool.and_eq_false_iff, decide_eq_false_iff_not]
  omega)
theorem Lnd.kCX (h : Lnd ld lv nf nd ng ne M) (hX : isSt X) (k : Kl (CX X) M zL M' zL) : Lnd ld lv nf nd ng ne M' := h.keep (fun c j q => (k.mono (CX_CSt hX)).m (gv_CSt q))
/-- a dish's foods and a store's, small -/
theorem St.two (h : Lnd ld lv nf nd ng ne M) (hS : St D Q nf X r M) {d f : Nat} (hd : d < nd) (hf : f < 6) : ∃ a s, a ≤ 6 ∧ s ≤ 99 ∧ M 417 (6 * (5 * lv + d) + f) = nI a ∧ r f = nI s ∧ M (X + 2) f = nI s := by
  obtain ⟨a, a1, _, a3, _⟩ := h.am hd hf
  obtain ⟨s, s1, s2, s3, _⟩ := hS.2.2.2.2.2.1 f hf
  exact ⟨a, s, a1, s1, a3, s3, s2⟩
theorem c_inStore (h : Lnd ld lv nf nd ng ne M) (hS : St D Q nf X r M) {d : Nat} (hd : d < nd) : F_State_inStore X ld (nI d) M = some (if inB M lv d r nf = true then 1 else 0) := by
  have h6 := h.nf6
  have key : ∀ (s k f : Nat), k + s = nf → inB M lv d r k = true → H_State_inStore_2 X ld (nI d) M (f + 1 + s) (nI k) = some (if inB M lv d r nf = true then 1 else 0) := by
    intro s
    induction s with
    | zero =>
      intro k f hk hb
      obtain rfl : k = nf := by omega
      show B_State_inStore_2 X ld (nI d) M (H_State_inStore_2 X ld (nI d) M f) (nI k) = _
      unfold B_State_inStore_2
      rw [h.cf, if_pos (by rw [nI_leI (by omega) (by omega)]; omega), if_pos hb]
    | succ s ih =>
      intro k f hk hb
      show B_State_inStore_2 X ld (nI d) M (H_State_inStore_2 X ld (nI d) M (f + 1 + s)) (nI k) = _
      unfold B_State_inStore_2
      obtain ⟨x, x1, x2, x3, _⟩ := hS.2.2.2.2.2.1 k (by omega)
      rw [h.cf, if_neg (by rw [nI_leI (by omega) (by omega)]; omega), s_at (by omega) (by decide), bI_s, c_inDish h hd (by omega), bI_s, x2, ← x3]
      by_cases q : M 417 (6 * (5 * lv + d) + k) ≤ r k
      · rw [if_pos q, nmI_e, nI_1]
        refine ih (k + 1) f (by omega) ?_
        unfold inB
        rw [hb, decide_eq_true q]; rfl
      · rw [if_neg q]
        have hn : inB M lv d r (k + 1) = false := by unfold inB; rw [decide_eq_false q, Bool.and_false]
        have := inB_no hn (nf - (k + 1))
        rw [show k + 1 + (nf - (k + 1)) = nf by omega] at this
        rw [this, if_neg (by decide)]
  unfold F_State_inStore
  obtain ⟨g, hg⟩ := FU_k (1 + nf) (by omega)
  rw [hg, ← Nat.add_assoc]
  exact key nf 0 g (Nat.zero_add _) rfl
theorem m_isInStore (h : Lnd ld lv nf nd ng ne M) {d : Nat} (hd : d < nd) : F_Mod_isInStore (nI d) M = some (if inB M lv d (M 437) nf = true then 1 else 0, fl M 438 0 6 (potD M lv nf d)) := by
  have h6 := h.nf6
  have h1 := h.l1
  unfold F_Mod_isInStore
  rw [m_fillsPot h hd, bI_s]
  have hN : Lnd ld lv nf nd ng ne (fl M 438 0 6 (potD M lv nf d)) := h.kQ (fun c j q => fl_out (by unfold mQ at q; omega))
  have e437 : ∀ i, fl M 438 0 6 (potD M lv nf d) 437 i = M 437 i := fun i => fl_out (by omega)
  have e438 : ∀ i, i < 6 → fl M 438 0 6 (potD M lv nf d) 438 i = potD M lv nf d i := fun i hi => by rw [fl_in (by omega), Nat.sub_zero]
  generalize fl M 438 0 6 (potD M lv nf d) = N at hN e437 e438 ⊢
  have key : ∀ (s k f : Nat), k + s = nf → inB M lv d (M 437) k = true → H_Mod_isInStore_7 N (f + 1 + s) (nI k) = some (if inB M lv d (M 437) nf = true then 1 else 0, N) := by
    intro s
    induction s with
    | zero =>
      intro k f hk hb
      obtain rfl : k = nf := by omega
      show B_Mod_isInStore_7 N (H_Mod_isInStore_7 N f) (nI k) = _
      unfold B_Mod_isInStore_7
      rw [hN.l18, if_neg (nI_in (by omega) (by omega)), nI_clamp (by omega), hN.mf, if_pos (by rw [nI_leI (by omega) (by omega)]; omega), if_pos hb]
    | succ s ih =>
      intro k f hk hb
      show B_Mod_isInStore_7 N (H_Mod_isInStore_7 N (f + 1 + s)) (nI k) = _
      unfold B_Mod_isInStore_7
      have ep : potD M lv nf d k = M 417 (6 * (5 * lv + d) + k) := by unfold potD; rw [if_pos (by omega)]
      rw [hN.l18, if_neg (nI_in (by omega) (by omega)), nI_clamp (by omega), hN.mf, if_neg (by rw [nI_leI (by omega) (by omega)]; omega), if_neg (nI_in (by omega) (by omega)), if_neg (nI_in (by omega) (by omega)), nI_clamp (by omega), e437, e438 k (by omega), ep]
      by_cases q : M 417 (6 * (5 * lv + d) + k) ≤ M 437 k
      · rw [if_pos q, nmI_e, nI_1]
        refine ih (k + 1) f (by omega) ?_
        unfold inB
        rw [hb, decide_eq_true q]; rfl
      · rw [if_neg q]
        have hn : inB M lv d (M 437) (k + 1) = false := by unfold inB; rw [decide_eq_false q, Bool.and_false]
        have := inB_no hn (nf - (k + 1))
        rw [show k + 1 + (nf - (k + 1)) = nf by omega] at this
        rw [this, if_neg (by decide)]
  obtain ⟨g, hg⟩ := FU_k (1 + nf) (by omega)
  rw [hg, ← Nat.add_assoc]
  exact key nf 0 g (Nat.zero_add _) rfl
theorem c_slipInto (h : Lnd ld lv nf nd ng ne M) (hS : St D Q nf X r M) (hX : isSt X) {d : Nat} {seed : Int32} (hd : d < nd) (hin : inB M lv d r nf = true) : ∃ M', F_State_slipInto X ld (nI d) seed M = some (moreI (slS M lv nf seed r d), M') ∧ Kl C0 M zL M' zL := by
  have h6 := h.nf6
  have h0 := h.some_ (by omega)
  obtain ⟨⟨day, d1, d2, d3, d4⟩, s1, s2, s3, s4, s5, s6, s7⟩ := id hS
  unfold F_State_slipInto
  obtain ⟨M6, y1, y2⟩ := c_slipsOf h (d := d) (day := M X 0) hd
  rw [nmI_e, c_lot (n := 100) (by decide), bI_s, y1, bI2_s, s2, (h.k0 y2).cf]
  have hr35 : M X 0 = r 35 := by rw [d2, d3]
  obtain ⟨x, hx, ex⟩ := lotS_r (n := nf) (seed := seed) (which := 8 * r 37 + 1) h0 (by omega)
  unfold slS
  rw [hr35, ex, nI_tn (by omega)]
  by_cases q : lotS 100 seed (8 * r 37) < sliS M lv d (manS M lv nf d) (r 35)
  · rw [if_pos q, if_pos q, c_lot (nI_nle h0 (by omega)), bI_s, ex, s_at (by omega) (by decide), bI_s, c_inDish (h.k0 y2) hd (by omega), bI_s, k0_M y2 417 _ (by decide) (by decide)]
    obtain ⟨a, s, a1, a2, a3, a4, a5⟩ := St.two h hS hd (f := x) (by omega)
    have hle := inB_all nf hin x hx
    have e66 : M6 (X + 2) x = nI s := by
      have := ((hS.k0 hX y2).2.2.2.2.2.1 x (by omega))
      obtain ⟨s', _, b2, b3, _⟩ := this
      rw [b2, ← b3, a4]
    rw [e66, a3, a4]
    rw [a3, a4, nI_leI (by omega) (by omega)] at hle
    rw [nI_sub hle]
    by_cases w : s ≤ a
    · rw [if_pos (by rw [nI_leI (by omega) (by omega)]; exact w), if_pos (by rw [show s - a = 0 by omega]; rfl)]
      exact ⟨M6, rfl, y2⟩
    · rw [if_neg (by rw [nI_leI (by omega) (by omega)]; exact w), if_neg (nI_ne0 (by omega) (by omega))]
      exact ⟨M6, rfl, y2⟩
  · rw [if_neg q, if_neg q]
    exact ⟨M6, rfl, y2⟩
theorem c_ckStock {N : gM} (hN : Lnd ld lv nf nd ng ne N) (hX : isSt X) {d : Nat} {sl : Option Nat} {st : Nat → Int32} (hd : d < nd) (hsl : ∀ x, sl = some x → x < nf) : ∀ (s k f : Nat) (N1 : gM), k + s = nf → (∀ c j, ¬ (c = X + 2 ∧ j < k) → N1 c j = N c j) → (∀ j, j < 6 → N (X + 2) j = st j) → (∀ j, j < k → N1 (X + 2) j = st j - (N 417 (6 * (5 * lv + d) + j) + (if sl = some j then 1 else 0))) →
    ∃ N', H_State_cookOne_14 X ld (nI d) (moreI sl) (f + 1 + s) (nI k) N1 = J_State_cookOne_71 X ld (nI d) (moreI sl) N' ∧ (∀ c j, ¬ (c = X + 2 ∧ j < nf) → N' c j = N c j) ∧ (∀ j, j < nf → N' (X + 2) j = st j - (N 417 (6 * (5 * lv + d) + j) + (if sl = some j then 1 else 0))) := by
  have h6 := hN.nf6
  have hX2 := (by decide +kernel : ∀ X ∈ lSt, (64 ≤ X ∧ X + 7 ≤ 360) ∨ (362 ≤ X ∧ X + 7 ≤ 383)) X hX
  intro s
  induction s with
  | zero =>
    intro k f N1 hk e1 e2 e3
    obtain rfl : k = nf := by omega
    refine ⟨N1, ?_, e1, e3⟩
    show B_State_cookOne_14 X ld (nI d) (moreI sl) (H_State_cookOne_14 X ld (nI d) (moreI sl) f) (nI k) N1 = _
    unfold B_State_cookOne_14
    rw [(hN.kX (X := X) hX (fun c j q => e1 c j (by omega))).cf, if_pos (by rw [nI_leI (by omega) (by omega)]; omega)]
  | succ s ih =>
    intro k f N1 hk e1 e2 e3
    have hN1 := hN.kX (X := X) (M' := N1) hX (fun c j q => e1 c j (by omega))
    have e417 : N1 417 (6 * (5 * lv + d) + k) = N 417 (6 * (5 * lv + d) + k) := e1 417 _ (by omega)
    have est : N1 (X + 2) k = st k := by rw [e1 _ _ (by omega)]; exact e2 k (by omega)
    obtain ⟨N', y1, y2, y3⟩ := ih (k + 1) f (uM N1 (X + 2) k (st k - (N 417 (6 * (5 * lv + d) + k) + (if sl = some k then 1 else 0)))) (by omega) (fun c j q => by rw [uM_diff (by omega)]; exact e1 c j (by omega)) e2 (fun j hj => by
      by_cases q : j = k
      · rw [q, uM_same]
      · rw [uM_diff (by omega)]; exact e3 j (by omega))
    refine ⟨N', ?_, y2, y3⟩
    rw [← y1]
    show B_State_cookOne_14 X ld (nI d) (moreI sl) (H_State_cookOne_14 X ld (nI d) (moreI sl) (f + 1 + s)) (nI k) N1 = _
    unfold B_State_cookOne_14 J_State_cookOne_41
    rw [hN1.cf, if_neg (by rw [nI_leI (by omega) (by omega)]; omega), c_inDish hN1 hd (by omega), bI_s, e417]
    have fin : ∀ s1 : Int32, s1 = (if sl = some k then 1 else 0) → nmI (N 417 (6 * (5 * lv + d) + k) + s1) (fun x24 => bI (F_Main_at (X + 2) 6 (nI k) N1) (fun r26 => bI (F_Main_put (X + 2) 6 (nI k) (r26 - x24) N1) (fun M28 => nmI (nI k + 1) (fun x29 => H_State_cookOne_14 X ld (nI d) (moreI sl) (f + 1 + s) x29 M28)))) = H_State_cookOne_14 X ld (nI d) (moreI sl) (f + 1 + s) (nI (k + 1)) (uM N1 (X + 2) k (st k - (N 417 (6 * (5 * lv + d) + k) + (if sl = some k then 1 else 0)))) := fun s1 hs1 => by
      rw [nmI_e, s_at (by omega) (by decide), bI_s, est, s_put (by omega) (by decide), bI_s, nmI_e, nI_1, hs1]
    by_cases q : nI k = moreI sl
    · rw [if_pos q]
      refine fin 1 ?_
      match sl, hsl, q with
      | none, _, q => exact absurd q (fun w => nI_pos (n := k) (by omega) (by rw [w]; decide))
      | some x, hsl, q =>
        have := hsl x rfl
        have e : k = x := (nI_eq (by omega) (by omega)).mp q
        rw [if_pos (by rw [e])]
    · rw [if_neg q]
      refine fin 0 ?_
      rw [if_neg (fun w => q (by rw [w]; rfl))]
theorem c_ckForce {N : gM} (hN : Lnd ld lv nf nd ng ne N) (hX : isSt X) {d : Nat} {sl : Option Nat} {day : Int32} (hd : d < nd) (hsl : ∀ x, sl = some x → x < nf) (hday : N X 0 = day) : ∀ (s k f : Nat) (N1 : gM), k + s = 3 → Kl (CX X) N zL N1 zL → (∀ c j, X ≤ c → c < X + 7 → ¬ (c = X + 1 ∧ j < k) → N1 c j = N c j) → (∀ j, j < k → N1 (X + 1) j = disS N lv nf d sl j day) →
    ∃ N', H_State_cookOne_74 X ld (nI d) (moreI sl) (f + 1 + s) (nI k) N1 = J_State_cookOne_107 X ld (nI d) (moreI sl) N' ∧ Kl (CX X) N zL N' zL ∧ (∀ c j, X ≤ c → c < X + 7 → ¬ (c = X + 1 ∧ j < 3) → N' c j = N c j) ∧ (∀ j, j < 3 → N' (X + 1) j = disS N lv nf d sl j day) := by
  have hX2 := (by decide +kernel : ∀ X ∈ lSt, (64 ≤ X ∧ X + 7 ≤ 360) ∨ (362 ≤ X ∧ X + 7 ≤ 383)) X hX
  intro s
  induction s with
  | zero =>
    intro k f N1 hk kN e1 e3
    obtain rfl : k = 3 := by omega
    exact ⟨N1, by
      show B_State_cookOne_74 X ld (nI d) (moreI sl) (H_State_cookOne_74 X ld (nI d) (moreI sl) f) (nI 3) N1 = _
      unfold B_State_cookOne_74
      rw [if_pos (by decide)], kN, e1, e3⟩
  | succ s ih =>
    intro k f N1 hk kN e1 e3
    have hN1 := hN.kCX hX kN
    have ed : N1 X 0 = day := by rw [e1 X 0 (by omega) (by omega) (by omega)]; exact hday
    obtain ⟨N2, y1, y2⟩ := c_dishForce hN1 (d := d) (j := k) (more := sl) (day := day) hd (by omega) hsl
    have x2 : ∀ c j, X ≤ c → c < X + 7 → N2 c j = N1 c j := fun c j a b => y2.m (C0_M (by omega) (by omega))
    have k3 : Kl (CX X) N zL (uM N2 (X + 1) k (disS N lv nf d sl k day)) zL := (kN.trans (y2.mono C0_CX)).wM (CX_o ⟨by omega, by omega⟩) rfl
    obtain ⟨N', z1, z2, z3, z4⟩ := ih (k + 1) f (uM N2 (X + 1) k (disS N lv nf d sl k day)) (by omega) k3 (fun c j a b q => by rw [uM_diff (by omega), x2 c j a b]; exact e1 c j a b (by omega)) (fun j hj => by
      by_cases q : j = k
      · rw [q, uM_same]
      · rw [uM_diff (by omega), x2 _ _ (by omega) (by omega)]; exact e3 j (by omega))
    refine ⟨N', ?_, z2, z3, z4⟩
    rw [← z1]
    show B_State_cookOne_74 X ld (nI d) (moreI sl) (H_State_cookOne_74 X ld (nI d) (moreI sl) (f + 1 + s)) (nI k) N1 = _
    unfold B_State_cookOne_74
    rw [show (3 : Int32) = nI 3 from rfl, if_neg (by rw [nI_leI (by omega) (by omega)]; omega), ed, y1, bI2_s, s_put (by omega) (by decide), bI_s, nmI_e, nI_1, disS_k (kCX_M hX kN)]
theorem c_cookOne (h : Lnd ld lv nf nd ng ne M) (hS : St D Q nf X r M) (hX : isSt X) {d : Nat} (hd : d < nd) (hin : inB M lv d r nf = true) : ∃ M', F_State_cookOne X ld (nI d) M = some (moreI (slS M lv nf (M 423 lv) r d), M') ∧ St D Q nf X (ckR M lv nf d (slS M lv nf (M 423 lv) r d) r) M' ∧ Kl (CX X) M zL M' zL := by
  have h6 := h.nf6
  have h5 := h.nd5
  have h0 := h.some_ (by omega)
  have hX2 := (by decide +kernel : ∀ X ∈ lSt, (64 ≤ X ∧ X + 7 ≤ 360) ∨ (362 ≤ X ∧ X + 7 ≤ 383)) X hX
  obtain ⟨⟨day, d1, d2, d3, d4⟩, s1, s2, s3, s4, s5, s6, s7⟩ := id hS
  have hr35 : M X 0 = r 35 := by rw [d2, d3]
  obtain ⟨M3, y1, k1⟩ := c_slipInto h hS hX (d := d) (seed := M ld 4) hd hin
  rw [h.sd] at y1
  have hslt : ∀ x, slS M lv nf (M 423 lv) r d = some x → x < nf ∧ ¬ r x - M 417 (6 * (5 * lv + d) + x) = 0 := fun x q => slS_lt h0 h6 q
  generalize slS M lv nf (M 423 lv) r d = sl at y1 hslt ⊢
  have h3 := h.k0 k1
  have x3 : ∀ c j, X ≤ c → c < X + 7 → M3 c j = M c j := fun c j a b => k1.m (C0_M (by omega) (by omega))
  have m3 := k0_M k1
  obtain ⟨M4, z1, z2, z3⟩ := c_ckStock h3 hX (d := d) (sl := sl) (st := r) hd (fun x q => (hslt x q).1) nf 0 (FU - 1 - nf) M3 (Nat.zero_add _) (fun _ _ _ => rfl) (fun j hj => by
    rw [x3 _ _ (by omega) (by omega)]
    obtain ⟨x, _, q2, q3, _⟩ := s5 j hj
    rw [q2, q3]) (fun j hj => absurd hj (Nat.not_lt_zero _))
  have h4 := h3.kX (X := X) (M' := M4) hX (fun c j q => z2 c j (by omega))
  have m4 : ∀ c j, 411 ≤ c → c ≤ 432 → M4 c j = M c j := fun c j a b => (z2 c j (by omega)).trans (m3 c j a b)
  obtain ⟨M5, w1, w2, w3, w4⟩ := c_ckForce h4 hX (d := d) (sl := sl) (day := r 35) hd (fun x q => (hslt x q).1) (by rw [z2 X 0 (by omega), x3 X 0 (by omega) (by omega)]; exact hr35) 3 0 (FU - 4) M4 (by omega) Kl.rf (fun _ _ _ _ _ => rfl) (fun j hj => absurd hj (Nat.not_lt_zero _))
  have h5' := h4.kCX hX w2
  have m5 : ∀ c j, 411 ≤ c → c ≤ 432 → M5 c j = M c j := fun c j a b => (kCX_M hX w2 c j a b).trans (m4 c j a b)
  have c5 : ∀ c j, X ≤ c → c < X + 7 → ¬ (c = X + 1 ∧ j < 3) → ¬ (c = X + 2 ∧ j < nf) → M5 c j = M c j := fun c j a b q1 q2 => by
    rw [w3 c j a b q1, z2 c j q2, x3 c j a b]
  have hcal : ∃ M', F_State_cookOne X ld (nI d) M = some (moreI sl, M') ∧ M' = uM (uM (uM (uM M5 X 1 (r 36 + priS M lv nf d)) X 3 (nI d)) X 2 (r 37 + 1)) (X + 3) d (r (6 + d) + 1) := by
    unfold F_State_cookOne
    rw [h.sd, y1, bI2_s]
    have e1 : (H_State_cookOne_14 X ld (nI d) (moreI sl) FU 0 M3) = H_State_cookOne_14 X ld (nI d) (moreI sl) (FU - 1 - nf + 1 + nf) (nI 0) M3 := by
      rw [show FU - 1 - nf + 1 + nf = FU by unfold FU; omega]; rfl
    rw [e1, z1]
    unfold J_State_cookOne_71
    have e2 : (H_State_cookOne_74 X ld (nI d) (moreI sl) FU 0 M4) = H_State_cookOne_74 X ld (nI d) (moreI sl) (FU - 4 + 1 + 3) (nI 0) M4 := by
      rw [show FU - 4 + 1 + 3 = FU by unfold FU; omega]; rfl
    rw [e2, w1]
    unfold J_State_cookOne_107
    have g1 : M5 X 1 = r 36 := by rw [c5 X 1 (by omega) (by omega) (by omega) (by omega)]; exact s1
    have g2 : M5 X 2 = r 37 := by rw [c5 X 2 (by omega) (by omega) (by omega) (by omega)]; exact s2
    have g3 : M5 (X + 3) d = r (6 + d) := by rw [c5 (X + 3) d (by omega) (by omega) (by omega) (by omega)]; exact s6 d (by omega)
    rw [c_priceOf h5' hd, bI_s, priS_k m5, g1, nmM_e, nmM_e, uM_diff (by omega), uM_diff (by omega), g2, nmM_e, s_at (by omega) (by decide), bI_s, uM_diff (by omega), uM_diff (by omega), uM_diff (by omega), g3, s_put (by omega) (by decide), bI_s]
    exact ⟨_, rfl, rfl⟩
  obtain ⟨M', t1, t2⟩ := hcal
  obtain ⟨r0, M1, e1, _, k9⟩ := tf_State_cookOne (X0 := X) (Ld1 := ld) (p2 := nI d) (M := M) hX h.la
  have i1 := Option.some.inj (e1.symm.trans t1)
  injection i1 with i2 i3
  subst i3
  refine ⟨M1, t1, ?_, k9⟩
  have c6 : ∀ c j, X ≤ c → c < X + 7 → ¬ (c = X ∧ (j = 1 ∨ j = 2 ∨ j = 3)) → ¬ (c = X + 1 ∧ j < 3) → ¬ (c = X + 2 ∧ j < nf) → ¬ (c = X + 3 ∧ j = d) → M1 c j = M c j := fun c j a b q1 q2 q3 q4 => by
    rw [t2, uM_diff (by omega), uM_diff (by omega), uM_diff (by omega), uM_diff (by omega), c5 c j a b q2 q3]
  have rr : ∀ k, nf ≤ k → k ≠ 6 + d → k ≠ 11 → ¬ (12 ≤ k ∧ k < 15) → k ≠ 36 → k ≠ 37 → ckR M lv nf d sl r k = r k := fun k a1 a2 a3 a4 a5 a6 => by
    unfold ckR
    rw [if_neg (by omega), if_neg a2, if_neg a3, if_neg a4, if_neg a5, if_neg a6]
  refine ⟨⟨day, d1, by rw [c6 X 0 (by omega) (by omega) (by omega) (by omega) (by omega) (by omega)]; exact d2, by rw [rr 35 (by omega) (by omega) (by omega) (by omega) (by omega) (by omega)]; exact d3, fun g hg => ?_⟩, ?_, ?_, ?_, fun j hj => ?_, fun f hf => ?_, fun j hj => ?_, fun i hi => ?_⟩
  · rw [c6 (X + 4) g (by omega) (by omega) (by omega) (by omega) (by omega) (by omega), c6 (X + 5) g (by omega) (by omega) (by omega) (by omega) (by omega) (by omega), rr (31 + g) (by omega) (by omega) (by omega) (by omega) (by omega) (by omega), rr (15 + g) (by omega) (by omega) (by omega) (by omega) (by omega) (by omega)]
    exact d4 g hg
  · rw [t2, uM_diff (by omega), uM_diff (by omega), uM_diff (by omega), uM_same]
    unfold ckR
    rw [if_neg (by omega), if_neg (by omega), if_neg (by omega), if_neg (by omega), if_pos rfl]
  · rw [t2, uM_diff (by omega), uM_same]
    unfold ckR
    rw [if_neg (by omega), if_neg (by omega), if_neg (by omega), if_neg (by omega), if_neg (by omega), if_pos rfl]
  · rw [t2, uM_diff (by omega), uM_diff (by omega), uM_same]
    unfold ckR
    rw [if_neg (by omega), if_neg (by omega), if_pos rfl]
  · rw [t2, uM_diff (by omega), uM_diff (by omega), uM_diff (by omega), uM_diff (by omega), w4 j hj, disS_k m4]
    unfold ckR
    rw [if_neg (by omega), if_neg (by omega), if_neg (by omega), if_pos (by omega), show 12 + j - 12 = j by omega]
  · obtain ⟨x, x1, x2, x3', x4⟩ := s5 f hf
    by_cases q : f < nf
    · obtain ⟨a, s, a1, a2, a3, a4, a5⟩ := St.two h hS hd (f := f) hf
      have hle := inB_all nf hin f q
      rw [a3, a4, nI_leI (by omega) (by omega)] at hle
      have ev : M1 (X + 2) f = r f - (M 417 (6 * (5 * lv + d) + f) + (if sl = some f then 1 else 0)) := by
        rw [t2, uM_diff (by omega), uM_diff (by omega), uM_diff (by omega), uM_diff (by omega), w3 (X + 2) f (by omega) (by omega) (by omega), z3 f q, m3 417 _ (by decide) (by decide)]
      have er : ckR M lv nf d sl r f = r f - (M 417 (6 * (5 * lv + d) + f) + (if sl = some f then 1 else 0)) := by unfold ckR; rw [if_pos q]
      by_cases w : sl = some f
      · have hn := (hslt f w).2
        rw [a3, a4, nI_sub hle] at hn
        have hlt : a < s := by
          rcases Nat.lt_or_ge a s with g | g
          · exact g
          · exact absurd (by rw [show s - a = 0 by omega]; rfl) hn
        refine ⟨s - (a + 1), by omega, ?_, ?_, fun g => absurd q (by omega)⟩
        · rw [ev, if_pos w, a3, a4, nI_1, nI_sub (by omega)]
        · rw [er, if_pos w, a3, a4, nI_1, nI_sub (by omega)]
      · refine ⟨s - a, by omega, ?_, ?_, fun g => absurd q (by omega)⟩
        · rw [ev, if_neg w, a3, a4, Int32.add_zero, nI_sub hle]
        · rw [er, if_neg w, a3, a4, Int32.add_zero, nI_sub hle]
    · refine ⟨x, x1, ?_, ?_, x4⟩
      · rw [c6 (X + 2) f (by omega) (by omega) (by omega) (by omega) (by omega) (by omega)]; exact x2
      · rw [rr f (by omega) (by omega) (by omega) (by omega) (by omega) (by omega)]; exact x3'
  · by_cases q : j = d
    · rw [q, t2, uM_same]
      unfold ckR
      rw [if_neg (by omega), if_pos rfl]
    · rw [c6 (X + 3) j (by omega) (by omega) (by omega) (by omega) (by omega) (by omega), rr (6 + j) (by omega) (by omega) (by omega) (by omega) (by omega) (by omega)]
      exact s6 j hj
  · rw [c6 (X + 6) i (by omega) (by omega) (by omega) (by omega) (by omega) (by omega), rr (19 + i) (by omega) (by omega) (by omega) (by omega) (by omega) (by omega)]
    exact s7 i hi
end CK
end PAR35
end MG14x5
section MG14x6
/-! a dish cooked, by the model -/
section PAR36
section MCK
variable {ld lv nf nd ng ne : Nat} {M M' : gM}
theorem m_ckStock {N : gM} (hN : Lnd ld lv nf nd ng ne N) {v1 v2 : Int32} {r : Nat → Int32} : ∀ (s k f : Nat) (N1 : gM), k + s = nf → (∀ c j, ¬ (c = 437 ∧ j < k) → N1 c j = N c j) → (∀ j, j < 6 → N 437 j = r j) → (∀ j, j < k → N1 437 j = r j - N 438 j) →
    ∃ N', H_Mod_cooks_21 v1 v2 (f + 1 + s) (nI k) N1 = J_Mod_cooks_55 v1 v2 N' ∧ (∀ c j, ¬ (c = 437 ∧ j < nf) → N' c j = N c j) ∧ (∀ j, j < nf → N' 437 j = r j - N 438 j) := by
  have h6 := hN.nf6
  have h1 := hN.l1
  intro s
  induction s with
  | zero =>
    intro k f N1 hk e1 e2 e3
    obtain rfl : k = nf := by omega
    refine ⟨N1, ?_, e1, e3⟩
    have hN1 := hN.kQ (M' := N1) (fun c j q => e1 c j (by unfold mQ at q; omega))
    show B_Mod_cooks_21 v1 v2 (H_Mod_cooks_21 v1 v2 f) (nI k) N1 = _
    unfold B_Mod_cooks_21
    rw [hN1.l18, if_neg (nI_in (by omega) (by omega)), nI_clamp (by omega), hN1.mf, if_pos (by rw [nI_leI (by omega) (by omega)]; omega)]
  | succ s ih =>
    intro k f N1 hk e1 e2 e3
    have hN1 := hN.kQ (M' := N1) (fun c j q => e1 c j (by unfold mQ at q; omega))
    obtain ⟨N', y1, y2, y3⟩ := ih (k + 1) f (uM N1 437 k (r k - N 438 k)) (by omega) (fun c j q => by rw [uM_diff (by omega)]; exact e1 c j (by omega)) e2 (fun j hj => by
      by_cases q : j = k
      · rw [q, uM_same]
      · rw [uM_diff (by omega)]; exact e3 j (by omega))
    refine ⟨N', ?_, y2, y3⟩
    rw [← y1]
    show B_Mod_cooks_21 v1 v2 (H_Mod_cooks_21 v1 v2 (f + 1 + s)) (nI k) N1 = _
    unfold B_Mod_cooks_21
    have g1 : N1 437 k = r k := by rw [e1 437 k (by omega)]; exact e2 k (by omega)
    have g2 : N1 438 k = N 438 k := e1 438 k (by omega)
    rw [hN1.l18, if_neg (nI_in (by omega) (by omega)), nI_clamp (by omega), hN1.mf, if_neg (by rw [nI_leI (by omega) (by omega)]; omega), if_neg (nI_in (by omega) (by omega)), if_neg (nI_in (by omega) (by omega)), if_neg (nI_in (by omega) (by omega)), nI_clamp (by omega), g1, g2, nmM_e, nmI_e, nI_1]
/-- the three forces of the pot into a row -/
theorem m_ckForce {N : gM} (hN : Lnd ld lv nf nd ng ne N) {d : Nat} {sl : Option Nat} {v3 : Int32} (hd : d < nd) (hp : Pot N lv nf d sl) (hsl : ∀ x, sl = some x → x < nf) : ∀ (s k f : Nat) (N1 : gM), k + s = 3 → Eo (fun c j => mV c j ∨ (c = 437 ∧ 12 ≤ j ∧ j < 12 + k)) N N1 → (∀ j, j < k → N1 437 (12 + j) = disS N lv nf d sl j (N 437 35)) →
    ∃ N', H_Mod_cooks_198 (nI d) (N 416 (5 * lv + d)) v3 (f + 1 + s) (nI k) N1 = J_Mod_cooks_227 (nI d) v3 N' ∧ Eo (fun c j => mV c j ∨ (c = 437 ∧ 12 ≤ j ∧ j < 15)) N N' ∧ (∀ j, j < 3 → N' 437 (12 + j) = disS N lv nf d sl j (N 437 35)) := by
  intro s
  induction s with
  | zero =>
    intro k f N1 hk e1 e3
    obtain rfl : k = 3 := by omega
    exact ⟨N1, by
      show B_Mod_cooks_198 (nI d) (N 416 (5 * lv + d)) v3 (H_Mod_cooks_198 (nI d) (N 416 (5 * lv + d)) v3 f) (nI 3) N1 = _
      unfold B_Mod_cooks_198
      rw [if_pos (by decide)], e1, e3⟩
  | succ s ih =>
    intro k f N1 hk e1 e3
    have hN1 := hN.kQ (M' := N1) (fun c j q => e1 c j (by unfold mQ at q; unfold mV; omega))
    have m1 : ∀ c j, 411 ≤ c → c ≤ 432 → N1 c j = N c j := fun c j a b => e1 c j (by unfold mV; omega)
    have hp1 : Pot N1 lv nf d sl := fun f hf => by
      have e417 : potD N1 lv nf d f = potD N lv nf d f := by unfold potD; rw [m1 417 _ (by decide) (by decide)]
      rw [e1 438 f (by unfold mV; omega), e417]; exact hp f hf
    obtain ⟨N2, y1, y2⟩ := hp1.force hN1 (j := k) hsl (by omega)
    rw [m1 416 _ (by decide) (by decide), disS_k m1, e1 437 35 (by unfold mV; omega)] at y1
    obtain ⟨N', z1, z2, z3⟩ := ih (k + 1) f (uM N2 437 (12 + k) (disS N lv nf d sl k (N 437 35))) (by omega) (fun c j q => by rw [uM_diff (fun w => q (Or.inr (by omega))), y2 c j (fun w => q (Or.inl w))]; exact e1 c j (fun w => q (w.imp id (fun z => by omega)))) (fun j hj => by
      by_cases q : j = k
      · rw [q, uM_same]
      · rw [uM_diff (by omega), y2 437 _ (by unfold mV; omega)]; exact e3 j (by omega))
    refine ⟨N', ?_, z2, z3⟩
    rw [← z1]
    show B_Mod_cooks_198 (nI d) (N 416 (5 * lv + d)) v3 (H_Mod_cooks_198 (nI d) (N 416 (5 * lv + d)) v3 (f + 1 + s)) (nI k) N1 = _
    unfold B_Mod_cooks_198
    rw [show (3 : Int32) = nI 3 from rfl, if_neg (by rw [nI_leI (by omega) (by omega)]; omega), y1, bI2_s, show (12 : Int32) = nI 12 from rfl, nI_add, if_neg (nI_in (by omega) (by omega)), nI_clamp (by omega), nmM_e, nmI_e, nI_1]
theorem m_cooks (hI : Inv M) (h : Lnd ld lv nf nd ng ne M) {d : Nat} (hd : d < nd) : ∃ M', F_Mod_cooks (nI d) M = some (moreI (slS M lv nf (M 401 54) (M 437) d), M') ∧ (∀ k, k < 38 → M' 437 k = ckR M lv nf d (slS M lv nf (M 401 54) (M 437) d) (M 437) k) ∧ Kl MS1 M zL M' zL := by
  have h6 := h.nf6
  have h5 := h.nd5
  have h1 := h.l1
  have h0 := h.some_ (by omega)
  obtain ⟨r0, M9, w1, _, k9⟩ := tf_Mod_cooks (p0 := nI d) hI (by
    rw [h.l18, nI_clamp (by omega), h.md, nI_toInt (by omega), nI_toInt (by omega)]
    omega)
  have key : ∃ M', F_Mod_cooks (nI d) M = some (moreI (slS M lv nf (M 401 54) (M 437) d), M') ∧ (∀ k, k < 38 → M' 437 k = ckR M lv nf d (slS M lv nf (M 401 54) (M 437) d) (M 437) k) := by
    unfold F_Mod_cooks
    rw [h.l18, show (5 : Int32) = nI 5 from rfl, nI_mul, nI_add, if_neg (nI_in (by omega) (by omega)), nI_clamp (by omega), nmI_e, m_fillsPot h hd, bI_s]
    -- the dish in the pot
    have f1 : Eo mQ M (fl M 438 0 6 (potD M lv nf d)) := fun c j q => fl_out (by unfold mQ at q; omega)
    have e437 : ∀ i, fl M 438 0 6 (potD M lv nf d) 437 i = M 437 i := fun i => fl_out (by omega)
    have e54 : fl M 438 0 6 (potD M lv nf d) 401 54 = M 401 54 := fl_out (by omega)
    have e438 : ∀ i, i < 6 → fl M 438 0 6 (potD M lv nf d) 438 i = potD M lv nf d i := fun i hi => by rw [fl_in (by omega), Nat.sub_zero]
    generalize fl M 438 0 6 (potD M lv nf d) = N1 at f1 e437 e54 e438 ⊢
    have hN1 := h.kQ f1
    obtain ⟨N2, y1, y2, y3⟩ := m_ckStock hN1 (v1 := nI d) (v2 := M 416 (5 * lv + d)) (r := M 437) nf 0 (FU - 1 - nf) N1 (Nat.zero_add _) (fun _ _ _ => rfl) (fun j hj => e437 j) (fun j hj => absurd hj (Nat.not_lt_zero _))
    have e0 : H_Mod_cooks_21 (nI d) (M 416 (5 * lv + d)) FU 0 N1 = H_Mod_cooks_21 (nI d) (M 416 (5 * lv + d)) (FU - 1 - nf + 1 + nf) (nI 0) N1 := by
      rw [show FU - 1 - nf + 1 + nf = FU by unfold FU; omega]; rfl
    rw [e0, y1]
    have f2 : Eo mQ M N2 := f1.tr (fun c j q => y2 c j (by unfold mQ at q; omega))
    have hN2 := h.kQ f2
    have m2 := mQ_M f2
    have st2 : ∀ k, k < 38 → N2 437 k = if k < nf then M 437 k - M 417 (6 * (5 * lv + d) + k) else M 437 k := fun k hk => by
      by_cases q : k < nf
      · rw [if_pos q, y3 k q, e438 k (by omega)]
        unfold potD
        rw [if_pos q]
      · rw [if_neg q, y2 437 k (by omega), e437]
    have p2 : ∀ i, i < 6 → N2 438 i = potD N2 lv nf d i := fun i hi => by
      have : potD N2 lv nf d i = potD M lv nf d i := by unfold potD; rw [m2 417 _ (by decide) (by decide)]
      rw [this, y2 438 i (by omega), e438 i hi]
    unfold J_Mod_cooks_55
    have hpri : F_Mod_potPrice N2 = some (priS M lv nf d) := by
      rw [m_potPrice hN2, potD_pri p2 h6, priS_k m2]
    have e36 : N2 437 36 = M 437 36 := by rw [st2 36 (by omega), if_neg (by omega)]
    rw [hpri, bI_s, e36, nmM_e, m_looks, bI_s, nmM_e]
    -- looks, heat, many
    have hman : ∀ N : gM, (∀ i, N 438 i = N2 438 i) → F_Mod_potMany N = some (manS M lv nf d) := fun N e => by
      rw [m_potMany, sm_c 6 (fun k _ => e k), potD_man p2 h6, manS_k m2]
    rw [hman _ (fun i => by rw [uM_diff (by omega), uM_diff (by omega), fl_out (by omega), uM_diff (by omega)]), bI_s, nmM_e]
    have e35 : uM N2 437 36 (M 437 36 + priS M lv nf d) 437 35 = M 437 35 := by rw [uM_diff (by omega), st2 35 (by omega), if_neg (by omega)]
    rw [e35]
    generalize hN5 : uM (uM (uM (fl (uM N2 437 36 (M 437 36 + priS M lv nf d)) 434 0 9 (fun _ => 0)) 434 4 (M 437 35)) 434 1 (M 416 (5 * lv + d))) 434 3 (manS M lv nf d) = N5
    have f5 : ∀ c j, c ≠ 434 → ¬ (c = 437 ∧ j = 36) → N5 c j = N2 c j := fun c j q1 q2 => by
      rw [← hN5, uM_diff (by omega), uM_diff (by omega), uM_diff (by omega), fl_out (by omega), uM_diff (by omega)]
    have hN5L := hN2.kQ (M' := N5) (fun c j q => f5 c j (by unfold mQ at q; omega) (by unfold mQ at q; omega))
    have m5 : ∀ c j, 411 ≤ c → c ≤ 432 → N5 c j = M c j := fun c j a b => (f5 c j (by omega) (by omega)).trans (m2 c j a b)
    have e37 : N5 437 37 = M 437 37 := by rw [f5 437 37 (by omega) (by omega), st2 37 (by omega), if_neg (by omega)]
    have e54b : N5 401 54 = M 401 54 := by rw [f5 401 54 (by omega) (by omega), y2 401 54 (by omega), e54]
    have hv : ∀ i, i < 9 → N5 434 i = v9 0 (M 416 (5 * lv + d)) 0 (manS M lv nf d) (M 437 35) 0 0 0 0 i := fun i hi => by
      rw [← hN5]
      rcases (show i = 1 ∨ i = 3 ∨ i = 4 ∨ i = 0 ∨ i = 2 ∨ i = 5 ∨ i = 6 ∨ i = 7 ∨ i = 8 by omega) with q | q | q | q | q | q | q | q | q <;> subst q
      · rw [uM_diff (by omega)]; exact uM_same
      · exact uM_same
      · rw [uM_diff (by omega), uM_diff (by omega)]; exact uM_same
      all_goals (rw [uM_diff (by omega), uM_diff (by omega), uM_diff (by omega)]; exact fl_in (by omega))
    obtain ⟨N6, z1, z2⟩ := hN5L.asks (w := 3) (p := 0) (a := 0) (b := 100) (by decide) hv
    have z1' : F_Mod_asks 3 0 0 100 N5 = some (sliS M lv d (manS M lv nf d) (M 437 35), N6) := by
      rw [show F_Mod_asks 3 0 0 100 N5 = _ from z1]
      unfold sliS
      rw [lawS_keep (fun c j a b => m5 c j (by omega) (by omega))]
    rw [e37, show (F_Mod_lotOf (8 * M 437 37) 100 N5) = some (lotS 100 (N5 401 54) (8 * M 437 37)) from m_lotOf (by decide), bI_s, e54b, z1', bI2_s]
    have f6 : ∀ c j, c ≠ 434 → c ≠ 435 → ¬ (c = 401 ∧ j = 51) → ¬ (c = 437 ∧ j = 36) → N6 c j = N2 c j := fun c j a1 a2 a3 a4 => by rw [z2 c j (by omega), f5 c j a1 a4]
    have hN6 := hN2.kQ (M' := N6) (fun c j q => f6 c j (by unfold mQ at q; omega) (by unfold mQ at q; omega) (by unfold mQ at q; omega) (by unfold mQ at q; omega))
    have m6 : ∀ c j, 411 ≤ c → c ≤ 432 → N6 c j = M c j := fun c j a b => (f6 c j (by omega) (by omega) (by omega) (by omega)).trans (m2 c j a b)
    have e36b : N6 437 36 = M 437 36 + priS M lv nf d := by rw [z2 437 36 (by omega), ← hN5, uM_diff (by omega), uM_diff (by omega), uM_diff (by omega), fl_out (by omega), uM_same]
    have st6 : ∀ k, k < 38 → k ≠ 36 → N6 437 k = if k < nf then M 437 k - M 417 (6 * (5 * lv + d) + k) else M 437 k := fun k hk hk2 => by
      rw [f6 437 k (by omega) (by omega) (by omega) (by omega)]; exact st2 k hk
    have p6 : ∀ i, i < 6 → N6 438 i = potD M lv nf d i := fun i hi => by
      rw [f6 438 i (by omega) (by omega) (by omega) (by omega), p2 i hi]
      unfold potD
      rw [m2 417 _ (by decide) (by decide)]
    -- from the slip on
    have fin : ∀ sl : Option Nat, (∀ x, sl = some x → x < nf) → ∃ M', J_Mod_cooks_163 (nI d) (M 416 (5 * lv + d)) (moreI sl) N6 = some (moreI sl, M') ∧ (∀ k, k < 38 → M' 437 k = ckR M lv nf d sl (M 437) k) := by
      intro sl hsl
      -- the pot with what slipped in
      have h187 : ∀ N7 : gM, (∀ c j, c ≠ 437 → c ≠ 438 → N7 c j = N6 c j) → (∀ k, k < 38 → k ≠ 36 → N7 437 k = if k < nf then M 437 k - (M 417 (6 * (5 * lv + d) + k) + (if sl = some k then 1 else 0)) else M 437 k) → N7 437 36 = M 437 36 + priS M lv nf d → Pot N7 lv nf d sl → ∃ M', J_Mod_cooks_187 (nI d) (M 416 (5 * lv + d)) (moreI sl) N7 = some (moreI sl, M') ∧ (∀ k, k < 38 → M' 437 k = ckR M lv nf d sl (M 437) k) := by
        intro N7 e7 st7 e736 hp7
        unfold J_Mod_cooks_187
        rw [nmM_e]
        have f8 : ∀ c j, c ≠ 437 → uM N7 437 11 (nI d) c j = N7 c j := fun c j q => uM_diff (by omega)
        have hN8 : Lnd ld lv nf nd ng ne (uM N7 437 11 (nI d)) := hN6.kQ (fun c j q => by rw [f8 c j (by unfold mQ at q; omega), e7 c j (by unfold mQ at q; omega) (by unfold mQ at q; omega)])
        have m8 : ∀ c j, 411 ≤ c → c ≤ 432 → uM N7 437 11 (nI d) c j = M c j := fun c j a b => by rw [f8 c j (by omega), e7 c j (by omega) (by omega)]; exact m6 c j a b
        have hp8 : Pot (uM N7 437 11 (nI d)) lv nf d sl := fun f hf => by
          have : potD (uM N7 437 11 (nI d)) lv nf d f = potD N7 lv nf d f := by unfold potD; rw [f8 417 _ (by omega)]
          rw [this, f8 438 f (by omega)]; exact hp7 f hf
        have e35c : uM N7 437 11 (nI d) 437 35 = M 437 35 := by rw [uM_diff (by omega), st7 35 (by omega) (by omega), if_neg (by omega)]
        obtain ⟨N9, t1, t2, t3⟩ := m_ckForce hN8 (v3 := moreI sl) hd hp8 hsl 3 0 (FU - 4) (uM N7 437 11 (nI d)) (by omega) Eo.rf (fun j hj => absurd hj (Nat.not_lt_zero _))
        rw [m8 416 _ (by decide) (by decide)] at t1
        have e1 : (H_Mod_cooks_198 (nI d) (M 416 (5 * lv + d)) (moreI sl) FU 0 (uM N7 437 11 (nI d))) = H_Mod_cooks_198 (nI d) (M 416 (5 * lv + d)) (moreI sl) (FU - 4 + 1 + 3) (nI 0) (uM N7 437 11 (nI d)) := by
          rw [show FU - 4 + 1 + 3 = FU by unfold FU; omega]; rfl
        rw [e1, t1]
        unfold J_Mod_cooks_227
        rw [show (6 : Int32) = nI 6 from rfl, nI_add, if_neg (nI_in (by omega) (by omega)), if_neg (nI_in (by omega) (by omega)), nI_clamp (by omega), nmM_e, nmM_e]
        refine ⟨_, rfl, fun k hk => ?_⟩
        have u9 : ∀ k, k < 38 → k ≠ 36 → ¬ (12 ≤ k ∧ k < 15) → k ≠ 11 → N9 437 k = if k < nf then M 437 k - (M 417 (6 * (5 * lv + d) + k) + (if sl = some k then 1 else 0)) else M 437 k := fun k hk a1 a2 a3 => by
          rw [t2 437 k (by unfold mV; omega), uM_diff (by omega)]; exact st7 k hk a1
        unfold ckR
        by_cases q37 : k = 37
        · rw [q37, uM_same, uM_diff (by omega), u9 37 (by omega) (by omega) (by omega) (by omega), if_neg (by omega), if_neg (by omega), if_neg (by omega), if_neg (by omega), if_neg (by omega), if_neg (by omega), if_pos rfl]
        rw [uM_diff (by omega)]
        by_cases q6 : k = 6 + d
        · rw [q6, uM_same, u9 (6 + d) (by omega) (by omega) (by omega) (by omega), if_neg (by omega), if_neg (by omega), if_pos rfl]
        rw [uM_diff (by omega)]
        by_cases qn : k < nf
        · rw [u9 k hk (by omega) (by omega) (by omega), if_pos qn, if_pos qn]
        rw [if_neg qn, if_neg q6]
        by_cases q11 : k = 11
        · rw [if_pos q11, q11, t2 437 11 (by unfold mV; omega), uM_same]
        rw [if_neg q11]
        by_cases q12 : 12 ≤ k ∧ k < 15
        · rw [if_pos q12]
          have := t3 (k - 12) (by omega)
          rw [show 12 + (k - 12) = k by omega, disS_k m8, e35c] at this
          exact this
        rw [if_neg q12]
        by_cases q36 : k = 36
        · rw [if_pos q36, q36, t2 437 36 (by unfold mV; omega), uM_diff (by omega)]; exact e736
        rw [if_neg q36, if_neg q37, u9 k hk q36 q12 q11, if_neg qn]
      unfold J_Mod_cooks_163
      match sl, hsl, h187 with
      | none, _, h187 =>
        rw [if_pos (show moreI none < 0 by decide)]
        refine h187 N6 (fun _ _ _ _ => rfl) (fun k hk a => ?_) e36b (fun f hf => ?_)
        · rw [st6 k hk a, if_neg (show ¬ (none = some k) by simp), Int32.add_zero]
        · rw [p6 f hf, if_neg (show ¬ (none = some f) by simp)]
          unfold potD
          rw [m6 417 _ (by decide) (by decide)]
      | some x, hsl, h187 =>
        have hx := hsl x rfl
        rw [show moreI (some x) = nI x from rfl, if_neg (nI_pos (by omega)), if_neg (nI_in (by omega) (by omega)), if_neg (nI_in (by omega) (by omega)), nI_clamp (by omega), nmM_e, if_neg (nI_inc (by omega) (by omega)), if_neg (nI_inc (by omega) (by omega)), nmM_e, uM_diff (by omega), p6 x (by omega)]
        refine h187 _ (fun c j a b => ?_) (fun k hk a => ?_) ?_ (fun f hf => ?_)
        · rw [uM_diff (by omega), uM_diff (by omega)]
        · rw [uM_diff (by omega)]
          by_cases q : k = x
          · subst q
            rw [uM_same, st6 k hk a, if_pos hx, if_pos hx, if_pos rfl, i_sub3]
          · rw [uM_diff (by omega), st6 k hk a, if_neg (show ¬ (some x = some k) from fun w => q (Option.some.inj w).symm), Int32.add_zero]
        · rw [uM_diff (by omega), uM_diff (by omega)]; exact e36b
        · have e : potD (uM (uM N6 437 x (N6 437 x - 1)) 438 x (potD M lv nf d x + 1)) lv nf d f = potD M lv nf d f := by
            unfold potD
            rw [uM_diff (by omega), uM_diff (by omega), m6 417 _ (by decide) (by decide)]
          rw [e]
          by_cases q : f = x
          · subst q
            rw [uM_same, if_pos rfl]
          · rw [uM_diff (by omega), uM_diff (by omega), p6 f hf, if_neg (show ¬ (some x = some f) from fun w => q (Option.some.inj w).symm)]
    unfold slS
    obtain ⟨x, hx, ex⟩ := lotS_r (n := nf) (seed := M 401 54) (which := 8 * M 437 37 + 1) h0 (by omega)
    rw [ex, nI_tn (by omega)]
    by_cases q : lotS 100 (M 401 54) (8 * M 437 37) < sliS M lv d (manS M lv nf d) (M 437 35)
    · rw [if_neg (i32_nle_of_lt q), if_pos q, hN6.l18, if_neg (nI_in (by omega) (by omega)), nI_clamp (by omega), hN6.mf]
      have e37c : N6 437 37 = M 437 37 := by rw [st6 37 (by omega) (by omega), if_neg (by omega)]
      have e54c : N6 401 54 = M 401 54 := by rw [f6 401 54 (by omega) (by omega) (by omega) (by omega), y2 401 54 (by omega), e54]
      rw [e37c, m_lotOf (nI_ne0 h0 (by omega)), bI_s, e54c, ex]
      unfold J_Mod_cooks_147
      rw [if_neg (nI_pos (by omega)), if_neg (nI_in (by omega) (by omega)), nI_clamp (by omega), st6 x (by omega) (by omega), if_pos hx]
      by_cases w : M 437 x - M 417 (6 * (5 * lv + d) + x) = 0
      · rw [if_pos w, if_pos w]
        exact fin none (fun y q => by cases q)
      · rw [if_neg w, if_neg w]
        exact fin (some x) (fun y q => by cases q; exact hx)
    · rw [if_pos (i32_le_of_nlt q), if_neg q]
      unfold J_Mod_cooks_147
      rw [if_pos (by decide)]
      exact fin none (fun y q => by cases q)
  obtain ⟨M', t1, t2⟩ := key
  have i1 := Option.some.inj (w1.symm.trans t1)
  injection i1 with i2 i3
  subst i3
  exact ⟨M9, t1, t2, k9⟩
end MCK
end PAR36
end MG14x6
section MG14x7
/-! days, in both -/
section PAR37
def dyR (M : gM) (lv nf : Nat) (r : Nat → Int32) (k : Nat) : Int32 := if k < nf then hb 0 99 (r k + filS M lv k (r k) (r 35)) else if k = 35 then r 35 + 1 else r k
def dyI (M : gM) (lv nf : Nat) : Nat → (Nat → Int32) → Nat → Int32
  | 0, r => r
  | n + 1, r => dyI M lv nf n (dyR M lv nf r)
section DY
variable {D Q ld lv nf nd ng ne X : Nat} {M M' : gM} {r : Nat → Int32}
theorem dyR_k (e : ∀ c j, 411 ≤ c → c ≤ 432 → M' c j = M c j) : dyR M' lv nf r = dyR M lv nf r := by
  funext k
  unfold dyR
  rw [filS_k e]
theorem dyR_r {r' : Nat → Int32} (h6 : nf ≤ 6) (e : ∀ k, k < 38 → r' k = r k) : ∀ k, k < 38 → dyR M lv nf r' k = dyR M lv nf r k := fun k hk => by
  unfold dyR
  rw [e k hk, e 35 (by omega)]
theorem dyI_r (h6 : nf ≤ 6) : ∀ n (r r' : Nat → Int32), (∀ k, k < 38 → r' k = r k) → ∀ k, k < 38 → dyI M lv nf n r' k = dyI M lv nf n r k
  | 0, _, _, e => e
  | n + 1, r, r', e => dyI_r h6 n (dyR M lv nf r) (dyR M lv nf r') (dyR_r h6 e)
theorem hb_r {x : Int32} {a b : Nat} (hab : a ≤ b) (hb31 : b < 2 ^ 31) : ∃ y, a ≤ y ∧ y ≤ b ∧ hb (nI a) (nI b) x = nI y := by
  unfold hb
  by_cases q : nI a ≤ x
  · rw [if_pos q]
    by_cases w : x ≤ nI b
    · rw [if_pos w]
      rw [i_le, nI_toInt (by omega)] at q
      rw [i_le, nI_toInt hb31] at w
      exact ⟨x.toInt.toNat, by omega, by omega, i_nI (by omega)⟩
    · rw [if_neg w]; exact ⟨b, hab, Nat.le_refl _, rfl⟩
  · rw [if_neg q]; exact ⟨a, Nat.le_refl _, hab, rfl⟩
theorem c_dayL {N : gM} (hN : Lnd ld lv nf nd ng ne N) (hX : isSt X) (hS : St D Q nf X r N) {K2 : Int32 → gM → Option gM} {v2 v3 : Int32} : ∀ (s k f : Nat) (N1 : gM), k + s = nf → Kl (CX X) N zL N1 zL → (∀ c j, X ≤ c → c < X + 7 → ¬ (c = X + 2 ∧ j < k) → N1 c j = N c j) → (∀ j, j < k → N1 (X + 2) j = dyR N lv nf r j) →
    ∃ N', H_State_passDays_10 X ld K2 v2 v3 (f + 1 + s) (nI k) N1 = J_State_passDays_66 X ld K2 v2 v3 N' ∧ Kl (CX X) N zL N' zL ∧ (∀ c j, X ≤ c → c < X + 7 → ¬ (c = X + 2 ∧ j < nf) → N' c j = N c j) ∧ (∀ j, j < nf → N' (X + 2) j = dyR N lv nf r j) := by
  have h6 := hN.nf6
  have hX2 := (by decide +kernel : ∀ X ∈ lSt, (64 ≤ X ∧ X + 7 ≤ 360) ∨ (362 ≤ X ∧ X + 7 ≤ 383)) X hX
  have hs := id hS
  obtain ⟨⟨day, d1, d2, d3, d4⟩, s1, s2, s3, s4, s5, s6, s7⟩ := hs
  intro s
  induction s with
  | zero =>
    intro k f N1 hk kN e1 e3
    obtain rfl : k = nf := by omega
    refine ⟨N1, ?_, kN, e1, e3⟩
    show B_State_passDays_10 X ld K2 v2 v3 (H_State_passDays_10 X ld K2 v2 v3 f) (nI k) N1 = _
    unfold B_State_passDays_10
    rw [(hN.kCX hX kN).cf, if_pos (by rw [nI_leI (by omega) (by omega)]; omega)]
  | succ s ih =>
    intro k f N1 hk kN e1 e3
    have hN1 := hN.kCX hX kN
    have ed : N1 X 0 = r 35 := by rw [e1 X 0 (by omega) (by omega) (by omega), d2, d3]
    have est : N1 (X + 2) k = r k := by
      obtain ⟨x, _, q2, q3, _⟩ := s5 k (by omega)
      rw [e1 _ _ (by omega) (by omega) (by omega), q2, q3]
    obtain ⟨N2, y1, y2⟩ := c_fillOf hN1 (f := k) (st := r k) (day := r 35) (by omega)
    rw [filS_k (kCX_M hX kN)] at y1
    have x2 : ∀ c j, X ≤ c → c < X + 7 → N2 c j = N1 c j := fun c j a b => y2.m (C0_M (by omega) (by omega))
    have ev : hb 0 99 (r k + filS N lv k (r k) (r 35)) = dyR N lv nf r k := by unfold dyR; rw [if_pos (by omega)]
    have k3 : Kl (CX X) N zL (uM N2 (X + 2) k (dyR N lv nf r k)) zL := (kN.trans (y2.mono C0_CX)).wM (CX_o ⟨by omega, by omega⟩) rfl
    obtain ⟨N', z1, z2, z3, z4⟩ := ih (k + 1) f (uM N2 (X + 2) k (dyR N lv nf r k)) (by omega) k3 (fun c j a b q => by rw [uM_diff (by omega), x2 c j a b]; exact e1 c j a b (by omega)) (fun j hj => by
      by_cases q : j = k
      · rw [q, uM_same]
      · rw [uM_diff (by omega), x2 _ _ (by omega) (by omega)]; exact e3 j (by omega))
    refine ⟨N', ?_, z2, z3, z4⟩
    rw [← z1]
    show B_State_passDays_10 X ld K2 v2 v3 (H_State_passDays_10 X ld K2 v2 v3 (f + 1 + s)) (nI k) N1 = _
    unfold B_State_passDays_10
    rw [hN1.cf, if_neg (by rw [nI_leI (by omega) (by omega)]; omega), s_at (by omega) (by decide), bI_s, est, ed, y1, bI2_s, within_e (by decide), bI_s, ev, s_put (by omega) (by decide), bI_s, nmI_e, nI_1]
/-- a day of the class's state -/
theorem St.day (hN : Lnd ld lv nf nd ng ne M) (hS : St D Q nf X r M) (h3 : ∀ c j, X ≤ c → c < X + 7 → ¬ (c = X + 2 ∧ j < nf) → M' c j = M c j) (h4 : ∀ j, j < nf → M' (X + 2) j = dyR M lv nf r j) : St (D + 1) Q nf X (dyR M lv nf r) (uM M' X 0 (M' X 0 + 1)) := by
  have h6 := hN.nf6
  obtain ⟨⟨day, d1, d2, d3, d4⟩, s1, s2, s3, s4, s5, s6, s7⟩ := hS
  have c6 : ∀ c j, X ≤ c → c < X + 7 → ¬ (c = X + 2 ∧ j < nf) → ¬ (c = X ∧ j = 0) → uM M' X 0 (M' X 0 + 1) c j = M c j := fun c j a b q w => by rw [uM_diff w]; exact h3 c j a b q
  have rr : ∀ k, nf ≤ k → k ≠ 35 → dyR M lv nf r k = r k := fun k a b => by unfold dyR; rw [if_neg (by omega), if_neg b]
  refine ⟨⟨day + 1, by omega, ?_, ?_, fun g hg => ?_⟩, ?_, ?_, ?_, fun j hj => ?_, fun f hf => ?_, fun j hj => ?_, fun i hi => ?_⟩
  · rw [uM_same, h3 X 0 (by omega) (by omega) (by omega), d2, nI_1]
  · unfold dyR
    rw [if_neg (by omega), if_pos rfl, d3, nI_1]
  · obtain ⟨ml, m1, m2, m3, m4⟩ := d4 g hg
    rw [c6 (X + 4) g (by omega) (by omega) (by omega) (by omega), c6 (X + 5) g (by omega) (by omega) (by omega) (by omega), rr (31 + g) (by omega) (by omega), rr (15 + g) (by omega) (by omega)]
    refine ⟨ml, m1, m2, m3, ?_⟩
    rcases m4 with m4 | ⟨m5, e, m6, m7⟩
    · exact Or.inl m4
    · exact Or.inr ⟨m5, e, by omega, m7⟩
  · rw [c6 X 1 (by omega) (by omega) (by omega) (by omega), rr 36 (by omega) (by omega)]; exact s1
  · rw [c6 X 2 (by omega) (by omega) (by omega) (by omega), rr 37 (by omega) (by omega)]; exact s2
  · rw [c6 X 3 (by omega) (by omega) (by omega) (by omega), rr 11 (by omega) (by omega)]; exact s3
  · rw [c6 (X + 1) j (by omega) (by omega) (by omega) (by omega), rr (12 + j) (by omega) (by omega)]; exact s4 j hj
  · obtain ⟨x, x1, x2, x3, x4⟩ := s5 f hf
    by_cases q : f < nf
    · obtain ⟨y, _, y2, y3⟩ := hb_r (x := r f + filS M lv f (r f) (r 35)) (a := 0) (b := 99) (by decide) (by decide)
      have ev : dyR M lv nf r f = nI y := by unfold dyR; rw [if_pos q]; exact y3
      exact ⟨y, y2, by rw [uM_diff (by omega), h4 f q, ev], ev, fun w => absurd q (by omega)⟩
    · exact ⟨x, x1, by rw [c6 (X + 2) f (by omega) (by omega) (by omega) (by omega)]; exact x2, by rw [rr f (by omega) (by omega)]; exact x3, x4⟩
  · rw [c6 (X + 3) j (by omega) (by omega) (by omega) (by omega), rr (6 + j) (by omega) (by omega)]; exact s6 j hj
  · rw [c6 (X + 6) i (by omega) (by omega) (by omega) (by omega), rr (19 + i) (by omega) (by omega)]; exact s7 i hi
theorem c_passL (h : Lnd ld lv nf nd ng ne M) (hX : isSt X) {n : Nat} (hn : n < 2 ^ 20) : ∀ (s i f D : Nat) (N1 : gM) (r1 : Nat → Int32), i + s = n → Kl (CX X) M zL N1 zL → St D Q nf X r1 N1 → ∃ N', H_State_passDays_2 X ld (nI n) (f + 1 + s) (nI i) N1 = some N' ∧ St (D + s) Q nf X (dyI M lv nf s r1) N' ∧ Kl (CX X) M zL N' zL := by
  have h6 := h.nf6
  have hX2 := (by decide +kernel : ∀ X ∈ lSt, (64 ≤ X ∧ X + 7 ≤ 360) ∨ (362 ≤ X ∧ X + 7 ≤ 383)) X hX
  intro s
  induction s with
  | zero =>
    intro i f D N1 r1 hi kN hS
    obtain rfl : i = n := by omega
    refine ⟨N1, ?_, hS, kN⟩
    show B_State_passDays_2 X ld (nI i) (H_State_passDays_2 X ld (nI i) f) (nI i) N1 = _
    unfold B_State_passDays_2
    rw [if_pos (by rw [nI_leI (by omega) (by omega)]; omega)]
  | succ s ih =>
    intro i f D N1 r1 hi kN hS
    have hN1 := h.kCX hX kN
    have e0 : H_State_passDays_2 X ld (nI n) (f + 1 + (s + 1)) (nI i) N1 = B_State_passDays_2 X ld (nI n) (H_State_passDays_2 X ld (nI n) (f + 1 + s)) (nI i) N1 := rfl
    rw [e0]
    unfold B_State_passDays_2
    rw [if_neg (by rw [nI_leI (by omega) (by omega)]; omega)]
    obtain ⟨N2, y1, y2, y3, y4⟩ := c_dayL hN1 hX hS (K2 := H_State_passDays_2 X ld (nI n) (f + 1 + s)) (v2 := nI n) (v3 := nI i) nf 0 (FU - 1 - nf) N1 (Nat.zero_add _) Kl.rf (fun _ _ _ _ _ => rfl) (fun j hj => absurd hj (Nat.not_lt_zero _))
    have e1 : H_State_passDays_10 X ld (H_State_passDays_2 X ld (nI n) (f + 1 + s)) (nI n) (nI i) FU 0 N1 = H_State_passDays_10 X ld (H_State_passDays_2 X ld (nI n) (f + 1 + s)) (nI n) (nI i) (FU - 1 - nf + 1 + nf) (nI 0) N1 := by
      rw [show FU - 1 - nf + 1 + nf = FU by unfold FU; omega]; rfl
    rw [e1, y1]
    unfold J_State_passDays_66
    rw [nmM_e, nmI_e, nI_1]
    have hd := hS.day hN1 y3 y4
    rw [dyR_k (kCX_M hX kN)] at hd
    obtain ⟨N', z1, z2, z3⟩ := ih (i + 1) f (D + 1) _ _ (by omega) ((kN.trans y2).wM (CX_o ⟨by omega, by omega⟩) rfl) hd
    exact ⟨N', z1, by rw [show D + (s + 1) = D + 1 + s by omega]; exact z2, z3⟩
theorem c_passDays (h : Lnd ld lv nf nd ng ne M) (hX : isSt X) (hS : St D Q nf X r M) {n : Nat} (hn : n < 2 ^ 20) : ∃ M', F_State_passDays X ld (nI n) M = some M' ∧ St (D + n) Q nf X (dyI M lv nf n r) M' ∧ Kl (CX X) M zL M' zL := by
  unfold F_State_passDays
  obtain ⟨g, hg⟩ : ∃ g, FU = g + 1 + n := ⟨FU - 1 - n, by unfold FU; omega⟩
  rw [hg]
  exact c_passL h hX hn n 0 g D M r (Nat.zero_add _) Kl.rf hS
theorem m_dayA (h : Lnd ld lv nf nd ng ne M) : ∀ (s k f : Nat) (N1 : gM), k + s = nf → Eo (fun c j => mV c j ∨ (c = 439 ∧ j < k)) M N1 → (∀ j, j < k → N1 439 j = dyR M lv nf (M 437) j) →
    ∃ N', H_Mod_dayGoes_2 (f + 1 + s) (nI k) N1 = J_Mod_dayGoes_95 N' ∧ Eo (fun c j => mV c j ∨ (c = 439 ∧ j < nf)) M N' ∧ (∀ j, j < nf → N' 439 j = dyR M lv nf (M 437) j) := by
  have h6 := h.nf6
  have h1 := h.l1
  intro s
  induction s with
  | zero =>
    intro k f N1 hk e1 e3
    obtain rfl : k = nf := by omega
    have hN1 := h.kQ (M' := N1) (fun c j q => e1 c j (by unfold mQ at q; unfold mV; omega))
    refine ⟨N1, ?_, e1, e3⟩
    show B_Mod_dayGoes_2 (H_Mod_dayGoes_2 f) (nI k) N1 = _
    unfold B_Mod_dayGoes_2
    rw [hN1.l18, if_neg (nI_in (by omega) (by omega)), nI_clamp (by omega), hN1.mf, if_pos (by rw [nI_leI (by omega) (by omega)]; omega)]
  | succ s ih =>
    intro k f N1 hk e1 e3
    have hN1 := h.kQ (M' := N1) (fun c j q => e1 c j (by unfold mQ at q; unfold mV; omega))
    have m1 : ∀ c j, 411 ≤ c → c ≤ 432 → N1 c j = M c j := fun c j a b => e1 c j (by unfold mV; omega)
    have r1 : ∀ j, N1 437 j = M 437 j := fun j => e1 437 j (by unfold mV; omega)
    have e0 : H_Mod_dayGoes_2 (f + 1 + (s + 1)) (nI k) N1 = B_Mod_dayGoes_2 (H_Mod_dayGoes_2 (f + 1 + s)) (nI k) N1 := rfl
    have u18 : uM (uM (uM (fl N1 434 0 9 (fun _ => 0)) 434 4 (N1 437 35)) 434 2 (nI k)) 434 7 (M 437 k) 401 18 = nI lv := by rw [uM_diff (by omega), uM_diff (by omega), uM_diff (by omega), fl_out (by omega)]; exact hN1.l18
    have u437 : uM (uM (fl N1 434 0 9 (fun _ => 0)) 434 4 (N1 437 35)) 434 2 (nI k) 437 k = M 437 k := by rw [uM_diff (by omega), uM_diff (by omega), fl_out (by omega)]; exact r1 k
    have u413 : uM (uM (uM (fl N1 434 0 9 (fun _ => 0)) 434 4 (N1 437 35)) 434 2 (nI k)) 434 7 (M 437 k) 413 (6 * lv + k) = M 413 (6 * lv + k) := by rw [uM_diff (by omega), uM_diff (by omega), uM_diff (by omega), fl_out (by omega)]; exact m1 413 _ (by decide) (by decide)
    generalize hN5 : uM (uM (uM (uM (fl N1 434 0 9 (fun _ => 0)) 434 4 (N1 437 35)) 434 2 (nI k)) 434 7 (M 437 k)) 434 8 (M 413 (6 * lv + k)) = N5
    have f5 : Eo mV N1 N5 := fun c j q => by
      unfold mV at q
      rw [← hN5, uM_diff (by omega), uM_diff (by omega), uM_diff (by omega), uM_diff (by omega), fl_out (by omega)]
    have hN5L := hN1.kV f5
    have hv : ∀ i, i < 9 → N5 434 i = v9 0 0 (nI k) 0 (M 437 35) 0 0 (M 437 k) (M 413 (6 * lv + k)) i := fun i hi => by
      rw [← hN5]
      rcases (show i = 2 ∨ i = 4 ∨ i = 7 ∨ i = 8 ∨ i = 0 ∨ i = 1 ∨ i = 3 ∨ i = 5 ∨ i = 6 by omega) with q | q | q | q | q | q | q | q | q <;> subst q
      · rw [uM_diff (by omega), uM_diff (by omega)]; exact uM_same
      · rw [uM_diff (by omega), uM_diff (by omega), uM_diff (by omega), uM_same]; exact r1 35
      · rw [uM_diff (by omega)]; exact uM_same
      · exact uM_same
      all_goals (rw [uM_diff (by omega), uM_diff (by omega), uM_diff (by omega), uM_diff (by omega)]; exact fl_in (by omega))
    obtain ⟨N6, z1, z2⟩ := hN5L.asks (w := 2) (p := 0) (a := -9) (b := 9) (by decide) hv
    have z1' : F_Mod_asks 2 0 (-9) 9 N5 = some (filS M lv k (M 437 k) (M 437 35), N6) := by
      rw [show F_Mod_asks 2 0 (-9) 9 N5 = _ from z1]
      unfold filS
      rw [lawS_keep (M' := N5) (M := M) (fun c j a b => (f5 c j (by unfold mV; omega)).trans (m1 c j (by omega) (by omega)))]
    have ev : hb 0 99 (M 437 k + filS M lv k (M 437 k) (M 437 35)) = dyR M lv nf (M 437) k := by unfold dyR; rw [if_pos (by omega)]
    have e5k : N5 437 k = M 437 k := by rw [f5 437 k (by unfold mV; omega)]; exact r1 k
    obtain ⟨N', w1, w2, w3⟩ := ih (k + 1) f (uM N6 439 k (dyR M lv nf (M 437) k)) (by omega) (fun c j q => by
      have q1 : ¬ mV c j := fun w => q (Or.inl w)
      rw [uM_diff (fun w => q (Or.inr ⟨w.1, by omega⟩)), z2 c j (fun w => q1 (by unfold mV; omega)), f5 c j q1]
      exact e1 c j (fun w => q (w.imp id (fun z => ⟨z.1, by omega⟩)))) (fun j hj => by
      by_cases q : j = k
      · rw [q, uM_same]
      · rw [uM_diff (by omega), z2 439 j (by omega), f5 439 j (by unfold mV; omega)]; exact e3 j (by omega))
    refine ⟨N', ?_, w2, w3⟩
    rw [← w1, e0]
    unfold B_Mod_dayGoes_2
    rw [hN1.l18, if_neg (nI_in (by omega) (by omega)), nI_clamp (by omega), hN1.mf, if_neg (by rw [nI_leI (by omega) (by omega)]; omega), m_looks, bI_s, nmM_e, if_neg (nI_in (by omega) (by omega)), nI_clamp (by omega), u437, nmM_e, u18, show (6 : Int32) = nI 6 from rfl, nI_mul, nI_add, if_neg (nI_in (by omega) (by omega)), nI_clamp (by omega), u413, hN5, nmM_e, if_neg (nI_inc (by omega) (by omega)), z1', bI2_s, e5k, held_e, bI_s, if_neg (nI_inc (by omega) (by omega)), nmM_e, nmI_e, nI_1, ev]
theorem m_dayB (h : Lnd ld lv nf nd ng ne M) {r : Nat → Int32} : ∀ (s k f : Nat) (N1 : gM), k + s = nf → (∀ c j, ¬ (c = 437 ∧ j < k) → N1 c j = M c j) → (∀ j, j < nf → M 439 j = r j) → (∀ j, j < k → N1 437 j = r j) →
    ∃ N', H_Mod_dayGoes_97 (f + 1 + s) (nI k) N1 = J_Mod_dayGoes_128 N' ∧ (∀ c j, ¬ (c = 437 ∧ j < nf) → N' c j = M c j) ∧ (∀ j, j < nf → N' 437 j = r j) := by
  have h6 := h.nf6
  have h1 := h.l1
  intro s
  induction s with
  | zero =>
    intro k f N1 hk e1 e2 e3
    obtain rfl : k = nf := by omega
    have hN1 := h.kQ (M' := N1) (fun c j q => e1 c j (by unfold mQ at q; omega))
    refine ⟨N1, ?_, e1, e3⟩
    show B_Mod_dayGoes_97 (H_Mod_dayGoes_97 f) (nI k) N1 = _
    unfold B_Mod_dayGoes_97
    rw [hN1.l18, if_neg (nI_in (by omega) (by omega)), nI_clamp (by omega), hN1.mf, if_pos (by rw [nI_leI (by omega) (by omega)]; omega)]
  | succ s ih =>
    intro k f N1 hk e1 e2 e3
    have hN1 := h.kQ (M' := N1) (fun c j q => e1 c j (by unfold mQ at q; omega))
    obtain ⟨N', y1, y2, y3⟩ := ih (k + 1) f (uM N1 437 k (r k)) (by omega) (fun c j q => by rw [uM_diff (by omega)]; exact e1 c j (by omega)) e2 (fun j hj => by
      by_cases q : j = k
      · rw [q, uM_same]
      · rw [uM_diff (by omega)]; exact e3 j (by omega))
    refine ⟨N', ?_, y2, y3⟩
    rw [← y1]
    show B_Mod_dayGoes_97 (H_Mod_dayGoes_97 (f + 1 + s)) (nI k) N1 = _
    unfold B_Mod_dayGoes_97
    have g1 : N1 439 k = r k := by rw [e1 439 k (by omega)]; exact e2 k (by omega)
    rw [hN1.l18, if_neg (nI_in (by omega) (by omega)), nI_clamp (by omega), hN1.mf, if_neg (by rw [nI_leI (by omega) (by omega)]; omega), if_neg (nI_in (by omega) (by omega)), if_neg (nI_in (by omega) (by omega)), nI_clamp (by omega), g1, nmM_e, nmI_e, nI_1]
theorem m_dayGoes (h : Lnd ld lv nf nd ng ne M) : ∃ M', F_Mod_dayGoes M = some M' ∧ (∀ k, k < 38 → M' 437 k = dyR M lv nf (M 437) k) ∧ Eo mQ M M' := by
  have h6 := h.nf6
  unfold F_Mod_dayGoes
  obtain ⟨g, hg⟩ : ∃ g, FU = g + 1 + nf := ⟨FU - 1 - nf, by unfold FU; omega⟩
  obtain ⟨N1, y1, y2, y3⟩ := m_dayA h nf 0 g M (Nat.zero_add _) Eo.rf (fun j hj => absurd hj (Nat.not_lt_zero _))
  have hN1 := h.kQ (M' := N1) (fun c j q => y2 c j (by unfold mQ at q; unfold mV; omega))
  obtain ⟨N2, z1, z2, z3⟩ := m_dayB hN1 (r := dyR M lv nf (M 437)) nf 0 g N1 (Nat.zero_add _) (fun _ _ _ => rfl) y3 (fun j hj => absurd hj (Nat.not_lt_zero _))
  rw [hg, show (H_Mod_dayGoes_2 (g + 1 + nf) 0 M) = H_Mod_dayGoes_2 (g + 1 + nf) (nI 0) M from rfl, y1]
  unfold J_Mod_dayGoes_95
  rw [hg, show (H_Mod_dayGoes_97 (g + 1 + nf) 0 N1) = H_Mod_dayGoes_97 (g + 1 + nf) (nI 0) N1 from rfl, z1]
  unfold J_Mod_dayGoes_128
  rw [nmM_e]
  have e2 : ∀ k, nf ≤ k → N2 437 k = M 437 k := fun k hk => by rw [z2 437 k (by omega), y2 437 k (by unfold mV; omega)]
  refine ⟨_, rfl, fun k hk => ?_, fun c j q => ?_⟩
  · by_cases q35 : k = 35
    · subst q35
      rw [uM_same, e2 35 (by omega)]
      unfold dyR
      rw [if_neg (by omega), if_pos rfl]
    · rw [uM_diff (by omega)]
      by_cases qn : k < nf
      · exact z3 k qn
      · rw [e2 k (by omega)]
        unfold dyR
        rw [if_neg qn, if_neg q35]
  · unfold mQ at q
    rw [uM_diff (by omega), z2 c j (by omega), y2 c j (by unfold mV; omega)]
theorem m_goes (h : Lnd ld lv nf nd ng ne M) {n : Nat} (hn : n < 2 ^ 20) : ∃ M', F_Mod_goes (nI n) M = some M' ∧ (∀ k, k < 38 → M' 437 k = dyI M lv nf n (M 437) k) ∧ Eo mQ M M' := by
  have h6 := h.nf6
  have key : ∀ (s i f : Nat) (N1 : gM) (r1 : Nat → Int32), i + s = n → Eo mQ M N1 → (∀ k, k < 38 → N1 437 k = r1 k) → ∃ N', H_Mod_goes_2 (nI n) (f + 1 + s) (nI i) N1 = some N' ∧ (∀ k, k < 38 → N' 437 k = dyI M lv nf s r1 k) ∧ Eo mQ M N' := by
    intro s
    induction s with
    | zero =>
      intro i f N1 r1 hi kN e
      obtain rfl : i = n := by omega
      refine ⟨N1, ?_, e, kN⟩
      show B_Mod_goes_2 (nI i) (H_Mod_goes_2 (nI i) f) (nI i) N1 = _
      unfold B_Mod_goes_2
      rw [if_pos (by rw [nI_leI (by omega) (by omega)]; omega)]
    | succ s ih =>
      intro i f N1 r1 hi kN e
      obtain ⟨N2, y1, y2, y3⟩ := m_dayGoes (h.kQ kN)
      rw [dyR_k (mQ_M kN)] at y2
      obtain ⟨N', z1, z2, z3⟩ := ih (i + 1) f N2 (dyR M lv nf r1) (by omega) (kN.tr y3) (fun k hk => by rw [y2 k hk]; exact dyR_r h6 e k hk)
      refine ⟨N', ?_, z2, z3⟩
      rw [← z1]
      show B_Mod_goes_2 (nI n) (H_Mod_goes_2 (nI n) (f + 1 + s)) (nI i) N1 = _
      unfold B_Mod_goes_2
      rw [if_neg (by rw [nI_leI (by omega) (by omega)]; omega), y1, bI_s, nmI_e, nI_1]
  unfold F_Mod_goes
  obtain ⟨g, hg⟩ : ∃ g, FU = g + 1 + n := ⟨FU - 1 - n, by unfold FU; omega⟩
  rw [hg]
  exact key n 0 g M (M 437) (Nat.zero_add _) Eo.rf (fun _ _ => rfl)
/-! a guest eats what is served -/
def eaR (r : Nat → Int32) (g k : Nat) : Int32 := if k = 15 + g then r 35 else if 19 + 3 * g ≤ k ∧ k < 22 + 3 * g then r (12 + (k - (19 + 3 * g))) else if k = 31 + g then r (31 + g) + 1 else r k
theorem c_eatServed (hS : St D Q nf X r M) (hX : isSt X) {g : Nat} (hg : g < 4) : ∃ M', F_State_eatServed X (nI g) M = some M' ∧ St D (Q + 1) nf X (eaR r g) M' ∧ Kl (CX X) M zL M' zL := by
  have hX2 := (by decide +kernel : ∀ X ∈ lSt, (64 ≤ X ∧ X + 7 ≤ 360) ∨ (362 ≤ X ∧ X + 7 ≤ 383)) X hX
  obtain ⟨⟨day, d1, d2, d3, d4⟩, s1, s2, s3, s4, s5, s6, s7⟩ := hS
  have key : F_State_eatServed X (nI g) M = some (uM (uM (uM (uM (uM M (X + 6) (3 * g) (r 12)) (X + 6) (3 * g + 1) (r 13)) (X + 6) (3 * g + 2) (r 14)) (X + 5) g (r 35)) (X + 4) g (r (31 + g) + 1)) := by
    unfold F_State_eatServed
    obtain ⟨q, hq⟩ := FU_k 4 (by omega)
    rw [hq]
    have step : ∀ (f k : Nat) (N : gM), k < 3 → N (X + 1) k = r (12 + k) → H_State_eatServed_2 X (nI g) (f + 1) (nI k) N = H_State_eatServed_2 X (nI g) f (nI (k + 1)) (uM N (X + 6) (3 * g + k) (r (12 + k))) := fun f k N hk e => by
      show B_State_eatServed_2 X (nI g) (H_State_eatServed_2 X (nI g) f) (nI k) N = _
      unfold B_State_eatServed_2
      rw [show (3 : Int32) = nI 3 from rfl, if_neg (by rw [nI_leI (by omega) (by omega)]; omega), s_at (by omega) (by decide), bI_s, e, nI_mul, nI_add, s_put (by omega) (by decide), bI_s, nmI_e, nI_1, Nat.mul_comm g 3]
    rw [show (H_State_eatServed_2 X (nI g) (q + 4) 0 M) = H_State_eatServed_2 X (nI g) (q + 3 + 1) (nI 0) M from rfl, step (q + 3) 0 M (by decide) (s4 0 (by decide)), show (H_State_eatServed_2 X (nI g) (q + 3) (nI (0 + 1)) (uM M (X + 6) (3 * g + 0) (r (12 + 0)))) = H_State_eatServed_2 X (nI g) (q + 2 + 1) (nI 1) (uM M (X + 6) (3 * g) (r 12)) from rfl, step (q + 2) 1 _ (by decide) (by rw [uM_diff (by omega)]; exact s4 1 (by decide)), show (H_State_eatServed_2 X (nI g) (q + 2) (nI (1 + 1)) (uM (uM M (X + 6) (3 * g) (r 12)) (X + 6) (3 * g + 1) (r (12 + 1)))) = H_State_eatServed_2 X (nI g) (q + 1 + 1) (nI 2) (uM (uM M (X + 6) (3 * g) (r 12)) (X + 6) (3 * g + 1) (r 13)) from rfl, step (q + 1) 2 _ (by decide) (by rw [uM_diff (by omega), uM_diff (by omega)]; exact s4 2 (by decide))]
    show B_State_eatServed_2 X (nI g) (H_State_eatServed_2 X (nI g) q) (nI 3) _ = _
    unfold B_State_eatServed_2 J_State_eatServed_33
    obtain ⟨ml, m1, m2, m3, m4⟩ := d4 g hg
    rw [if_pos (by decide), s_put (by omega) (by decide), bI_s, s_at (by omega) (by decide), bI_s, s_put (by omega) (by decide), bI_s, uM_diff (a := X + 6) (by omega), uM_diff (a := X + 6) (by omega), uM_diff (a := X + 6) (by omega), d2, ← d3]
    have e4 : uM (uM (uM (uM M (X + 6) (3 * g) (r 12)) (X + 6) (3 * g + 1) (r 13)) (X + 6) (3 * g + 2) (r (12 + 2))) (X + 5) g (r 35) (X + 4) g = r (31 + g) := by
      rw [uM_diff (by omega), uM_diff (by omega), uM_diff (by omega), uM_diff (by omega), m2, m3]
    rw [e4]
  obtain ⟨M1, e1, k1⟩ := tf_State_eatServed (X0 := X) (p1 := nI g) (M := M) hX
  have i1 := Option.some.inj (e1.symm.trans key)
  refine ⟨_, key, ?_, by rw [← i1]; exact k1⟩
  have rr : ∀ k, k ≠ 15 + g → ¬ (19 + 3 * g ≤ k ∧ k < 22 + 3 * g) → k ≠ 31 + g → eaR r g k = r k := fun k a b c => by unfold eaR; rw [if_neg a, if_neg b, if_neg c]
  refine ⟨⟨day, d1, ?_, ?_, fun g2 hg2 => ?_⟩, ?_, ?_, ?_, fun j hj => ?_, fun f hf => ?_, fun j hj => ?_, fun i hi => ?_⟩
  · rw [uM_diff (by omega), uM_diff (by omega), uM_diff (by omega), uM_diff (by omega), uM_diff (by omega)]; exact d2
  · rw [rr 35 (by omega) (by omega) (by omega)]; exact d3
  · obtain ⟨ml, m1, m2, m3, m4⟩ := d4 g2 hg2
    by_cases q : g2 = g
    · subst q
      refine ⟨ml + 1, by omega, ?_, ?_, Or.inr ⟨by omega, day, Nat.le_refl _, ?_, ?_⟩⟩
      · rw [uM_same, m3, nI_1]
      · unfold eaR
        rw [if_neg (by omega), if_neg (by omega), if_pos rfl, m3, nI_1]
      · rw [uM_diff (by omega), uM_same, d3]
      · unfold eaR
        rw [if_pos rfl, d3]
    · rw [rr (31 + g2) (by omega) (by omega) (by omega), rr (15 + g2) (by omega) (by omega) (by omega), uM_diff (by omega), uM_diff (by omega), uM_diff (by omega), uM_diff (by omega), uM_diff (by omega), uM_diff (by omega), uM_diff (by omega), uM_diff (by omega), uM_diff (by omega), uM_diff (by omega)]
      exact ⟨ml, by omega, m2, m3, m4⟩
  · rw [rr 36 (by omega) (by omega) (by omega), uM_diff (by omega), uM_diff (by omega), uM_diff (by omega), uM_diff (by omega), uM_diff (by omega)]; exact s1
  · rw [rr 37 (by omega) (by omega) (by omega), uM_diff (by omega), uM_diff (by omega), uM_diff (by omega), uM_diff (by omega), uM_diff (by omega)]; exact s2
  · rw [rr 11 (by omega) (by omega) (by omega), uM_diff (by omega), uM_diff (by omega), uM_diff (by omega), uM_diff (by omega), uM_diff (by omega)]; exact s3
  · rw [rr (12 + j) (by omega) (by omega) (by omega), uM_diff (by omega), uM_diff (by omega), uM_diff (by omega), uM_diff (by omega), uM_diff (by omega)]; exact s4 j hj
  · rw [rr f (by omega) (by omega) (by omega), uM_diff (by omega), uM_diff (by omega), uM_diff (by omega), uM_diff (by omega), uM_diff (by omega)]; exact s5 f hf
  · rw [rr (6 + j) (by omega) (by omega) (by omega), uM_diff (by omega), uM_diff (by omega), uM_diff (by omega), uM_diff (by omega), uM_diff (by omega)]; exact s6 j hj
  · rw [uM_diff (by omega), uM_diff (by omega)]
    by_cases q0 : i = 3 * g
    · rw [q0, uM_diff (by omega), uM_diff (by omega), uM_same]
      unfold eaR
      rw [if_neg (by omega), if_pos (by omega), show 12 + (19 + 3 * g - (19 + 3 * g)) = 12 by omega]
    by_cases q1 : i = 3 * g + 1
    · rw [q1, uM_diff (by omega), uM_same]
      unfold eaR
      rw [if_neg (by omega), if_pos (by omega), show 12 + (19 + (3 * g + 1) - (19 + 3 * g)) = 13 by omega]
    by_cases q2 : i = 3 * g + 2
    · rw [q2, uM_same]
      unfold eaR
      rw [if_neg (by omega), if_pos (by omega), show 12 + (19 + (3 * g + 2) - (19 + 3 * g)) = 14 by omega]
    · rw [uM_diff (by omega), uM_diff (by omega), uM_diff (by omega), rr (19 + i) (by omega) (by omega) (by omega)]
      exact s7 i hi
end DY
end PAR37
end MG14x7
