/-! what a law comes to: a step, a sum -/
section PAR30
def opv (op : Nat) (a b : Int32) : Int32 := if op = 2 then a + b else if op = 3 then a - b else if op = 4 then a * b else a / b
def stp (k v : Int32) (vs : Nat → Int32) (s : List Int32) : Option (List Int32) :=
  if k = 0 then some (v :: s) else if k = 1 then some (vs v.toNatClampNeg :: s) else match s with
  | b :: a :: r => if k = 5 ∧ b = 0 then none else some ((if k = 2 then a + b else if k = 3 then a - b else if k = 4 then a * b else a / b) :: r)
  | _ => none
def evs (N : gM) (c : Nat) (vs : Nat → Int32) : Nat → Option (List Int32)
  | 0 => some []
  | k + 1 => bI (evs N c vs k) (fun s => stp (N 431 (c + k)) (N 432 (c + k)) vs s)
def K6 (k v : Int32) : Prop := k = nI 0 ∨ (k = nI 1 ∧ ∃ x, x < 9 ∧ v = nI x) ∨ ∃ op, 2 ≤ op ∧ op ≤ 5 ∧ k = nI op
def Sgm (N : gM) (c l : Nat) : Prop := vdp N c l = some 1 ∧ (∀ k d, k ≤ l → vdp N c k = some d → d ≤ 16) ∧ ∀ k, k < l → K6 (N 431 (c + k)) (N 432 (c + k))
theorem Cd.k6 {c k v : Int32} (h : Cd c k v) : K6 k v := by
  rcases h with ⟨x, hx, e, _⟩ | ⟨x, hx, e, e2, _⟩ | ⟨e, _⟩ | ⟨e, _⟩ | ⟨e, _⟩ | ⟨e, _⟩
  · exact Or.inl e
  · exact Or.inr (Or.inl ⟨e, x, hx, e2⟩)
  · exact Or.inr (Or.inr ⟨2, by decide, by decide, e⟩)
  · exact Or.inr (Or.inr ⟨3, by decide, by decide, e⟩)
  · exact Or.inr (Or.inr ⟨4, by decide, by decide, e⟩)
  · exact Or.inr (Or.inr ⟨5, by decide, by decide, e⟩)
theorem Sg.sgm {W q c l : Nat} {M N : gM} (h : Sg W q c l M N) : Sgm N c l := ⟨h.2.2.1, h.2.2.2, fun k hk => (h.2.1 k hk).k6⟩
theorem stp_0 {v : Int32} {vs : Nat → Int32} {s : List Int32} : stp (nI 0) v vs s = some (v :: s) := by
  unfold stp; rw [if_pos (show nI 0 = 0 from rfl)]
theorem stp_1 {x : Nat} {vs : Nat → Int32} {s : List Int32} (hx : x < 9) : stp (nI 1) (nI x) vs s = some (vs x :: s) := by
  unfold stp; rw [if_neg (show ¬ nI 1 = 0 by decide), if_pos (show nI 1 = 1 from rfl), nI_clamp (by omega)]
theorem stp_op {op : Nat} {v a b : Int32} {r : List Int32} {vs : Nat → Int32} (h2 : 2 ≤ op) (h5 : op ≤ 5) : stp (nI op) v vs (b :: a :: r) = if op = 5 ∧ b = 0 then none else some (opv op a b :: r) := by
  unfold stp opv
  rw [if_neg (nI_ne0 (by omega) (by omega)), if_neg (fun q => by have := (nI_eq (a := op) (b := 1) (by omega) (by omega)).mp q; omega)]
  rcases (show op = 2 ∨ op = 3 ∨ op = 4 ∨ op = 5 by omega) with e | e | e | e <;> subst e
  · rfl
  · rfl
  · rfl
  · by_cases hb : b = 0
    · subst hb; rfl
    · show (if nI 5 = 5 ∧ b = 0 then none else some ((if nI 5 = 2 then a + b else if nI 5 = 3 then a - b else if nI 5 = 4 then a * b else a / b) :: r)) = if 5 = 5 ∧ b = 0 then none else some ((if 5 = 2 then a + b else if 5 = 3 then a - b else if 5 = 4 then a * b else a / b) :: r)
      rw [if_neg (fun q : nI 5 = 5 ∧ b = 0 => hb q.2), if_neg (fun q : 5 = 5 ∧ b = 0 => hb q.2)]
      rfl
theorem stp_op0 {op : Nat} {v : Int32} {s : List Int32} {vs : Nat → Int32} (h2 : 2 ≤ op) (h5 : op ≤ 5) (hs : s.length < 2) : stp (nI op) v vs s = none := by
  unfold stp
  rw [if_neg (nI_ne0 (by omega) (by omega)), if_neg (fun q => by have := (nI_eq (a := op) (b := 1) (by omega) (by omega)).mp q; omega)]
  match s, hs with
  | [], _ => rfl
  | [x], _ => rfl
theorem vdp_s {N : gM} {c k d : Nat} (h : vdp N c k = some d) : vdp N c (k + 1) = if (N 431 (c + k)).toInt < 2 then some (d + 1) else if 2 ≤ d then some (d - 1) else none := by
  simp only [vdp, h]
theorem evs_len {N : gM} {c l : Nat} {vs : Nat → Int32} (h : Sgm N c l) : ∀ k s, k ≤ l → evs N c vs k = some s → vdp N c k = some s.length := by
  intro k
  induction k with
  | zero => intro s _ hs; cases hs; rfl
  | succ k ih =>
    intro s hk hs
    obtain ⟨s0, h0, h1⟩ := bnd hs
    have hd := ih s0 (by omega) h0
    rw [vdp_s hd]
    rcases h.2.2 k (by omega) with e | ⟨e, x, hx, e2⟩ | ⟨op, h2, h5, e⟩
    · rw [e, stp_0] at h1
      cases h1
      rw [e, if_pos (by decide)]
      rfl
    · rw [e, e2, stp_1 hx] at h1
      cases h1
      rw [e, if_pos (by decide)]
      rfl
    · rw [e] at h1 ⊢
      rw [if_neg (by rw [nI_toInt (by omega)]; omega)]
      match s0, h1 with
      | [], h1 => rw [stp_op0 h2 h5 (by decide)] at h1; cases h1
      | [x], h1 => rw [stp_op0 h2 h5 (by simp)] at h1; cases h1
      | b :: a :: r, h1 =>
        rw [stp_op h2 h5] at h1
        by_cases hb : op = 5 ∧ b = 0
        · rw [if_pos hb] at h1; cases h1
        · rw [if_neg hb] at h1
          cases h1
          rw [if_pos (by simp)]
          rfl
theorem seg_step {N : gM} {c l k : Nat} {vs : Nat → Int32} {s : List Int32} (h : Sgm N c l) (hk : k < l) (hs : evs N c vs k = some s) : s.length ≤ 16 ∧
    ((N 431 (c + k) = nI 0 ∧ evs N c vs (k + 1) = some (N 432 (c + k) :: s)) ∨ (∃ x, x < 9 ∧ N 431 (c + k) = nI 1 ∧ N 432 (c + k) = nI x ∧ evs N c vs (k + 1) = some (vs x :: s)) ∨
     ∃ op a b r, 2 ≤ op ∧ op ≤ 5 ∧ N 431 (c + k) = nI op ∧ s = b :: a :: r ∧ ((op = 5 ∧ b = 0 ∧ evs N c vs (k + 1) = none) ∨ (¬ (op = 5 ∧ b = 0) ∧ evs N c vs (k + 1) = some (opv op a b :: r)))) := by
  have hd := evs_len h k s (by omega) hs
  refine ⟨h.2.1 k _ (by omega) hd, ?_⟩
  have e1 : evs N c vs (k + 1) = stp (N 431 (c + k)) (N 432 (c + k)) vs s := by
    show bI (evs N c vs k) _ = _
    rw [hs, bI_s]
  rcases h.2.2 k hk with e | ⟨e, x, hx, e2⟩ | ⟨op, h2, h5, e⟩
  · exact Or.inl ⟨e, by rw [e1, e, stp_0]⟩
  · exact Or.inr (Or.inl ⟨x, hx, e, e2, by rw [e1, e, e2, stp_1 hx]⟩)
  · refine Or.inr (Or.inr ?_)
    have hn : vdp N c (k + 1) ≠ none := vdp_pre (l - (k + 1)) (by rw [show k + 1 + (l - (k + 1)) = l by omega, h.1]; exact fun q => by cases q)
    rw [vdp_s hd, e, if_neg (by rw [nI_toInt (by omega)]; omega)] at hn
    match s, hn, e1 with
    | [], hn, _ => simp at hn
    | [x], hn, _ => simp at hn
    | b :: a :: r, _, e1 =>
      refine ⟨op, a, b, r, h2, h5, e, rfl, ?_⟩
      rw [e1, e, stp_op h2 h5]
      by_cases hb : op = 5 ∧ b = 0
      · exact Or.inl ⟨hb.1, hb.2, by rw [if_pos hb]⟩
      · exact Or.inr ⟨hb, by rw [if_neg hb]⟩
theorem evs_none {N : gM} {c k : Nat} {vs : Nat → Int32} (h : evs N c vs k = none) : ∀ j, evs N c vs (k + j) = none := by
  intro j
  induction j with
  | zero => exact h
  | succ j ih =>
    show bI (evs N c vs (k + j)) _ = none
    rw [ih]; rfl
/-- a stack lies in a row, from b on -/
def Sk (M : gM) (c b : Nat) : List Int32 → Prop
  | [] => True
  | x :: r => M c (b + r.length) = x ∧ Sk M c b r
theorem Sk.u {M : gM} {c b i : Nat} {x : Int32} : ∀ {s : List Int32}, Sk M c b s → b + s.length ≤ i → Sk (uM M c i x) c b s
  | [], _, _ => trivial
  | y :: r, h, hi => by
    have hl : (y :: r).length = r.length + 1 := rfl
    exact ⟨by rw [uM_diff (by omega)]; exact h.1, h.2.u (by omega)⟩
theorem Sk.o {M M' : gM} {c b : Nat} : ∀ {s : List Int32}, Sk M c b s → (∀ i, M' c i = M c i) → Sk M' c b s
  | [], _, _ => trivial
  | _ :: _, h, e => ⟨(e _).trans h.1, h.2.o e⟩
theorem Sk.push {M : gM} {c b : Nat} {s : List Int32} {x : Int32} (h : Sk M c b s) : Sk (uM M c (b + s.length) x) c b (x :: s) := ⟨uM_same, h.u (Nat.le_refl _)⟩
theorem nI_m1 (n : Nat) : nI (n + 1) + (-1) = nI n := by
  rw [← nI_1, Int32.add_assoc, show (1 : Int32) + -1 = 0 by decide, Int32.add_zero]
theorem nI_m2 (n : Nat) : nI (n + 2) + (-2) = nI n := by
  rw [← nI_add, Int32.add_assoc, show nI 2 + -2 = 0 by decide, Int32.add_zero]
theorem nI_m2' (n : Nat) : nI (n + 2) + -(nI 2) = nI n := nI_m2 n
/-- a step of the model -/
theorem m_step {N M : gM} {c l k : Nat} {vs : Nat → Int32} {s : List Int32} (h : Sgm N c l) (hc : c + l ≤ 840) (hk : k < l) (hs : evs N c vs k = some s) (hM : ∀ j, M 431 j = N 431 j ∧ M 432 j = N 432 j) (hv : ∀ i, i < 9 → M 434 i = vs i) (hS : Sk M 435 0 s) (K5 : Int32 → Int32 → gM → Option (Int32 × gM)) :
    (∃ s' M', evs N c vs (k + 1) = some s' ∧ B_Mod_termOf_5 (nI (c + l)) K5 (nI s.length) (nI (c + k)) M = K5 (nI s'.length) (nI (c + (k + 1))) M' ∧ Sk M' 435 0 s' ∧ Eo (fun c _ => c = 435) M M') ∨
    (evs N c vs (k + 1) = none ∧ B_Mod_termOf_5 (nI (c + l)) K5 (nI s.length) (nI (c + k)) M = some (0, uM M 401 51 1)) := by
  obtain ⟨h16, hst⟩ := seg_step h hk hs
  unfold B_Mod_termOf_5
  rw [if_neg (by rw [nI_leI (by omega) (by omega)]; omega), if_neg (nI_in (by omega) (by omega)), nI_clamp (by omega), nmI_e, (hM (c + k)).1, (hM (c + k)).2]
  have push : ∀ x : Int32, J_Mod_termOf_58 K5 (nI (c + l)) (nI s.length) (nI (c + k)) (nI s.length) x M = K5 (nI (x :: s).length) (nI (c + (k + 1))) (uM M 435 (0 + s.length) x) := fun x => by
    unfold J_Mod_termOf_58 J_Mod_termOf_159
    rw [if_neg (nI_in (by omega) (by omega)), nI_clamp (by omega), nmM_e, nmI_e, nI_1, nmI_e, nI_1, Nat.zero_add]
    rfl
  rcases hst with ⟨e, e2⟩ | ⟨x, hx, e, e2, e3⟩ | ⟨op, a, b, r, h2, h5, e, rfl, hst⟩
  · refine Or.inl ⟨_, _, e2, ?_, hS.push, Eo.rf.u rfl⟩
    rw [e, if_neg (show ¬ (2 : Int32) ≤ nI 0 by decide), if_pos (show nI 0 = 0 from rfl), if_neg (nI_inc (by omega) (by omega)), push]
  · refine Or.inl ⟨_, _, e3, ?_, hS.push, Eo.rf.u rfl⟩
    rw [e, e2, if_neg (show ¬ (2 : Int32) ≤ nI 1 by decide), if_neg (show ¬ nI 1 = 0 by decide), if_neg (nI_inc (by omega) (by omega)), if_neg (nI_in (by omega) (by omega)), nI_clamp (by omega), hv x hx, push]
  · have hl : (b :: a :: r).length = r.length + 1 + 1 := rfl
    have ea : M 435 r.length = a := by have := hS.2.1; rw [Nat.zero_add] at this; exact this
    have eb : M 435 (r.length + 1) = b := by have := hS.1; rw [Nat.zero_add] at this; exact this
    rw [e, if_pos (show (2 : Int32) ≤ nI op by rw [show (2 : Int32) = nI 2 from rfl, nI_leI (by omega) (by omega)]; exact h2), nmI_e, hl, nI_m1, show (1 : Int32) = nI 1 from rfl, nI_sub (by omega), Nat.add_sub_cancel, if_neg (nI_in (by omega) (by omega)), nI_clamp (by omega), nmI_e, ea, if_neg (nI_in (by omega) (by omega)), nI_clamp (by omega), nmI_e, eb]
    have e5 : (nI op = 5) ↔ op = 5 := nI_eq (by omega) (by decide)
    have fin : ¬ (op = 5 ∧ b = 0) → J_Mod_termOf_104 K5 (nI (c + l)) (nI (r.length + 1)) (nI (c + k)) (nI op) a b M = K5 (nI (opv op a b :: r).length) (nI (c + (k + 1))) (uM M 435 (0 + r.length) (opv op a b)) := fun hn => by
      have j158 : ∀ x : Int32, J_Mod_termOf_158 K5 (nI (c + l)) (nI (r.length + 1)) (nI (c + k)) (nI r.length) x M = K5 (nI (x :: r).length) (nI (c + (k + 1))) (uM M 435 (0 + r.length) x) := fun x => by
        unfold J_Mod_termOf_158 J_Mod_termOf_159
        rw [if_neg (nI_in (by omega) (by omega)), nI_clamp (by omega), nmM_e, nmI_e, nI_1, Nat.zero_add]
        rfl
      unfold J_Mod_termOf_104
      rw [show (1 : Int32) = nI 1 from rfl, nI_sub (by omega), Nat.add_sub_cancel]
      rcases (show op = 2 ∨ op = 3 ∨ op = 4 ∨ op = 5 by omega) with q | q | q | q <;> subst q
      · rw [if_pos (show nI 2 = 2 from rfl)]; exact j158 _
      · rw [if_neg (show ¬ nI 3 = 2 by decide), if_pos (show nI 3 = 3 from rfl)]; exact j158 _
      · rw [if_neg (show ¬ nI 4 = 2 by decide), if_neg (show ¬ nI 4 = 3 by decide), if_pos (show nI 4 = 4 from rfl)]; exact j158 _
      · rw [if_neg (show ¬ nI 5 = 2 by decide), if_neg (show ¬ nI 5 = 3 by decide), if_neg (show ¬ nI 5 = 4 by decide), if_neg (fun q => hn ⟨rfl, q⟩)]; exact j158 _
    rcases hst with ⟨h1, hb, e3⟩ | ⟨hn, e3⟩
    · refine Or.inr ⟨e3, ?_⟩
      rw [if_pos (e5.mpr h1), if_pos hb]
      rfl
    · refine Or.inl ⟨_, uM M 435 (0 + r.length) (opv op a b), e3, ?_, Sk.push hS.2.2, Eo.rf.u rfl⟩
      by_cases h1 : op = 5
      · rw [if_pos (e5.mpr h1), if_neg (fun q => hn ⟨h1, q⟩)]; exact fin hn
      · rw [if_neg (fun q => h1 (e5.mp q))]; exact fin hn
/-- a sum of the model -/
theorem m_term {N : gM} {c l : Nat} {vs : Nat → Int32} (h : Sgm N c l) (hc : c + l ≤ 840) : ∀ (d k f : Nat) (M : gM) (s : List Int32), k + d = l → evs N c vs k = some s → (∀ j, M 431 j = N 431 j ∧ M 432 j = N 432 j) → (∀ i, i < 9 → M 434 i = vs i) → Sk M 435 0 s →
    ∃ r M', H_Mod_termOf_5 (nI (c + l)) (f + 1 + d) (nI s.length) (nI (c + k)) M = some (r, M') ∧ Eo (fun c j => c = 435 ∨ (c = 401 ∧ j = 51)) M M' ∧ ((∃ x, evs N c vs l = some [x] ∧ r = x ∧ M' 401 51 = M 401 51) ∨ (evs N c vs l = none ∧ r = 0 ∧ M' 401 51 = 1)) := by
  intro d
  induction d with
  | zero =>
    intro k f M s hk hs hM hv hS
    obtain rfl : k = l := by omega
    have hd := evs_len h k s (Nat.le_refl _) hs
    rw [h.1] at hd
    match s, hd, hs, hS with
    | [x], _, hs, hS =>
      refine ⟨x, M, ?_, Eo.rf, Or.inl ⟨x, hs, rfl, rfl⟩⟩
      show B_Mod_termOf_5 (nI (c + k)) (H_Mod_termOf_5 (nI (c + k)) f) (nI 1) (nI (c + k)) M = _
      unfold B_Mod_termOf_5 J_Mod_termOf_165
      rw [if_pos (by rw [nI_leI (by omega) (by omega)]; omega)]
      have := hS.1
      rw [show (0 : Nat) + ([] : List Int32).length = 0 from rfl] at this
      rw [this]
    | [], hd, _, _ => simp at hd
    | _ :: _ :: _, hd, _, _ => simp at hd
  | succ d ih =>
    intro k f M s hk hs hM hv hS
    show ∃ r M', B_Mod_termOf_5 (nI (c + l)) (H_Mod_termOf_5 (nI (c + l)) (f + 1 + d)) (nI s.length) (nI (c + k)) M = some (r, M') ∧ _
    rcases m_step h hc (by omega) hs hM hv hS (H_Mod_termOf_5 (nI (c + l)) (f + 1 + d)) with ⟨s', M1, e1, e2, e3, e4⟩ | ⟨e1, e2⟩
    · rw [e2]
      obtain ⟨r, M', y1, y2, y3⟩ := ih (k + 1) f M1 s' (by omega) e1 (fun j => by rw [e4 431 j (by omega), e4 432 j (by omega)]; exact hM j) (fun i hi => by rw [e4 434 i (by omega)]; exact hv i hi) e3
      refine ⟨r, M', y1, (e4.mono (fun _ _ q => Or.inl q)).tr y2, ?_⟩
      rw [← e4 401 51 (by omega)]
      exact y3
    · rw [e2]
      exact ⟨0, _, rfl, Eo.rf.u (Or.inr ⟨rfl, rfl⟩), Or.inr ⟨by rw [← hk, show k + (d + 1) = k + 1 + d by omega]; exact evs_none e1 d, rfl, uM_same⟩⟩
theorem f_termOf {N M : gM} {c l : Nat} {vs : Nat → Int32} (h : Sgm N c l) (hc : c + l ≤ 840) (hM : ∀ j, M 431 j = N 431 j ∧ M 432 j = N 432 j) (hv : ∀ i, i < 9 → M 434 i = vs i) :
    ∃ r M', F_Mod_termOf (nI c) (nI (c + l)) M = some (r, M') ∧ Eo (fun c j => c = 435 ∨ (c = 401 ∧ j = 51)) M M' ∧ ((∃ x, evs N c vs l = some [x] ∧ r = x ∧ M' 401 51 = M 401 51) ∨ (evs N c vs l = none ∧ r = 0 ∧ M' 401 51 = 1)) := by
  unfold F_Mod_termOf
  obtain ⟨g, hg⟩ := FU_k (1 + l) (by omega)
  rw [hg, ← Nat.add_assoc]
  exact m_term h hc l 0 g M [] (Nat.zero_add _) rfl hM hv trivial
/-- a step of the class -/
theorem c_step {N M : gM} {W q c l k b st len : Nat} {vs : Nat → Int32} {s : List Int32} (h : Sgm N c l) (hC : ∀ k, k < l → Cd (M (W + 1) (q + k)) (N 431 (c + k)) (N 432 (c + k))) (hlen : M W 1 = nI len) (hq : q + l ≤ len) (h400 : len ≤ 400) (hst : st ≤ q + k) (hb1 : b ≤ 1) (hk : k < l) (hs : evs N c vs k = some s) (hv : ∀ i, i < 9 → M (W + 2) i = vs i) (hS : Sk M (W + 3) b s) (K : Int32 → Int32 → Int32 → gM → Option (Int32 × gM)) :
    (∃ s' M', evs N c vs (k + 1) = some s' ∧ B_Law_value_6 W K (nI (b + s.length)) (nI (q + k)) (nI st) M = K (nI (b + s'.length)) (nI (q + (k + 1))) (nI (st + 1)) M' ∧ Sk M' (W + 3) b s' ∧ Eo (fun c j => c = W + 3 ∧ b ≤ j) M M') ∨
    (evs N c vs (k + 1) = none ∧ B_Law_value_6 W K (nI (b + s.length)) (nI (q + k)) (nI st) M = some (0, M)) := by
  obtain ⟨h16, hst2⟩ := seg_step h hk hs
  have e400 : (400 : Int32) = nI 400 := rfl
  unfold B_Law_value_6
  rw [e400, if_neg (by rw [nI_leI (by omega) (by omega)]; omega), if_neg (nI_pos (by omega)), hlen, if_neg (by rw [nI_leI (by omega) (by omega)]; omega), if_neg (by rw [nI_leI (by omega) (by omega)]; omega), if_neg (nI_in (by omega) (by omega)), nI_clamp (by omega), nmI_e, nmI_e, nI_1]
  have push : ∀ x : Int32, J_Law_value_110 W K (nI (b + s.length)) (nI (q + k + 1)) (nI st) (nI (b + s.length)) x M = K (nI (b + (x :: s).length)) (nI (q + (k + 1))) (nI (st + 1)) (uM M (W + 3) (b + s.length) x) := fun x => by
    unfold J_Law_value_110 J_Law_value_226
    rw [if_neg (nI_in (by omega) (by omega)), nI_clamp (by omega), nmM_e, nmI_e, nI_1, nmI_e, nI_1]
    rfl
  have e20k : (20000 : Int32) = nI 20000 := rfl
  have e10k : (10000 : Int32) = nI 10000 := rfl
  have e59 : (20059 : Int32) = nI 20059 := rfl
  have e60 : (20060 : Int32) = nI 20060 := rfl
  have e47 : (20047 : Int32) = nI 20047 := rfl
  have e32 : (32 : Int32) = nI 32 := rfl
  have e2' : (2 : Int32) = nI 2 := rfl
  have ne : ∀ a b : Nat, a < 2 ^ 31 → b < 2 ^ 31 → a ≠ b → ¬ nI a = nI b := fun a b ha hb hn w => hn ((nI_eq ha hb).mp w)
  have hcd := hC k hk
  rcases hst2 with ⟨e, e2⟩ | ⟨x, hx, e, e2, e3⟩ | ⟨op, a, bb, r, h2, h5, e, rfl, hst2⟩
  · rcases hcd with ⟨x, hx, _, w2, w3⟩ | ⟨x, hx, w1, _⟩ | ⟨w1, _⟩ | ⟨w1, _⟩ | ⟨w1, _⟩ | ⟨w1, _⟩
    · refine Or.inl ⟨_, uM M (W + 3) (b + s.length) (nI x), e2, ?_, by rw [w2]; exact hS.push, Eo.rf.u ⟨rfl, by omega⟩⟩
      rw [w3, e59, if_neg (ne _ _ (by omega) (by omega) (by omega)), e20k, if_neg (by rw [nI_leI (by omega) (by omega)]; omega), if_neg (nI_pos (by omega)), e32, if_pos (by rw [nI_ltI (by omega) (by omega)]; omega), e10k, if_neg (by rw [nI_leI (by omega) (by omega)]; omega), push, w2]
    all_goals exact absurd (w1.symm.trans e) (by decide)
  · rcases hcd with ⟨x2, hx2, w1, _⟩ | ⟨x2, hx2, _, w2, w3⟩ | ⟨w1, _⟩ | ⟨w1, _⟩ | ⟨w1, _⟩ | ⟨w1, _⟩
    · exact absurd (w1.symm.trans e) (by decide)
    · have ex : x2 = x := (nI_eq (by omega) (by omega)).mp (w2.symm.trans e2)
      subst ex
      refine Or.inl ⟨_, uM M (W + 3) (b + s.length) (vs x2), e3, ?_, hS.push, Eo.rf.u ⟨rfl, by omega⟩⟩
      rw [w3, e59, if_neg (ne _ _ (by omega) (by omega) (by omega)), e20k, if_neg (by rw [nI_leI (by omega) (by omega)]; omega), if_neg (nI_pos (by omega)), e32, if_pos (by rw [nI_ltI (by omega) (by omega)]; omega), e10k, if_pos (by rw [nI_leI (by omega) (by omega)]; omega), nI_sub (by omega), Nat.add_sub_cancel_left, s_at (by omega) (by decide), bI_s, hv x2 hx, push]
    all_goals exact absurd (w1.symm.trans e) (by decide)
  · have hl : (bb :: a :: r).length = r.length + 2 := rfl
    have ea : M (W + 3) (b + r.length) = a := hS.2.1
    have eb : M (W + 3) (b + (r.length + 1)) = bb := hS.1
    obtain ⟨ch, hch, hcell⟩ : ∃ ch, ((op = 2 ∧ ch = 43) ∨ (op = 3 ∧ ch = 45) ∨ (op = 4 ∧ ch = 42) ∨ (op = 5 ∧ ch = 47)) ∧ M (W + 1) (q + k) = nI (20000 + ch) := by
      rcases hcd with ⟨x, hx, w1, _⟩ | ⟨x, hx, w1, _⟩ | ⟨w1, w2⟩ | ⟨w1, w2⟩ | ⟨w1, w2⟩ | ⟨w1, w2⟩
      · exact absurd (w1.symm.trans e) (ne _ _ (by omega) (by omega) (by omega))
      · exact absurd (w1.symm.trans e) (ne _ _ (by omega) (by omega) (by omega))
      · exact ⟨43, Or.inl ⟨((nI_eq (by omega) (by omega)).mp (w1.symm.trans e)).symm, rfl⟩, w2⟩
      · exact ⟨45, Or.inr (Or.inl ⟨((nI_eq (by omega) (by omega)).mp (w1.symm.trans e)).symm, rfl⟩), w2⟩
      · exact ⟨42, Or.inr (Or.inr (Or.inl ⟨((nI_eq (by omega) (by omega)).mp (w1.symm.trans e)).symm, rfl⟩)), w2⟩
      · exact ⟨47, Or.inr (Or.inr (Or.inr ⟨((nI_eq (by omega) (by omega)).mp (w1.symm.trans e)).symm, rfl⟩)), w2⟩
    have hch2 : ch ≤ 47 ∧ 42 ≤ ch := by omega
    rw [hcell, e59, if_neg (ne _ _ (by omega) (by omega) (by omega)), e20k, if_pos (by rw [nI_leI (by omega) (by omega)]; omega), hl, e2', if_neg (by rw [nI_ltI (by omega) (by omega)]; omega), e32, if_pos (by rw [nI_leI (by omega) (by omega)]; omega), nI_sub (by omega), show b + (r.length + 2) - 2 = b + r.length by omega, if_neg (nI_in (by omega) (by omega)), nI_clamp (by omega), nmI_e, ea, show (1 : Int32) = nI 1 from rfl, nI_sub (by omega), show b + (r.length + 2) - 1 = b + (r.length + 1) by omega, if_neg (nI_in (by omega) (by omega)), nI_clamp (by omega), nmI_e, eb, nmI_e, show b + (r.length + 2) = b + r.length + 2 by omega, nI_m2', e60, if_neg (ne _ _ (by omega) (by omega) (by omega))]
    have fin : ¬ (op = 5 ∧ bb = 0) → J_Law_value_204 W K (nI (b + r.length)) (nI (q + k + 1)) (nI st) (nI (20000 + ch)) a bb M = K (nI (b + (opv op a bb :: r).length)) (nI (q + (k + 1))) (nI (st + 1)) (uM M (W + 3) (b + r.length) (opv op a bb)) := fun hn => by
      unfold J_Law_value_204 J_Law_value_226
      have hr : F_Law_reckon (nI (20000 + ch) - 20000) a bb = some (opv op a bb) := by
        rw [e20k, nI_sub (by omega), Nat.add_sub_cancel_left]
        unfold F_Law_reckon opv
        rcases hch with ⟨q1, q2⟩ | ⟨q1, q2⟩ | ⟨q1, q2⟩ | ⟨q1, q2⟩ <;> subst q1 <;> subst q2
        · rfl
        · rfl
        · rfl
        · rw [if_neg (show ¬ nI 47 = 42 by decide), if_neg (show ¬ nI 47 = 43 by decide), if_neg (show ¬ nI 47 = 44 by decide), if_neg (show ¬ nI 47 = 45 by decide), if_neg (fun w => hn ⟨rfl, w⟩), if_neg (fun w => hn ⟨rfl, w⟩)]
          rfl
      rw [hr, bI_s, if_neg (nI_in (by omega) (by omega)), nI_clamp (by omega), nmM_e, nmI_e, nI_1, nmI_e, nI_1]
      rfl
    have e5 : nI (20000 + ch) = nI 20047 ↔ op = 5 := by
      rw [nI_eq (by omega) (by omega)]
      omega
    rw [e47]
    rcases hst2 with ⟨h1, hb, e3⟩ | ⟨hn, e3⟩
    · refine Or.inr ⟨e3, ?_⟩
      rw [if_pos (e5.mpr h1), if_pos hb]
    · refine Or.inl ⟨_, uM M (W + 3) (b + r.length) (opv op a bb), e3, ?_, Sk.push hS.2.2, Eo.rf.u ⟨rfl, by omega⟩⟩
      by_cases h1 : op = 5
      · rw [if_pos (e5.mpr h1), if_neg (fun w => hn ⟨h1, w⟩)]; exact fin hn
      · rw [if_neg (fun w => h1 (e5.mp w))]; exact fin hn
/-- a sum of the class -/
theorem c_seg {N : gM} {W q c l b len : Nat} {vs : Nat → Int32} (h : Sgm N c l) (hq : q + l ≤ len) (h400 : len ≤ 400) (hb1 : b ≤ 1) : ∀ (d k f st : Nat) (M : gM) (s : List Int32), k + d = l → evs N c vs k = some s → st ≤ q + k → (∀ k, k < l → Cd (M (W + 1) (q + k)) (N 431 (c + k)) (N 432 (c + k))) → M W 1 = nI len → (∀ i, i < 9 → M (W + 2) i = vs i) → Sk M (W + 3) b s →
    (∃ x M', evs N c vs l = some [x] ∧ H_Law_value_6 W (f + d) (nI (b + s.length)) (nI (q + k)) (nI st) M = H_Law_value_6 W f (nI (b + 1)) (nI (q + l)) (nI (st + d)) M' ∧ M' (W + 3) b = x ∧ Eo (fun c j => c = W + 3 ∧ b ≤ j) M M') ∨
    (∃ M', evs N c vs l = none ∧ H_Law_value_6 W (f + d) (nI (b + s.length)) (nI (q + k)) (nI st) M = some (0, M') ∧ Eo (fun c j => c = W + 3 ∧ b ≤ j) M M') := by
  intro d
  induction d with
  | zero =>
    intro k f st M s hk hs hst hC hlen hv hS
    obtain rfl : k = l := by omega
    have hd := evs_len h k s (Nat.le_refl _) hs
    rw [h.1] at hd
    match s, hd, hs, hS with
    | [x], _, hs, hS => exact Or.inl ⟨x, M, hs, rfl, hS.1, Eo.rf⟩
    | [], hd, _, _ => simp at hd
    | _ :: _ :: _, hd, _, _ => simp at hd
  | succ d ih =>
    intro k f st M s hk hs hst hC hlen hv hS
    have e0 : H_Law_value_6 W (f + (d + 1)) (nI (b + s.length)) (nI (q + k)) (nI st) M = B_Law_value_6 W (H_Law_value_6 W (f + d)) (nI (b + s.length)) (nI (q + k)) (nI st) M := rfl
    rw [e0]
    rcases c_step h hC hlen hq h400 hst hb1 (by omega) hs hv hS (H_Law_value_6 W (f + d)) with ⟨s', M1, e1, e2, e3, e4⟩ | ⟨e1, e2⟩
    · rw [e2]
      have r := ih (k + 1) f (st + 1) M1 s' (by omega) e1 (by omega) (fun j hj => by rw [e4 _ _ (by omega)]; exact hC j hj) (by rw [e4 _ _ (by omega)]; exact hlen) (fun i hi => by rw [e4 _ _ (by omega)]; exact hv i hi) e3
      rw [show st + 1 + d = st + (d + 1) by omega] at r
      rcases r with ⟨x, M', y1, y2, y3, y4⟩ | ⟨M', y1, y2, y4⟩
      · exact Or.inl ⟨x, M', y1, y2, y3, e4.tr y4⟩
      · exact Or.inr ⟨M', y1, y2, e4.tr y4⟩
    · rw [e2]
      exact Or.inr ⟨M, by rw [← hk, show k + (d + 1) = k + 1 + d by omega]; exact evs_none e1 d, rfl, Eo.rf⟩
end PAR30
