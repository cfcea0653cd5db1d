section MG11x0
/-! both parsers side by side: M, L the class's memory, N, K the model's -/
def kdom (k : Nat) : Prop := k ≤ 3 ∨ isSg k = true ∨ (128 ≤ k ∧ k < 149)
theorem kwk_dom {l : List Nat} : kdom (kwk l) := by
  unfold kwk
  by_cases h : kwF l 21 0 < 21
  · rw [if_pos h]; exact Or.inr (Or.inr ⟨by omega, by omega⟩)
  · rw [if_neg h]; exact Or.inl (by decide)
theorem tkK_dom {b : Nat → Nat} {n i : Nat} : kdom (tkK b n i) := by
  have h1 : kdom 1 := Or.inl (by decide)
  unfold tkK tokAt
  split
  · exact (Or.inl (by decide) : kdom 0)
  · split
    · show kdom (if _ then kwk _ else 1)
      split
      · exact kwk_dom
      · exact h1
    · split
      · show kdom (if _ then 3 else 1)
        split
        · exact (Or.inl (by decide) : kdom 3)
        · exact h1
      · show kdom (if _ then _ else 1)
        split
        · next h => exact Or.inr (Or.inl h)
        · exact h1
theorem kdom_le {k : Nat} (h : kdom k) : k ≤ 148 := by
  rcases h with h | h | h
  · omega
  · rcases Nat.lt_or_ge k 149 with g | g
    · omega
    · have e : ∀ c, isSg c = true → c ≤ 61 := by
        intro c hc
        simp only [isSg, Bool.or_eq_true, beq_iff_eq] at hc
        omega
      have := e k h; omega
  · omega
def kdomB (k : Nat) : Bool := decide (k ≤ 3) || isSg k || (decide (128 ≤ k) && decide (k < 149))
theorem kdomB_iff {k : Nat} : kdomB k = true ↔ kdom k := by unfold kdomB kdom; simp only [Bool.or_eq_true, Bool.and_eq_true, decide_eq_true_eq, or_assoc]
theorem phi_le {k : Nat} (h : k ≤ 148) : phi k ≤ 40 := (by decide +kernel : ∀ k, k < 149 → phi k ≤ 40) k (by omega)
theorem phi_inj {a c : Nat} (ha : kdom a) (hc : kdom c) : phi a = phi c ↔ a = c := by
  constructor
  · have h1 := kdom_le ha
    have h2 := kdom_le hc
    exact (by decide +kernel : ∀ a, a < 149 → ∀ c, c < 149 → kdomB a = true → kdomB c = true → phi a = phi c → a = c) a (by omega) c (by omega) (kdomB_iff.mpr ha) (kdomB_iff.mpr hc)
  · intro e; rw [e]
section PAR
variable {b : Nat → Nat} {n m : Nat}
/-- the tokens, for both -/
def Tk (b : Nat → Nat) (n m : Nat) (M : gM) (L : gL) (N : gM) (K : gL) : Prop := isLast b n m ∧ Ck b n m M L ∧ Ckm b n (m + 1) N K ∧ n ≤ 2000
def Lv (m t : Nat) (M N : gM) : Prop := M 3 1 = nI t ∧ M 3 2 = 0 ∧ N 401 11 = nI t ∧ N 401 13 = 0 ∧ t ≤ m
def Dd (b : Nat → Nat) (n m : Nat) (M N : gM) : Prop := ∃ k ft u : Nat, (k = 1 ∨ k = 2) ∧ ft ≤ m ∧ M 3 2 = nI k ∧ M 3 3 = nI ft ∧ N 401 13 = nI k ∧ N 401 14 = nI (tkF b n ft) ∧ u ≤ 400 ∧ N 401 11 = nI u
theorem tkF_mono {b : Nat → Nat} {n : Nat} : ∀ d i, (∀ j, j < i + d → tkK b n j ≠ 0) → 0 < d → tkF b n i < tkF b n (i + d) := by
  intro d
  induction d with
  | zero => intro i _ h; omega
  | succ d ih =>
    intro i h _
    have step : ∀ i, (∀ j, j < i + 1 → tkK b n j ≠ 0) → tkF b n i < tkF b n (i + 1) := by
      intro i h
      have hP := tkP_le i (fun j hj => h j (by omega))
      have hF := tkF_le hP
      rcases Nat.lt_or_ge (tkF b n i) n with w | w
      · have h2 := tokAt_P (b := b) w
        have h3 := tkF_le (b := b) (n := n) (i := i + 1) (by rw [tkP_s]; exact h2.2)
        rw [tkP_s] at h3
        omega
      · exact absurd (show tkK b n i = 0 by unfold tkK; rw [tokAt_0 w]) (h i (by omega))
    rcases Nat.eq_zero_or_pos d with hd | hd
    · subst hd
      exact step i (fun j hj => h j (by omega))
    · have h1 := ih i (fun j hj => h j (by omega)) hd
      have h2 := step (i + d) (fun j hj => h j (by omega))
      rw [show i + (d + 1) = i + d + 1 by omega]
      omega
theorem Tk.lt {M N : gM} {L K : gL} (h : Tk b n m M L N K) {i j : Nat} (hij : i < j) (hj : j ≤ m) : tkF b n i < tkF b n j := by
  have := tkF_mono (b := b) (n := n) (j - i) i (fun x hx => (h.1.2.1 x (by omega)).1) (by omega)
  rw [show i + (j - i) = j by omega] at this
  exact this
theorem Tk.F31 {M N : gM} {L K : gL} (h : Tk b n m M L N K) {i : Nat} (hi : i ≤ m) : tkF b n i ≤ n := (tkF_le (tkP_le i (fun j hj => (h.1.2.1 j (by omega)).1))).2
theorem Tk.m400 {M N : gM} {L K : gL} (h : Tk b n m M L N K) : m ≤ 400 := h.1.1
/-- the token at t isn't the last one, or it is the 401st -/
theorem Tk.go {M N : gM} {L K : gL} (h : Tk b n m M L N K) {t : Nat} (ht : t ≤ m) (h0 : tkK b n t ≠ 0) (h1 : tkK b n t ≠ 1) : t < m ∨ (t = m ∧ m = 400) := by
  rcases Nat.lt_or_ge t m with w | w
  · exact Or.inl w
  · have e : t = m := by omega
    subst e
    rcases h.1.2.2 with g | g | g
    · exact Or.inr ⟨rfl, g⟩
    · exact absurd g h0
    · exact absurd g h1
theorem Tk.keep {M N M' N' : gM} {L K L' K' : gL} (h : Tk b n m M L N K) (e6 : ∀ j, M' 6 j = M 6 j) (e7 : ∀ j, M' 7 j = M 7 j) (e8 : ∀ j, L' 8 j = L 8 j) (g4 : ∀ j, N' 404 j = N 404 j) (g5 : ∀ j, N' 405 j = N 405 j) (g6 : ∀ j, N' 406 j = N 406 j) (g7 : ∀ j, K' 407 j = K 407 j) : Tk b n m M' L' N' K' :=
  ⟨h.1, fun i hi => by rw [e6, e7, e8]; exact h.2.1 i hi, fun i hi => by rw [g4, g5, g6, g7]; exact h.2.2.1 i hi, h.2.2.2⟩
theorem r_is {M N : gM} {L K : gL} (h : Tk b n m M L N K) {t k : Nat} {kk : Int32} (hkk : kk = nI k) (ht : M 3 1 = nI t) (htm : t ≤ m) (hk : k ≤ 255) : F_Reader_is kk M = some (if tkK b n t = k then 1 else 0) := by
  have hm := h.m400
  have hd := kdom_le (tkK_dom (b := b) (n := n) (i := t))
  subst hkk
  unfold F_Reader_is
  rw [ht, s_at (by omega) (by decide), bI_s, (h.2.1 t htm).1]
  by_cases e : tkK b n t = k
  · rw [if_pos (by rw [e]), if_pos e]
  · rw [if_neg (fun q => e ((nI_eq (by omega) (by omega)).mp q)), if_neg e]
theorem r_kind {M N : gM} {L K : gL} (h : Tk b n m M L N K) {t : Nat} (ht : M 3 1 = nI t) (htm : t ≤ m) : F_Main_at 6 401 (M 3 1) M = some (nI (tkK b n t)) := by
  have hm := h.m400
  rw [ht, s_at (by omega) (by decide), (h.2.1 t htm).1]
theorem q_is {M N : gM} {L K : gL} (h : Tk b n m M L N K) {t k : Nat} {kk : Int32} (hkk : kk = nI (phi k)) (hk : kdom k) (ht : N 401 11 = nI t) (hf : N 401 13 = 0) (htm : t ≤ m) : F_Mod_is kk N = some (if tkK b n t = k then 1 else 0) := by
  have hm := h.m400
  have hd := kdom_le (tkK_dom (b := b) (n := n) (i := t))
  have hp := phi_le hd
  have hp2 := phi_le (kdom_le hk)
  subst hkk
  unfold F_Mod_is
  rw [hf, if_pos rfl, ht, if_neg (nI_in (by omega) (by decide)), nI_clamp (by omega), (h.2.2.1 t (by omega)).1]
  by_cases e : tkK b n t = k
  · rw [if_pos (by rw [e]), if_pos e]
  · rw [if_neg (fun q => e ((phi_inj tkK_dom hk).mp ((nI_eq (by omega) (by omega)).mp q))), if_neg e]
theorem q_isD {N : gM} {kk : Int32} {k : Nat} (hf : N 401 13 = nI k) (hk : k = 1 ∨ k = 2) : F_Mod_is kk N = some 0 := by
  unfold F_Mod_is
  rw [hf, if_neg (nI_ne0 (by omega) (by omega))]
theorem q_failD {N : gM} {kk : Int32} {k : Nat} (hf : N 401 13 = nI k) (hk : k = 1 ∨ k = 2) : F_Mod_fail kk N = some N := by
  unfold F_Mod_fail
  rw [hf, if_neg (nI_nle (by omega) (by omega))]
theorem q_fail {M N : gM} {L K : gL} (h : Tk b n m M L N K) {t : Nat} {kk : Int32} (ht : N 401 11 = nI t) (hf : N 401 13 = 0) (htm : t ≤ m) : F_Mod_fail kk N = some (uM (uM N 401 13 kk) 401 14 (nI (tkF b n t))) := by
  have hm := h.m400
  unfold F_Mod_fail
  rw [hf, if_pos (by decide), nmM_e, uM_diff (by omega), ht, if_neg (nI_in (by omega) (by decide)), nI_clamp (by omega), nmM_e, uM_diff (by omega), (h.2.2.1 t (by omega)).2.1]
theorem r_stop {M : gM} {kk : Int32} {t : Nat} (ht : M 3 1 = nI t) (hf : M 3 2 = 0) : F_Reader_stop kk M = some (uM (uM M 3 2 kk) 3 3 (nI t)) := by
  unfold F_Reader_stop
  rw [hf, if_pos rfl, nmM_e, uM_diff (by omega), ht, nmM_e]
theorem r_stopD {M : gM} {kk : Int32} {k : Nat} (hf : M 3 2 = nI k) (hk : k = 1 ∨ k = 2) : F_Reader_stop kk M = some M := by
  unfold F_Reader_stop
  rw [hf, if_neg (nI_ne0 (by omega) (by omega))]
/-- what the small steps may change -/
def cS (c j : Nat) : Prop := c = 3 ∧ (j = 1 ∨ j = 2 ∨ j = 3)
def mS (c j : Nat) : Prop := c = 401 ∧ (j = 11 ∨ j = 13 ∨ j = 14)
theorem Dd.mk1 {M N : gM} {L K : gL} (h : Tk b n m M L N K) {t k : Nat} (hl : Lv m t M N) (hk : k = 1 ∨ k = 2) : Dd b n m (uM (uM M 3 2 (nI k)) 3 3 (nI t)) (uM (uM N 401 13 (nI k)) 401 14 (nI (tkF b n t))) := by
  have hm := h.m400
  have := hl.2.2.2.2
  exact ⟨k, t, t, hk, hl.2.2.2.2, by rw [uM_diff (by omega), uM_same], uM_same, by rw [uM_diff (by omega), uM_same], uM_same, by omega, by rw [uM_diff (by omega), uM_diff (by omega)]; exact hl.2.2.1⟩
theorem cS_E {M : gM} {k : Int32} {t : Nat} : Eo cS M (uM (uM M 3 2 k) 3 3 (nI t)) := (Eo.rf.u ⟨rfl, by omega⟩).u ⟨rfl, by omega⟩
theorem mS_E {N : gM} {k : Int32} {t : Nat} : Eo mS N (uM (uM N 401 13 k) 401 14 (nI t)) := (Eo.rf.u ⟨rfl, by omega⟩).u ⟨rfl, by omega⟩
theorem p_fail {M N : gM} {L K : gL} {t k : Nat} {kk : Int32} (hkk : kk = nI k) (hk : k = 1 ∨ k = 2) (hl : (Tk b n m M L N K ∧ Lv m t M N) ∨ Dd b n m M N) : ∃ M' N', F_Reader_stop kk M = some M' ∧ F_Mod_fail kk N = some N' ∧ Dd b n m M' N' ∧ Eo mS N N' := by
  subst hkk
  rcases hl with ⟨h, hl⟩ | hd
  · exact ⟨_, _, r_stop hl.1 hl.2.1, q_fail h hl.2.2.1 hl.2.2.2.1 hl.2.2.2.2, Dd.mk1 h hl hk, mS_E⟩
  · obtain ⟨k2, ft, u, a1, a2, a3, a4, a5, a6, a7, a8⟩ := id hd
    exact ⟨M, N, r_stopD a3 a1, q_failD a5 a1, hd, Eo.rf⟩
theorem Lv.nd {M N : gM} {t : Nat} (hl : Lv m t M N) : ¬ Dd b n m M N := by
  rintro ⟨k2, ft, u, a1, a2, a3, a4, a5, a6, a7, a8⟩
  rw [hl.2.1] at a3
  exact nI_ne0 (show 0 < k2 by omega) (by omega) a3.symm
/-- take and goesOn, where the token at t isn't END or BAD -/
theorem p_take {M N : gM} {L K : gL} (h : Tk b n m M L N K) {t : Nat} (hl : Lv m t M N) (h0 : tkK b n t ≠ 0) (h1 : tkK b n t ≠ 1) : ∃ M' N', F_Reader_take M = some M' ∧ F_Mod_goesOn N = some N' ∧ ((Lv m (t + 1) M' N' ∧ Eo cS M M') ∨ Dd b n m M' N') ∧ Eo mS N N' := by
  have hm := h.m400
  have htm := hl.2.2.2.2
  unfold F_Reader_take F_Mod_goesOn
  rcases h.go htm h0 h1 with w | ⟨w, w2⟩
  · refine ⟨uM M 3 1 (nI (t + 1)), uM N 401 11 (nI (t + 1)), ?_, ?_, Or.inl ⟨⟨uM_same, by rw [uM_diff (by omega)]; exact hl.2.1, uM_same, by rw [uM_diff (by omega)]; exact hl.2.2.2.1, by omega⟩, Eo.rf.u ⟨rfl, by omega⟩⟩, Eo.rf.u ⟨rfl, by omega⟩⟩
    · rw [hl.2.1, if_pos rfl, hl.1, if_pos (by rw [show (400 : Int32) = nI 400 from rfl, nI_ltI (by omega) (by omega)]; omega), nmM_e, nI_1]
    · rw [hl.2.2.1, if_neg (fun q => by rw [show (400 : Int32) = nI 400 from rfl, nI_eq (by omega) (by omega)] at q; omega), nmM_e, nI_1]
  · refine ⟨uM (uM M 3 2 2) 3 3 (nI t), uM (uM N 401 13 2) 401 14 (nI (tkF b n t)), ?_, ?_, Or.inr (Dd.mk1 (k := 2) h hl (Or.inr rfl)), mS_E⟩
    · rw [hl.2.1, if_pos rfl, hl.1, if_neg (by rw [show (400 : Int32) = nI 400 from rfl, nI_ltI (by omega) (by omega)]; omega), r_stop hl.1 hl.2.1, bI_s]
    · rw [hl.2.2.1, if_pos (by rw [w, w2]; rfl), q_fail h hl.2.2.1 hl.2.2.2.1 htm, bI_s]
theorem r_takeD {M : gM} {k : Nat} (hf : M 3 2 = nI k) (hk : k = 1 ∨ k = 2) : F_Reader_take M = some M := by
  unfold F_Reader_take
  rw [hf, if_neg (nI_ne0 (by omega) (by omega))]
theorem r_needD {M : gM} {kk : Int32} {k : Nat} (hf : M 3 2 = nI k) (hk : k = 1 ∨ k = 2) : F_Reader_need kk M = some M := by
  obtain ⟨r, f1, -⟩ := tf_Main_at (a1 := 6) (N1 := 401) (p2 := M 3 1) (M := M) (by decide)
  unfold F_Reader_need F_Reader_is
  rw [f1, bI_s]
  by_cases g : r = kk
  · rw [if_pos g, bI_s, if_neg (by decide), r_takeD hf hk, bI_s]
  · rw [if_neg g, bI_s, if_pos rfl, r_stopD hf hk, bI_s]
theorem q_mustD {N : gM} {kk : Int32} {k : Nat} (hf : N 401 13 = nI k) (hk : k = 1 ∨ k = 2) : F_Mod_must kk N = some N := by
  unfold F_Mod_must
  rw [q_isD hf hk, bI_s, if_pos rfl, q_failD hf hk, bI_s]
/-- need and must -/
theorem p_need {M N : gM} {L K : gL} {t k : Nat} {kk kq : Int32} (hkk : kk = nI k) (hkq : kq = nI (phi k)) (hk : kdom k) (h2 : 2 ≤ k) (hl : (Tk b n m M L N K ∧ Lv m t M N) ∨ Dd b n m M N) : ∃ M' N', F_Reader_need kk M = some M' ∧ F_Mod_must kq N = some N' ∧ ((Lv m (t + 1) M' N' ∧ Lv m t M N ∧ tkK b n t = k ∧ Eo cS M M') ∨ Dd b n m M' N') ∧ Eo mS N N' := by
  rcases hl with ⟨h, hl⟩ | hd
  · have hm := h.m400
    unfold F_Reader_need F_Mod_must
    rw [r_is h hkk hl.1 hl.2.2.2.2 (Nat.le_trans (kdom_le hk) (by decide)), bI_s, q_is h hkq hk hl.2.2.1 hl.2.2.2.1 hl.2.2.2.2, bI_s]
    by_cases e : tkK b n t = k
    · rw [if_pos e, if_neg (by decide), if_neg (by decide)]
      obtain ⟨M', N', g1, g2, g4, g6⟩ := p_take h hl (by omega) (by omega)
      rw [g1, bI_s, g2, bI_s]
      refine ⟨M', N', rfl, rfl, ?_, g6⟩
      rcases g4 with g4 | g4
      · exact Or.inl ⟨g4.1, hl, e, g4.2⟩
      · exact Or.inr g4
    · rw [if_neg e, if_pos rfl, if_pos rfl]
      obtain ⟨M', N', g1, g2, g3, g5⟩ := p_fail (k := 1) (kk := 1) rfl (Or.inl rfl) (Or.inl ⟨h, hl⟩)
      rw [g1, bI_s, g2, bI_s]
      exact ⟨M', N', rfl, rfl, Or.inr g3, g5⟩
  · obtain ⟨k2, ft, u, a1, a2, a3, a4, a5, a6, a7, a8⟩ := id hd
    exact ⟨M, N, r_needD a3 a1, q_mustD a5 a1, Or.inr hd, Eo.rf⟩
/-- a late fault -/
def Lt (b : Nat → Nat) (n t lf : Nat) (M N : gM) : Prop := M 3 4 = nI lf ∧ N 401 15 = nI lf ∧ lf ≤ 5 ∧ (lf ≠ 0 → ∃ la, la < t ∧ M 3 5 = nI la ∧ N 401 16 = nI (tkF b n la))
theorem Lt.up {M N M' N' : gM} {t t' lf : Nat} (h : Lt b n t lf M N) (ht : t ≤ t') (e1 : M' 3 4 = M 3 4) (e2 : M' 3 5 = M 3 5) (e3 : N' 401 15 = N 401 15) (e4 : N' 401 16 = N 401 16) : Lt b n t' lf M' N' := by
  refine ⟨by rw [e1]; exact h.1, by rw [e3]; exact h.2.1, h.2.2.1, fun q => ?_⟩
  obtain ⟨la, a1, a2, a3⟩ := h.2.2.2 q
  exact ⟨la, by omega, by rw [e2]; exact a2, by rw [e4]; exact a3⟩
theorem Lt.keep {M N M' N' : gM} {t t' lf : Nat} (h : Lt b n t lf M N) (ht : t ≤ t') (h1 : Eo cS M M') (h2 : Eo mS N N') : Lt b n t' lf M' N' := h.up ht (h1 3 4 (by unfold cS; omega)) (h1 3 5 (by unfold cS; omega)) (h2 401 15 (by unfold mS; omega)) (h2 401 16 (by unfold mS; omega))
def cW (c j : Nat) : Prop := c = 3 ∧ (j = 4 ∨ j = 5)
def mW (c j : Nat) : Prop := c = 401 ∧ (j = 15 ∨ j = 16)
end PAR
end MG11x0
section MG11x1
/-! ints and names in both parsers -/
section PAR2
variable {b : Nat → Nat} {n m : Nat}
theorem enc10_lt : ∀ (k : Nat) (l : List Nat), l.length = k → (∀ c ∈ l, c ≤ 9) → enc 10 l < 10 ^ k := by
  intro k
  induction k with
  | zero => intro l h _; rw [List.length_eq_zero_iff.mp h]; decide
  | succ k ih =>
    intro l h hc
    have hne : l ≠ [] := fun e => by rw [e] at h; simp at h
    rw [← List.dropLast_concat_getLast hne, enc_s, Nat.pow_succ]
    have h1 := ih l.dropLast (by simp; omega) (fun c hm => hc c (List.dropLast_subset l hm))
    have h2 := hc _ (List.getLast_mem hne)
    omega
theorem tkV_lt {i : Nat} (h : tkK b n i = 3) : tkV b n i < 10000 := by
  unfold tkK tokAt at h
  unfold tkV tokAt
  by_cases h1 : n ≤ tkF b n i
  · rw [if_pos h1] at h; exact absurd (show (0 : Nat) = 3 from h) (by decide)
  rw [if_neg h1] at h ⊢
  by_cases h2 : isLe (b (tkF b n i)) = true
  · rw [if_pos h2] at h
    have h : (if rnE isLe b n (tkF b n i) - tkF b n i ≤ 8 then kwk (tokL b n (tkF b n i)) else 1) = 3 := h
    split at h
    · unfold kwk at h; split at h <;> omega
    · omega
  rw [if_neg h2] at h ⊢
  by_cases h3 : isDi (b (tkF b n i)) = true
  · rw [if_pos h3] at h ⊢
    have h : (if rnE isDi b n (tkF b n i) - tkF b n i ≤ 4 then 3 else 1) = 3 := h
    split at h
    · next g =>
      show enc 10 (tokD b n (tkF b n i)) < 10000
      have hl : (tokD b n (tkF b n i)).length = rnE isDi b n (tkF b n i) - tkF b n i := by simp [tokD]
      refine Nat.lt_of_lt_of_le (enc10_lt _ _ hl ?_) (Nat.le_trans (Nat.pow_le_pow_right (by decide) g) (by decide))
      intro c hc
      simp only [tokD, List.mem_map, List.mem_range] at hc
      obtain ⟨j, hj, rfl⟩ := hc
      have := ((rnE_ge (p := isDi) (b := b) (n := n) _ (tkF b n i) rfl).2.2.1 (tkF b n i + j) (by omega) (by omega)).2
      rw [di_iff] at this
      omega
    · omega
  · rw [if_neg h3] at h ⊢
    show 0 < 10000
    decide
theorem tkV_name {i : Nat} (h : tkK b n i = 2) : tkV b n i = enc 32 (tokL b n (tkF b n i)) ∧ (tokL b n (tkF b n i)).length ≤ 8 ∧ ∀ c ∈ tokL b n (tkF b n i), 1 ≤ c ∧ c ≤ 26 := by
  unfold tkK tokAt at h
  unfold tkV tokAt
  by_cases h1 : n ≤ tkF b n i
  · rw [if_pos h1] at h; exact absurd (show (0 : Nat) = 2 from h) (by decide)
  rw [if_neg h1] at h ⊢
  by_cases h2 : isLe (b (tkF b n i)) = true
  · rw [if_pos h2] at h ⊢
    refine ⟨rfl, ?_, lets_ok (Nat.le_refl _)⟩
    have h : (if rnE isLe b n (tkF b n i) - tkF b n i ≤ 8 then kwk (tokL b n (tkF b n i)) else 1) = 2 := h
    split at h
    · next g => show (lets b (tkF b n i) _).length ≤ 8; rw [lets_len]; exact g
    · omega
  rw [if_neg h2] at h ⊢
  by_cases h3 : isDi (b (tkF b n i)) = true
  · rw [if_pos h3] at h
    have h : (if rnE isDi b n (tkF b n i) - tkF b n i ≤ 4 then 3 else 1) = 2 := h
    split at h <;> omega
  · rw [if_neg h3] at h
    have h : (if isSg (b (tkF b n i)) = true then b (tkF b n i) else 1) = 2 := h
    split at h
    · next g => rw [h] at g; exact absurd g (by decide)
    · omega
/-- the late faults of the one, of the other -/
def lateC (lf k t : Nat) (M : gM) : gM := if lf = 0 then uM (uM M 3 4 (nI k)) 3 5 (nI t) else M
def lateM (lf k p : Nat) (N : gM) : gM := if lf = 0 then uM (uM N 401 15 (nI k)) 401 16 (nI p) else N
theorem lateC_E {lf k t : Nat} {M : gM} : Eo cW M (lateC lf k t M) := by
  unfold lateC
  split
  · exact (Eo.rf.u ⟨rfl, by omega⟩).u ⟨rfl, by omega⟩
  · exact Eo.rf
theorem lateM_E {lf k t : Nat} {M : gM} : Eo mW M (lateM lf k t M) := by
  unfold lateM
  split
  · exact (Eo.rf.u ⟨rfl, by omega⟩).u ⟨rfl, by omega⟩
  · exact Eo.rf
theorem r_late {M : gM} {t k lf : Nat} {kk : Int32} (hkk : kk = nI k) (ht : M 3 1 = nI t) (hL : M 3 4 = nI lf) (hlf : lf ≤ 5) : F_Reader_stopLate kk M = some (lateC lf k t M) := by
  subst hkk
  unfold F_Reader_stopLate lateC
  rw [hL]
  by_cases h0 : lf = 0
  · subst h0
    rw [if_pos (by rfl), if_pos rfl, nmM_e, nmM_e, uM_diff (by omega), ht]
  · rw [if_neg (nI_ne0 (by omega) (by omega)), if_neg h0]
theorem q_late {M N : gM} {L K : gL} (h : Tk b n m M L N K) {t k lf : Nat} {kk : Int32} (hkk : kk = nI k) (htm : t ≤ m) (hf : N 401 13 = 0) (hL : N 401 15 = nI lf) (hlf : lf ≤ 5) (hp : lf ≠ 0 → ∃ la, la < t ∧ N 401 16 = nI (tkF b n la)) : F_Mod_wrong kk (nI t) N = some (lateM lf k (tkF b n t) N) := by
  have hm := h.m400
  have hF := h.F31 htm
  have hn := h.2.2.2
  subst hkk
  unfold F_Mod_wrong lateM
  rw [if_neg (nI_in (by omega) (by decide)), nI_clamp (by omega), nmI_e, (h.2.2.1 t (by omega)).2.1, hf, if_neg (by decide), hL]
  by_cases h0 : lf = 0
  · subst h0
    rw [if_pos (by rfl), if_pos rfl]
    unfold J_Mod_wrong_46
    rw [nmM_e, nmM_e]
  · obtain ⟨la, a1, a3⟩ := hp h0
    have hlt := h.lt a1 htm
    rw [if_neg (nI_ne0 (by omega) (by omega)), if_neg h0, a3, if_pos (by rw [nI_ltI (by omega) (by omega)]; exact hlt)]
/-- once more the same late fault at the same token -/
theorem q_late2 {M N : gM} {L K : gL} (h : Tk b n m M L N K) {t k lf : Nat} (hk : 0 < k ∧ k ≤ 5) (htm : t ≤ m) (hf : N 401 13 = 0) (hL : N 401 15 = nI lf) (hlf : lf ≤ 5) (hp : lf ≠ 0 → ∃ la, la < t ∧ N 401 16 = nI (tkF b n la)) : F_Mod_wrong (nI k) (nI t) (lateM lf k (tkF b n t) N) = some (lateM lf k (tkF b n t) N) := by
  have hm := h.m400
  have hF := h.F31 htm
  have hn := h.2.2.2
  by_cases h0 : lf = 0
  · subst h0
    unfold lateM
    rw [if_pos rfl]
    unfold F_Mod_wrong
    rw [if_neg (nI_in (by omega) (by decide)), nI_clamp (by omega), nmI_e, show uM (uM N 401 15 (nI k)) 401 16 (nI (tkF b n t)) 405 t = nI (tkF b n t) by rw [uM_diff (by omega), uM_diff (by omega)]; exact (h.2.2.1 t (by omega)).2.1, show uM (uM N 401 15 (nI k)) 401 16 (nI (tkF b n t)) 401 13 = 0 by rw [uM_diff (by omega), uM_diff (by omega)]; exact hf, if_neg (by decide), show uM (uM N 401 15 (nI k)) 401 16 (nI (tkF b n t)) 401 15 = nI k by rw [uM_diff (by omega), uM_same], if_neg (nI_ne0 (by omega) (by omega)), show uM (uM N 401 15 (nI k)) 401 16 (nI (tkF b n t)) 401 16 = nI (tkF b n t) from uM_same, if_neg (by rw [nI_ltI (by omega) (by omega)]; omega), if_pos rfl, if_neg (by rw [nI_ltI (by omega) (by omega)]; omega)]
  · have e : lateM lf k (tkF b n t) N = N := by unfold lateM; rw [if_neg h0]
    rw [e, q_late h rfl htm hf hL hlf hp, e]
theorem Lt.late {M N M' N' : gM} {t lf k : Nat} (hL : Lt b n t lf M N) (hk : 0 < k ∧ k ≤ 5) (e4 : M' 3 4 = lateC lf k t M 3 4) (e5 : M' 3 5 = lateC lf k t M 3 5) (e15 : N' 401 15 = lateM lf k (tkF b n t) N 401 15) (e16 : N' 401 16 = lateM lf k (tkF b n t) N 401 16) : ∃ lf', lf' ≠ 0 ∧ Lt b n (t + 1) lf' M' N' := by
  by_cases h0 : lf = 0
  · subst h0
    unfold lateC at e4 e5
    unfold lateM at e15 e16
    rw [if_pos rfl] at e4 e5 e15 e16
    refine ⟨k, by omega, ?_, ?_, hk.2, fun _ => ⟨t, by omega, ?_, ?_⟩⟩
    · rw [e4, uM_diff (by omega), uM_same]
    · rw [e15, uM_diff (by omega), uM_same]
    · rw [e5, uM_same]
    · rw [e16, uM_same]
  · unfold lateC at e4 e5
    unfold lateM at e15 e16
    rw [if_neg h0] at e4 e5 e15 e16
    exact ⟨lf, h0, hL.up (by omega) e4 e5 e15 e16⟩
def cI (c j : Nat) : Prop := c = 3 ∧ 1 ≤ j ∧ j ≤ 5
def mI (c j : Nat) : Prop := c = 401 ∧ (j = 11 ∨ j = 13 ∨ j = 14 ∨ j = 15 ∨ j = 16)
theorem cS_cI : ∀ c j, cS c j → cI c j := fun c j h => by unfold cS at h; unfold cI; omega
theorem cW_cI : ∀ c j, cW c j → cI c j := fun c j h => by unfold cW at h; unfold cI; omega
theorem mS_mI : ∀ c j, mS c j → mI c j := fun c j h => by unfold mS at h; unfold mI; omega
theorem mW_mI : ∀ c j, mW c j → mI c j := fun c j h => by unfold mW at h; unfold mI; omega
theorem Lv.keepW {M N M' N' : gM} {t : Nat} (h : Lv m t M N) (h1 : Eo cW M M') (h2 : Eo mW N N') : Lv m t M' N' :=
  ⟨by rw [h1 3 1 (by unfold cW; omega)]; exact h.1, by rw [h1 3 2 (by unfold cW; omega)]; exact h.2.1, by rw [h2 401 11 (by unfold mW; omega)]; exact h.2.2.1, by rw [h2 401 13 (by unfold mW; omega)]; exact h.2.2.2.1, h.2.2.2.2⟩
theorem Tk.eo {M N M' N' : gM} {L K : gL} (h : Tk b n m M L N K) (h1 : Eo cI M M') (h2 : Eo mI N N') : Tk b n m M' L N' K :=
  h.keep (fun j => h1 6 j (by unfold cI; omega)) (fun j => h1 7 j (by unfold cI; omega)) (fun _ => rfl) (fun j => h2 404 j (by unfold mI; omega)) (fun j => h2 405 j (by unfold mI; omega)) (fun j => h2 406 j (by unfold mI; omega)) (fun _ => rfl)
theorem r_value {M N : gM} {L K : gL} (h : Tk b n m M L N K) {t : Nat} (ht : M 3 1 = nI t) (htm : t ≤ m) : F_Tokens_valueAt (M 3 1) L = some (lN (tkV b n t)) := by
  have hm := h.m400
  unfold F_Tokens_valueAt
  rw [ht, if_neg (nI_pos (by omega)), if_neg (by rw [show (401 : Int32) = nI 401 from rfl, nI_leI (by omega) (by omega)]; omega), if_neg (nI_in (by omega) (by decide)), nI_clamp (by omega), (h.2.1 t htm).2.2]
theorem q_boundD {N : gM} {a c : Int32} {k : Nat} (hf : N 401 13 = nI k) (hk : k = 1 ∨ k = 2) : F_Mod_bounded a c N = some (a, N) := by
  unfold F_Mod_bounded J_Mod_bounded_15
  rw [hf, if_pos (by rw [show (0 : Int32) = nI 0 from rfl, nI_ltI (by omega) (by omega)]; omega), q_failD hf hk, bI_s]
/-- takeInt and bounded -/
theorem p_int {M N : gM} {L K : gL} {t mo lf : Nat} {kk : Int32} (hkk : kk = nI mo) (hmo : mo ≤ 9999) (hl : (Tk b n m M L N K ∧ Lv m t M N ∧ Lt b n t lf M N) ∨ Dd b n m M N) : ∃ r M' r' N', F_Reader_takeInt kk M L = some (r, M') ∧ F_Mod_bounded 0 kk N = some (r', N') ∧
    ((Lv m (t + 1) M' N' ∧ tkK b n t = 3 ∧ r = nI (tkV b n t) ∧ r' = nI (tkV b n t) ∧ (∃ lf', Lt b n (t + 1) lf' M' N' ∧ (lf' = 0 → lf = 0 ∧ tkV b n t ≤ mo)) ∧ Eo cI M M') ∨ Dd b n m M' N') ∧ Eo mI N N' := by
  rcases hl with ⟨h, hl, hL⟩ | hd
  · subst hkk
    have hm := h.m400
    have htm := hl.2.2.2.2
    unfold F_Reader_takeInt F_Mod_bounded
    rw [r_value h hl.1 htm, bI_s, nmI_e, lN_i, r_is h (k := 3) (kk := 3) rfl hl.1 htm (by decide), bI_s, hl.2.2.2.1, if_neg (show ¬ (0 : Int32) < 0 by decide), q_is h (k := 3) (kk := 2) rfl (Or.inl (by decide)) hl.2.2.1 hl.2.2.2.1 htm, bI_s]
    by_cases e : tkK b n t = 3
    · have hV := tkV_lt e
      rw [if_pos e, if_neg (show ¬ (1 : Int32) = 0 by decide), if_neg (show ¬ (1 : Int32) = 0 by decide), hl.2.2.1, if_neg (nI_in (by omega) (by decide)), nI_clamp (by omega), nmI_e, (h.2.2.1 t (by omega)).2.2.1 e, if_neg (show ¬ nI (tkV b n t) < 0 from nI_pos (by omega))]
      unfold J_Reader_takeInt_31 J_Mod_bounded_51 J_Mod_bounded_42
      by_cases hv : tkV b n t ≤ mo
      · have hv' : nI (tkV b n t) ≤ nI mo := by rw [nI_leI (by omega) (by omega)]; exact hv
        rw [if_pos hv', if_pos hv']
        obtain ⟨M', N', g1, g2, g4, g6⟩ := p_take h hl (by omega) (by omega)
        have g1' : F_Reader_need 3 M = some M' := by
          unfold F_Reader_need
          rw [r_is h (k := 3) (kk := 3) rfl hl.1 htm (by decide), bI_s, if_pos e, if_neg (by decide), g1, bI_s]
        rw [g1', bI_s, g2, bI_s]
        refine ⟨_, _, _, _, rfl, rfl, ?_, g6.mono mS_mI⟩
        rcases g4 with ⟨a1, a2⟩ | g3
        · exact Or.inl ⟨a1, e, rfl, rfl, ⟨lf, hL.keep (by omega) a2 g6, fun q => ⟨q, hv⟩⟩, a2.mono cS_cI⟩
        · exact Or.inr g3
      · have hv' : ¬ nI (tkV b n t) ≤ nI mo := by rw [nI_leI (by omega) (by omega)]; exact hv
        rw [if_neg hv', if_neg hv', r_late (k := 5) (kk := 5) rfl hl.1 hL.1 hL.2.2.1, bI_s, hl.2.2.1, q_late h (k := 5) (kk := 5) rfl htm hl.2.2.2.1 hL.2.1 hL.2.2.1 (fun q => by obtain ⟨la, a1, a2, a3⟩ := hL.2.2.2 q; exact ⟨la, a1, a3⟩), bI_s]
        have hl1 := hl.keepW (lateC_E (lf := lf) (k := 5) (t := t)) (lateM_E (lf := lf) (k := 5) (t := tkF b n t))
        have hE1 := (lateC_E (lf := lf) (k := 5) (t := t) (M := M)).mono cW_cI
        have hE2 := (lateM_E (lf := lf) (k := 5) (t := tkF b n t) (M := N)).mono mW_mI
        have h1 := h.eo hE1 hE2
        obtain ⟨M', N', g1, g2, g4, g6⟩ := p_take h1 hl1 (by omega) (by omega)
        have g1' : F_Reader_need 3 (lateC lf 5 t M) = some M' := by
          unfold F_Reader_need
          rw [r_is h1 (k := 3) (kk := 3) rfl hl1.1 htm (by decide), bI_s, if_pos e, if_neg (by decide), g1, bI_s]
        rw [g1', bI_s]
        unfold J_Mod_bounded_51
        rw [g2, bI_s]
        refine ⟨_, _, _, _, rfl, rfl, ?_, hE2.tr (g6.mono mS_mI)⟩
        rcases g4 with ⟨a1, a2⟩ | g3
        · obtain ⟨lf', x1, x2⟩ := hL.late (k := 5) (by decide) (a2 3 4 (by unfold cS; omega)) (a2 3 5 (by unfold cS; omega)) (g6 401 15 (by unfold mS; omega)) (g6 401 16 (by unfold mS; omega))
          exact Or.inl ⟨a1, e, rfl, rfl, ⟨lf', x2, fun q => absurd q x1⟩, hE1.tr (a2.mono cS_cI)⟩
        · exact Or.inr g3
    · rw [if_neg e, if_pos (show (0 : Int32) = 0 from rfl), if_pos (show (0 : Int32) = 0 from rfl)]
      unfold J_Reader_takeInt_31 J_Mod_bounded_15
      obtain ⟨M', N', g1, g2, g3, g5⟩ := p_fail (k := 1) (kk := 1) rfl (Or.inl rfl) (Or.inl ⟨h, hl⟩)
      have g1' : F_Reader_need 3 M = some M' := by
        unfold F_Reader_need
        rw [r_is h (k := 3) (kk := 3) rfl hl.1 htm (by decide), bI_s, if_neg e, if_pos rfl, g1, bI_s]
      rw [g1', bI_s, g2, bI_s]
      exact ⟨_, _, _, _, rfl, rfl, Or.inr g3, g5.mono mS_mI⟩
  · obtain ⟨k2, ft, u, a1, a2, a3, a4, a5, a6, a7, a8⟩ := id hd
    obtain ⟨r, M', e1, -, e2⟩ := tq_Reader_takeInt (p1 := kk) (M := M) (L := L)
    have e3 := e2.2.2 (by rw [a3]; exact nI_ne0 (by omega) (by omega))
    exact ⟨r, M', 0, N, e1, q_boundD a5 a1, Or.inr ⟨k2, ft, u, a1, a2, by rw [e3.1]; exact a3, by rw [e3.2]; exact a4, a5, a6, a7, a8⟩, Eo.rf⟩
end PAR2
end MG11x1
section MG11x2
/-! names in both parsers -/
section PAR3
variable {b : Nat → Nat} {n m : Nat}
/-- the first i, from i on, of d, that bears the name w -/
def fxi (l : Nat → List Nat) (w : List Nat) : Nat → Nat → Nat
  | 0, i => i
  | d + 1, i => if l i = w then i else fxi l w d (i + 1)
theorem fxi_le (l : Nat → List Nat) (w : List Nat) : ∀ d i, i ≤ fxi l w d i ∧ fxi l w d i ≤ i + d := by
  intro d
  induction d with
  | zero => intro i; exact ⟨Nat.le_refl _, Nat.le_refl _⟩
  | succ d ih =>
    intro i
    unfold fxi
    split
    · omega
    · have := ih (i + 1); omega
theorem fxi_at {l : Nat → List Nat} {w : List Nat} : ∀ d i, fxi l w d i < i + d → l (fxi l w d i) = w := by
  intro d
  induction d with
  | zero => intro i h; have : fxi l w 0 i = i := rfl; omega
  | succ d ih =>
    intro i h
    unfold fxi at h ⊢
    by_cases he : l i = w
    · rw [if_pos he]; exact he
    · rw [if_neg he] at h ⊢; exact ih (i + 1) (by omega)
theorem fxi_no {l : Nat → List Nat} {w : List Nat} : ∀ d i j, i ≤ j → j < fxi l w d i → l j ≠ w := by
  intro d
  induction d with
  | zero => intro i j h1 h2; have : fxi l w 0 i = i := rfl; omega
  | succ d ih =>
    intro i j h1 h2
    unfold fxi at h2
    by_cases he : l i = w
    · rw [if_pos he] at h2; omega
    · rw [if_neg he] at h2
      rcases Nat.lt_or_ge i j with g | g
      · exact ih (i + 1) j (by omega) h2
      · rw [show j = i by omega]; exact he
def okN (w : List Nat) : Prop := w.length ≤ 8 ∧ ∀ c ∈ w, 1 ≤ c ∧ c ≤ 26
theorem lN32 {u w : List Nat} (hu : okN u) (hw : okN w) : (lg_cmp (lN (enc 32 u)) (lN (enc 32 w)) = 0) ↔ u = w := by
  rw [lg_cmp_eq]
  exact ⟨fun q => enc_inj (by decide) _ _ _ rfl hu.2 hw.2 (lN_inj (enc32_lt hu.1 hu.2) (enc32_lt hw.1 hw.2) q), fun q => by rw [q]⟩
theorem lN27 {u w : List Nat} (hu : okN u) (hw : okN w) : (lg_cmp (lN (enc 27 u)) (lN (enc 27 w)) = 0) ↔ u = w := by
  rw [lg_cmp_eq]
  exact ⟨fun q => enc_inj (by decide) _ _ _ rfl hu.2 hw.2 (lN_inj (enc27_lt hu.1 hu.2) (enc27_lt hw.1 hw.2) q), fun q => by rw [q]⟩
/-- the class's names; the model's -/
def Cn (nc : Nat) (l : Nat → List Nat) (a : Nat → Int32) (M : gM) (L : gL) : Prop := M 3 8 = nI nc ∧ ∀ k, k < nc → okN (l k) ∧ L 9 k = lN (enc 32 (l k)) ∧ M 10 k = a k
def Mn (nc : Nat) (l : Nat → List Nat) (a : Nat → Int32) (N : gM) (K : gL) : Prop := N 401 20 = nI nc ∧ ∀ k, k < nc → okN (l k) ∧ K 409 k = lN (enc 27 (l k)) ∧ N 410 k = a k
theorem r_indexL {nc : Nat} {l : Nat → List Nat} {a : Nat → Int32} {w : List Nat} {M : gM} {L : gL} (hC : Cn nc l a M L) (hn : nc ≤ 21) (hw : okN w) : ∀ (d k f : Nat), k + d = nc → d < f → H_Reader_indexOf_2 (lN (enc 32 w)) M L f (nI k) = some (if fxi l w d k < nc then nI (fxi l w d k) else -1) := by
  intro d
  induction d with
  | zero =>
    intro k f hd hf
    obtain ⟨f, rfl⟩ : ∃ g, f = g + 1 := ⟨f - 1, by omega⟩
    show B_Reader_indexOf_2 _ M L (H_Reader_indexOf_2 _ M L f) (nI k) = _
    unfold B_Reader_indexOf_2
    rw [hC.1, if_pos (by rw [nI_leI (by omega) (by omega)]; omega), show fxi l w 0 k = k from rfl, if_neg (by omega)]
  | succ d ih =>
    intro k f hd hf
    obtain ⟨f, rfl⟩ : ∃ g, f = g + 1 := ⟨f - 1, by omega⟩
    show B_Reader_indexOf_2 _ M L (H_Reader_indexOf_2 _ M L f) (nI k) = _
    unfold B_Reader_indexOf_2
    obtain ⟨c1, c2, c3⟩ := hC.2 k (by omega)
    rw [hC.1, if_neg (by rw [nI_leI (by omega) (by omega)]; omega), if_neg (by rw [show (21 : Int32) = nI 21 from rfl, nI_leI (by omega) (by omega)]; omega), if_neg (nI_in (by omega) (by decide)), nI_clamp (by omega), c2]
    unfold fxi
    by_cases he : l k = w
    · rw [if_pos ((lN32 c1 hw).mpr he), if_pos he, if_pos (by omega)]
    · rw [if_neg (fun q => he ((lN32 c1 hw).mp q)), if_neg he, nmI_e, nI_1]
      exact ih (k + 1) f (by omega) (by omega)
theorem r_index {nc : Nat} {l : Nat → List Nat} {a : Nat → Int32} {w : List Nat} {M : gM} {L : gL} (hC : Cn nc l a M L) (hn : nc ≤ 21) (hw : okN w) : F_Reader_indexOf (lN (enc 32 w)) M L = some (if fxi l w nc 0 < nc then nI (fxi l w nc 0) else -1) := r_indexL hC hn hw nc 0 FU (by omega) (by unfold FU; omega)
/-- the loop of named: from Z, which is N or N with the late fault -/
theorem q_namedL {M N : gM} {L K : gL} (h : Tk b n m M L N K) {t lf nc : Nat} {l : Nat → List Nat} {a : Nat → Int32} {w : List Nat} (hM : Mn nc l a N K) (hn : nc ≤ 21) (hw : okN w) (hK : K 407 t = lN (enc 27 w)) (htm : t ≤ m) (hf : N 401 13 = 0) (hL : N 401 15 = nI lf) (hlf : lf ≤ 5) (hp : lf ≠ 0 → ∃ la, la < t ∧ N 401 16 = nI (tkF b n la)) :
    ∀ (d k f : Nat) (Z : gM) (late : Bool), k + d = nc → d < f → Z = (if late = true then lateM lf 3 (tkF b n t) N else N) → H_Mod_named_12 (nI t) K f (nI k) Z = some (nI t, if late = true ∨ fxi l w d k < nc then lateM lf 3 (tkF b n t) N else N) := by
  have hm := h.m400
  intro d
  have eq : ∀ (late : Bool) (j : Nat), j ≠ 15 → j ≠ 16 → (if late = true then lateM lf 3 (tkF b n t) N else N) 401 j = N 401 j := by
    intro late j h1 h2
    cases late
    · rfl
    · exact lateM_E 401 j (by unfold mW; omega)
  induction d with
  | zero =>
    intro k f Z late hd hf2 hZ
    obtain ⟨f, rfl⟩ : ∃ g, f = g + 1 := ⟨f - 1, by omega⟩
    show B_Mod_named_12 (nI t) K (H_Mod_named_12 (nI t) K f) (nI k) Z = _
    unfold B_Mod_named_12
    subst hZ
    rw [eq late 20 (by decide) (by decide), hM.1, if_pos (by rw [nI_leI (by omega) (by omega)]; omega), show fxi l w 0 k = k from rfl]
    cases late
    · rw [if_neg (by decide), if_neg (fun q => q.elim (fun q => absurd q (by decide)) (fun q => by omega))]
    · rw [if_pos rfl, if_pos (Or.inl rfl)]
  | succ d ih =>
    intro k f Z late hd hf2 hZ
    obtain ⟨f, rfl⟩ : ∃ g, f = g + 1 := ⟨f - 1, by omega⟩
    show B_Mod_named_12 (nI t) K (H_Mod_named_12 (nI t) K f) (nI k) Z = _
    unfold B_Mod_named_12
    obtain ⟨c1, c2, c3⟩ := hM.2 k (by omega)
    subst hZ
    rw [eq late 20 (by decide) (by decide), hM.1, if_neg (by rw [nI_leI (by omega) (by omega)]; omega), eq late 13 (by decide) (by decide), hf, if_pos rfl, if_neg (nI_in (by omega) (by decide)), if_neg (nI_in (by omega) (by decide)), nI_clamp (by omega), nI_clamp (by omega), c2, hK]
    unfold J_Mod_named_49
    by_cases he : l k = w
    · rw [if_pos ((lN27 c1 hw).mpr he)]
      have e1 : F_Mod_wrong 3 (nI t) (if late = true then lateM lf 3 (tkF b n t) N else N) = some (lateM lf 3 (tkF b n t) N) := by
        cases late
        · exact q_late h (k := 3) rfl htm hf hL hlf hp
        · exact q_late2 h (k := 3) (by decide) htm hf hL hlf hp
      rw [e1, bI_s, nmI_e, nI_1, ih (k + 1) f (lateM lf 3 (tkF b n t) N) true (by omega) (by omega) (by rw [if_pos rfl]), if_pos (Or.inl rfl), if_pos]
      right
      unfold fxi
      rw [if_pos he]; omega
    · rw [if_neg (fun q => he ((lN27 c1 hw).mp q)), nmI_e, nI_1, ih (k + 1) f _ late (by omega) (by omega) rfl]
      have e2 : fxi l w (d + 1) k = fxi l w d (k + 1) := by
        show (if l k = w then k else fxi l w d (k + 1)) = _
        rw [if_neg he]
      rw [e2]
theorem q_namedD {N : gM} {K : gL} {k u : Nat} (hf : N 401 13 = nI k) (hk : k = 1 ∨ k = 2) (hu : N 401 11 = nI u) : F_Mod_named N K = some (nI u, N) := by
  unfold F_Mod_named
  rw [nmI_e, q_mustD hf hk, bI_s, hu]
  obtain ⟨g, hg⟩ := FU_k 1 (by decide)
  rw [hg]
  show B_Mod_named_12 (nI u) K (H_Mod_named_12 (nI u) K g) 0 N = _
  unfold B_Mod_named_12
  by_cases h1 : N 401 20 ≤ 0
  · rw [if_pos h1]
  · rw [if_neg h1, hf, if_neg (nI_ne0 (by omega) (by omega))]
def cN (c j : Nat) : Prop := (c = 3 ∧ ((1 ≤ j ∧ j ≤ 5) ∨ j = 8)) ∨ c = 10
/-- takeNewName and named -/
theorem p_name {M N : gM} {L K : gL} {t lf nc : Nat} {l : Nat → List Nat} {a : Nat → Int32} {fc : Int32} (hn : nc ≤ 20) (hl : (Tk b n m M L N K ∧ Lv m t M N ∧ Lt b n t lf M N ∧ Mn nc l a N K ∧ (lf = 0 → Cn nc l a M L)) ∨ Dd b n m M N) :
    ∃ M' L' r' N', F_Reader_takeNewName fc M L = some (M', L') ∧ F_Mod_named N K = some (r', N') ∧
    ((Lv m (t + 1) M' N' ∧ tkK b n t = 2 ∧ r' = nI t ∧ (∃ lf', Lt b n (t + 1) lf' M' N' ∧ (lf' = 0 → lf = 0 ∧ (∀ k, k < nc → l k ≠ tokL b n (tkF b n t)) ∧ Cn (nc + 1) (fun k => if k = nc then tokL b n (tkF b n t) else l k) (fun k => if k = nc then fc else a k) M' L')) ∧ Eo cN M M' ∧ (∀ c j, c ≠ 9 → L' c j = L c j)) ∨ Dd b n m M' N') ∧ Eo mI N N' := by
  rcases hl with ⟨h, hl, hL, hM, hCn⟩ | hd
  · have hm := h.m400
    have htm := hl.2.2.2.2
    unfold F_Reader_takeNewName F_Mod_named
    rw [r_is h (k := 2) (kk := 2) rfl hl.1 htm (by decide), bI_s, nmI_e, hl.2.2.1]
    unfold J_Reader_takeNewName_97
    by_cases e : tkK b n t = 2
    · obtain ⟨v1, v2, v3⟩ := tkV_name e
      have hw : okN (tokL b n (tkF b n t)) := ⟨v2, v3⟩
      have hK := (h.2.2.1 t (by omega)).2.2.2 e
      rw [if_pos e, if_neg (by decide), r_value h hl.1 htm, bI_s, v1]
      generalize tokL b n (tkF b n t) = w at hw hK ⊢
      have hp : lf ≠ 0 → ∃ la, la < t ∧ N 401 16 = nI (tkF b n la) := fun q => by obtain ⟨la, a1, a2, a3⟩ := hL.2.2.2 q; exact ⟨la, a1, a3⟩
      -- the class up to need
      obtain ⟨M1, L1, f1, hE1, hL1, hlate⟩ : ∃ M1 L1, (bI (F_Reader_indexOf (lN (enc 32 w)) M L) fun r9 => if r9 < 0 then (if M 3 8 < 0 then bI (F_Reader_need 2 M) (fun M5 => some (M5, L)) else (if 21 ≤ M 3 8 then bI (F_Reader_need 2 M) (fun M5 => some (M5, L)) else (if 21 ≤ M 3 8 then bI (F_Reader_need 2 M) (fun M5 => some (M5, L)) else (if (M 3 8 : Int32) < 0 ∨ 21 ≤ (M 3 8 : Int32).toNatClampNeg then none else nmL (uL L 9 (M 3 8 : Int32).toNatClampNeg (lN (enc 32 w))) (fun L15 => (if (M 3 8 : Int32) < 0 ∨ 21 ≤ (M 3 8 : Int32).toNatClampNeg then none else nmM (uM M 10 (M 3 8 : Int32).toNatClampNeg fc) (fun M17 => nmM (uM M17 3 8 (M17 3 8 + 1)) (fun M18 => bI (F_Reader_need 2 M18) (fun M5 => some (M5, L15)))))))))) else bI (F_Reader_stopLate 3 M) (fun M20 => bI (F_Reader_need 2 M20) (fun M5 => some (M5, L)))) = bI (F_Reader_need 2 M1) (fun M5 => some (M5, L1)) ∧ Eo (fun c j => (c = 3 ∧ (j = 4 ∨ j = 5 ∨ j = 8)) ∨ c = 10) M M1 ∧ (∀ c j, c ≠ 9 → L1 c j = L c j) ∧
          (lf = 0 → (fxi l w nc 0 < nc → M1 3 4 = nI 3 ∧ M1 3 5 = nI t) ∧ (¬ fxi l w nc 0 < nc → M1 3 4 = 0 ∧ Cn (nc + 1) (fun k => if k = nc then w else l k) (fun k => if k = nc then fc else a k) M1 L1)) ∧ (lf ≠ 0 → M1 3 4 = M 3 4 ∧ M1 3 5 = M 3 5) := by
        by_cases h0 : lf = 0
        · subst h0
          have hC := hCn rfl
          rw [r_index hC (by omega) hw, bI_s]
          by_cases hx : fxi l w nc 0 < nc
          · have hx2 := (fxi_le l w nc 0).2
            rw [if_pos hx, if_neg (nI_pos (by omega)), r_late (k := 3) (kk := 3) rfl hl.1 hL.1 hL.2.2.1, bI_s]
            refine ⟨lateC 0 3 t M, L, rfl, lateC_E.mono (fun c j q => by unfold cW at q; omega), fun _ _ _ => rfl, fun _ => ⟨fun _ => ?_, fun q => absurd hx q⟩, fun q => absurd rfl q⟩
            unfold lateC
            rw [if_pos rfl]
            exact ⟨by rw [uM_diff (by omega), uM_same], uM_same⟩
          · rw [if_neg hx, if_pos (by decide), hC.1, if_neg (nI_pos (by omega)), if_neg (by rw [show (21 : Int32) = nI 21 from rfl, nI_leI (by omega) (by omega)]; omega), if_neg (by rw [show (21 : Int32) = nI 21 from rfl, nI_leI (by omega) (by omega)]; omega), if_neg (nI_in (by omega) (by decide)), nI_clamp (by omega), nmL_e, if_neg (nI_inc (by omega) (by omega)), nmM_e, nmM_e, uM_diff (by omega), hC.1, nI_1]
            refine ⟨_, _, rfl, (Eo.rf.u (Or.inr rfl)).u (Or.inl ⟨rfl, by omega⟩), fun c j q => by rw [uL_ne _ _ _ q], fun _ => ⟨fun q => absurd q hx, fun _ => ⟨by rw [uM_diff (by omega), uM_diff (by omega)]; exact hL.1, uM_same, fun k hk => ?_⟩⟩, fun q => absurd rfl q⟩
            by_cases hkn : k = nc
            · subst hkn
              exact ⟨by dsimp only; rw [if_pos rfl]; exact hw, by dsimp only; rw [uL_at, if_pos ⟨rfl, rfl⟩, if_pos rfl], by dsimp only; rw [uM_diff (by omega), uM_same, if_pos rfl]⟩
            · obtain ⟨c1, c2, c3⟩ := hC.2 k (by omega)
              exact ⟨by dsimp only; rw [if_neg hkn]; exact c1, by dsimp only; rw [uL_at, if_neg (fun q => hkn q.2), if_neg hkn]; exact c2, by dsimp only; rw [uM_diff (by omega), uM_diff (by omega), if_neg hkn]; exact c3⟩
        · obtain ⟨r9, g9, -⟩ := tq_Reader_indexOf (p1 := lN (enc 32 w)) (M := M) (L := L)
          rw [g9, bI_s]
          have hh : ∀ (M1 : gM) (L1 : gL), Eo (fun c j => (c = 3 ∧ j = 8) ∨ c = 10) M M1 → (∀ c j, c ≠ 9 → L1 c j = L c j) → Eo (fun c j => (c = 3 ∧ (j = 4 ∨ j = 5 ∨ j = 8)) ∨ c = 10) M M1 ∧ (∀ c j, c ≠ 9 → L1 c j = L c j) ∧ (lf = 0 → (fxi l w nc 0 < nc → M1 3 4 = nI 3 ∧ M1 3 5 = nI t) ∧ (¬ fxi l w nc 0 < nc → M1 3 4 = 0 ∧ Cn (nc + 1) (fun k => if k = nc then w else l k) (fun k => if k = nc then fc else a k) M1 L1)) ∧ (lf ≠ 0 → M1 3 4 = M 3 4 ∧ M1 3 5 = M 3 5) := fun M1 L1 q1 q2 => ⟨q1.mono (fun c j q => by omega), q2, fun q => absurd q h0, fun _ => ⟨q1 3 4 (by omega), q1 3 5 (by omega)⟩⟩
          by_cases c1 : r9 < 0
          · rw [if_pos c1]
            by_cases c2 : M 3 8 < 0
            · rw [if_pos c2]; exact ⟨M, L, rfl, hh M L Eo.rf (fun _ _ _ => rfl)⟩
            rw [if_neg c2]
            by_cases c3 : 21 ≤ M 3 8
            · rw [if_pos c3]; exact ⟨M, L, rfl, hh M L Eo.rf (fun _ _ _ => rfl)⟩
            have hv : ¬ (M 3 8 < 0 ∨ 21 ≤ (M 3 8).toNatClampNeg) := vin_of c2 (by exact c3) (by decide)
            rw [if_neg c3, if_neg c3, if_neg hv, nmL_e, if_neg hv, nmM_e, nmM_e]
            exact ⟨_, _, rfl, hh _ _ ((Eo.rf.u (Or.inr rfl)).u (Or.inl ⟨rfl, rfl⟩)) (fun c j q => by rw [uL_ne _ _ _ q])⟩
          · rw [if_neg c1, r_late (k := 3) (kk := 3) rfl hl.1 hL.1 hL.2.2.1, bI_s]
            have e2 : lateC lf 3 t M = M := by unfold lateC; rw [if_neg h0]
            rw [e2]
            exact ⟨M, L, rfl, hh M L Eo.rf (fun _ _ _ => rfl)⟩
      rw [f1]
      have hl1 : Lv m t M1 N := ⟨by rw [hE1 3 1 (by omega)]; exact hl.1, by rw [hE1 3 2 (by omega)]; exact hl.2.1, hl.2.2⟩
      have h1 : Tk b n m M1 L1 N K := h.keep (fun j => hE1 6 j (by omega)) (fun j => hE1 7 j (by omega)) (fun j => hL1 8 j (by decide)) (fun _ => rfl) (fun _ => rfl) (fun _ => rfl) (fun _ => rfl)
      obtain ⟨M', N1, g1, g2, g3, g5⟩ := p_need (k := 2) (kk := 2) (kq := 1) rfl rfl (Or.inl (by decide)) (by decide) (Or.inl ⟨h1, hl1⟩)
      rw [g1, bI_s, g2, bI_s]
      have hN1 : ∀ j, j ≠ 11 → j ≠ 13 → j ≠ 14 → N1 401 j = N 401 j := fun j q1 q2 q3 => g5 401 j (by unfold mS; omega)
      rcases g3 with ⟨a1, a2, a3, a4⟩ | g3
      · have hM1 : Mn nc l a N1 K := ⟨by rw [hN1 20 (by decide) (by decide) (by decide)]; exact hM.1, fun k hk => ⟨(hM.2 k hk).1, (hM.2 k hk).2.1, by rw [g5 410 k (by unfold mS; omega)]; exact (hM.2 k hk).2.2⟩⟩
        have hT2 : Tk b n m M' L1 N1 K := h1.eo (a4.mono cS_cI) (g5.mono mS_mI)
        have hp1 : lf ≠ 0 → ∃ la, la < t ∧ N1 401 16 = nI (tkF b n la) := fun q => by obtain ⟨la, x1, x2⟩ := hp q; exact ⟨la, x1, by rw [hN1 16 (by decide) (by decide) (by decide)]; exact x2⟩
        have hL15 : N1 401 15 = nI lf := by rw [hN1 15 (by decide) (by decide) (by decide)]; exact hL.2.1
        have hlp : H_Mod_named_12 (nI t) K FU 0 N1 = _ := q_namedL hT2 hM1 (by omega) hw hK htm a1.2.2.2.1 hL15 hL.2.2.1 hp1 nc 0 FU N1 false (by omega) (by unfold FU; omega) rfl
        rw [hlp]
        refine ⟨M', L1, nI t, _, rfl, rfl, Or.inl ⟨?_, e, rfl, ?_, ?_, hL1⟩, ?_⟩
        · split
          · exact ⟨a1.1, a1.2.1, by rw [lateM_E 401 11 (by unfold mW; omega)]; exact a1.2.2.1, by rw [lateM_E 401 13 (by unfold mW; omega)]; exact a1.2.2.2.1, a1.2.2.2.2⟩
          · exact a1
        · by_cases h0 : lf = 0
          · subst h0
            by_cases hx : fxi l w nc 0 < nc
            · rw [if_pos (Or.inr hx)]
              obtain ⟨x1, x2⟩ := (hlate.1 rfl).1 hx
              refine ⟨3, ⟨by rw [a4 3 4 (by unfold cS; omega)]; exact x1, ?_, by decide, fun _ => ⟨t, by omega, by rw [a4 3 5 (by unfold cS; omega)]; exact x2, ?_⟩⟩, fun q => absurd q (by decide)⟩
              · unfold lateM; rw [if_pos rfl, uM_diff (by omega), uM_same]
              · unfold lateM; rw [if_pos rfl, uM_same]
            · rw [if_neg (fun q => q.elim (fun q => absurd q (by decide)) hx)]
              obtain ⟨x1, x2⟩ := (hlate.1 rfl).2 hx
              refine ⟨0, ⟨by rw [a4 3 4 (by unfold cS; omega)]; exact x1, hL15, by decide, fun q => absurd rfl q⟩, fun _ => ⟨rfl, fun k hk => ?_, ?_⟩⟩
              · have := (fxi_le l w nc 0).2
                exact fxi_no nc 0 k (by omega) (by omega)
              · exact ⟨by rw [a4 3 8 (by unfold cS; omega)]; exact x2.1, fun k hk => ⟨(x2.2 k hk).1, (x2.2 k hk).2.1, by rw [a4 10 k (by unfold cS; omega)]; exact (x2.2 k hk).2.2⟩⟩
          · have e2 : lateM lf 3 (tkF b n t) N1 = N1 := by unfold lateM; rw [if_neg h0]
            rw [e2, ite_self]
            obtain ⟨x1, x2⟩ := hlate.2 h0
            exact ⟨lf, hL.up (by omega) (by rw [a4 3 4 (by unfold cS; omega)]; exact x1) (by rw [a4 3 5 (by unfold cS; omega)]; exact x2) (hN1 15 (by decide) (by decide) (by decide)) (hN1 16 (by decide) (by decide) (by decide)), fun q => absurd q h0⟩
        · exact Eo.tr (hE1.mono (fun c j q => by unfold cN; omega)) (a4.mono (fun c j q => by unfold cS at q; unfold cN; omega))
        · split
          · exact (g5.mono mS_mI).tr (lateM_E.mono mW_mI)
          · exact g5.mono mS_mI
      · obtain ⟨k2, ft, u, x1, x2, x3, x4, x5, x6, x7, x8⟩ := id g3
        have hlp : H_Mod_named_12 (nI t) K FU 0 N1 = some (nI t, N1) := by
          obtain ⟨g, hg⟩ := FU_k 1 (by decide)
          rw [hg]
          show B_Mod_named_12 (nI t) K (H_Mod_named_12 (nI t) K g) 0 N1 = _
          unfold B_Mod_named_12
          by_cases y1 : N1 401 20 ≤ 0
          · rw [if_pos y1]
          · rw [if_neg y1, x5, if_neg (nI_ne0 (by omega) (by omega))]
        rw [hlp]
        exact ⟨M', L1, nI t, N1, rfl, rfl, Or.inr g3, g5.mono mS_mI⟩
    · rw [if_neg e, if_pos rfl]
      obtain ⟨M', N1, g1, g2, g3, g5⟩ := p_need (k := 2) (kk := 2) (kq := 1) rfl rfl (Or.inl (by decide)) (by decide) (Or.inl ⟨h, hl⟩)
      rw [g1, bI_s, g2, bI_s]
      rcases g3 with ⟨a1, a2, a3, a4⟩ | g3
      · exact absurd a3 e
      · obtain ⟨k2, ft, u, x1, x2, x3, x4, x5, x6, x7, x8⟩ := id g3
        have hlp : H_Mod_named_12 (nI t) K FU 0 N1 = some (nI t, N1) := by
          obtain ⟨g, hg⟩ := FU_k 1 (by decide)
          rw [hg]
          show B_Mod_named_12 (nI t) K (H_Mod_named_12 (nI t) K g) 0 N1 = _
          unfold B_Mod_named_12
          by_cases y1 : N1 401 20 ≤ 0
          · rw [if_pos y1]
          · rw [if_neg y1, x5, if_neg (nI_ne0 (by omega) (by omega))]
        rw [hlp]
        exact ⟨M', L, nI t, N1, rfl, rfl, Or.inr g3, g5.mono mS_mI⟩
  · obtain ⟨k2, ft, u, a1, a2, a3, a4, a5, a6, a7, a8⟩ := id hd
    obtain ⟨M', L', e1, e2⟩ := tq_Reader_takeNewName (p1 := fc) (M := M) (L := L)
    have e3 := e2.2.2 (by rw [a3]; exact nI_ne0 (by omega) (by omega))
    exact ⟨M', L', nI u, N, e1, q_namedD a5 a1 a8, Or.inr ⟨k2, ft, u, a1, a2, by rw [e3.1]; exact a3, by rw [e3.2]; exact a4, a5, a6, a7, a8⟩, Eo.rf⟩
end PAR3
end MG11x2
section MG11x3
/-! ingredients in both parsers -/
section PAR4
variable {b : Nat → Nat} {n m : Nat}
def Un (nc : Nat) (l : Nat → List Nat) : Prop := ∀ i j, i < nc → j < nc → l i = l j → i = j
def Av (nf nc : Nat) (a : Nat → Int32) : Prop := ∀ k, k < nc → a k = -1 ∨ ∃ f, f < nf ∧ a k = nI f
theorem nI_neg1 : (-1 : Int32) < 0 := by decide
theorem nI_geN {a c : Nat} (h : ¬ (nI a < nI c)) (ha : a < 2 ^ 31) (hc : c < 2 ^ 31) : c ≤ a := by rw [nI_ltI ha hc] at h; omega
theorem Kl.one {a : Nat} {M M' : gM} (h : Kl (oneL a) M zL M' zL) : Eo (fun c _ => c = a) M M' := fun c j q => Kl.m h (by unfold oneL; rw [beq_eq_false_iff_ne]; exact q)
theorem q_knownL {N : gM} {K : gL} {t nc nf : Nat} {l : Nat → List Nat} {a : Nat → Int32} {w : List Nat} (hM : Mn nc l a N K) (hA : Av nf nc a) (hn : nc ≤ 21) (hw : okN w) (hK : K 407 t = lN (enc 27 w)) (ht : t ≤ 400) : ∀ (d k f : Nat), k + d = nc → d < f →
    (∃ j, k ≤ j ∧ j < nc ∧ l j = w ∧ ¬ a j < 0 ∧ H_Mod_knownFood_21 (nI t) N K f (nI k) = some (a j, N)) ∨ ((∀ j, k ≤ j → j < nc → l j = w → a j < 0) ∧ H_Mod_knownFood_21 (nI t) N K f (nI k) = J_Mod_knownFood_67 (nI t) N K) := by
  intro d
  induction d with
  | zero =>
    intro k f hd hf
    obtain ⟨f, rfl⟩ : ∃ g, f = g + 1 := ⟨f - 1, by omega⟩
    refine Or.inr ⟨fun j h1 h2 => by omega, ?_⟩
    show B_Mod_knownFood_21 (nI t) N K (H_Mod_knownFood_21 (nI t) N K f) (nI k) = _
    unfold B_Mod_knownFood_21
    rw [hM.1, if_pos (by rw [nI_leI (by omega) (by omega)]; omega)]
  | succ d ih =>
    intro k f hd hf
    obtain ⟨f, rfl⟩ : ∃ g, f = g + 1 := ⟨f - 1, by omega⟩
    obtain ⟨c1, c2, c3⟩ := hM.2 k (by omega)
    have e : H_Mod_knownFood_21 (nI t) N K (f + 1) (nI k) = if l k = w then (if a k < 0 then H_Mod_knownFood_21 (nI t) N K f (nI (k + 1)) else some (a k, N)) else H_Mod_knownFood_21 (nI t) N K f (nI (k + 1)) := by
      show B_Mod_knownFood_21 (nI t) N K (H_Mod_knownFood_21 (nI t) N K f) (nI k) = _
      unfold B_Mod_knownFood_21 J_Mod_knownFood_61 J_Mod_knownFood_54
      rw [hM.1, if_neg (by rw [nI_leI (by omega) (by omega)]; omega), if_neg (nI_in (by omega) (by decide)), if_neg (nI_in (by omega) (by decide)), nI_clamp (by omega), nI_clamp (by omega), c2, hK, if_neg (nI_inc (by omega) (by omega)), c3, if_neg (nI_inc (by omega) (by omega)), nmI_e, nI_1]
      by_cases he : l k = w
      · rw [if_pos ((lN27 c1 hw).mpr he), if_pos he]
      · rw [if_neg (fun q => he ((lN27 c1 hw).mp q)), if_neg he]
    rw [e]
    by_cases he : l k = w
    · rw [if_pos he]
      by_cases hk : a k < 0
      · rw [if_pos hk]
        rcases ih (k + 1) f (by omega) (by omega) with ⟨j, h1, h2, h3, h4, h5⟩ | ⟨h1, h2⟩
        · exact Or.inl ⟨j, by omega, h2, h3, h4, h5⟩
        · refine Or.inr ⟨fun j q1 q2 q3 => ?_, h2⟩
          by_cases hj : j = k
          · rw [hj]; exact hk
          · exact h1 j (by omega) q2 q3
      · rw [if_neg hk]
        exact Or.inl ⟨k, Nat.le_refl _, by omega, he, hk, rfl⟩
    · rw [if_neg he]
      rcases ih (k + 1) f (by omega) (by omega) with ⟨j, h1, h2, h3, h4, h5⟩ | ⟨h1, h2⟩
      · exact Or.inl ⟨j, by omega, h2, h3, h4, h5⟩
      · refine Or.inr ⟨fun j q1 q2 q3 => ?_, h2⟩
        by_cases hj : j = k
        · rw [hj] at q3; exact absurd q3 he
        · exact h1 j (by omega) q2 q3
def cG (ld c j : Nat) : Prop := (c = 3 ∧ 1 ≤ j ∧ j ≤ 5) ∨ c = ld + 5
/-- takeIngredient and knownFood, with no fault yet: the dish d, its own name told to the class alone -/
theorem p_ingr {M N : gM} {L K : gL} {ld t lf nc nf dd : Nat} {l l' : Nat → List Nat} {a a' : Nat → Int32} (hld : isLa ld) (hnf : nf ≤ 6) (hdd : dd < 5) (hn : nc ≤ 20) (h : Tk b n m M L N K) (hl : Lv m t M N) (hL : Lt b n t lf M N) (hM : Mn nc l a N K) (hA : Av nf nc a)
    (hC : lf = 0 → Cn (nc + 1) l' a' M L ∧ Un (nc + 1) l' ∧ (∀ k, k < nc → l' k = l k ∧ a' k = a k) ∧ a' nc = -1) :
    ∃ M' r N', F_Reader_takeIngredient ld (nI dd) M L = some M' ∧ F_Mod_knownFood N K = some (r, N') ∧ (r = -1 ∨ ∃ f, f < nf ∧ r = nI f) ∧
    ((Lv m (t + 1) M' N' ∧ Eo (cG ld) M M' ∧ (∃ lf', Lt b n (t + 1) lf' M' N' ∧ (lf' = 0 → lf = 0 ∧ ∃ f, f < nf ∧ r = nI f ∧ ∀ j, M' (ld + 5) j = if j = 6 * dd + f then M (ld + 5) j + 1 else M (ld + 5) j))) ∨ Dd b n m M' N') ∧ Eo mI N N' := by
  have h12 := La_12 hld
  have hm := h.m400
  have htm := hl.2.2.2.2
  have hp : lf ≠ 0 → ∃ la, la < t ∧ N 401 16 = nI (tkF b n la) := fun q => by obtain ⟨la, a1, a2, a3⟩ := hL.2.2.2 q; exact ⟨la, a1, a3⟩
  unfold F_Reader_takeIngredient F_Mod_knownFood
  rw [r_is h (k := 2) (kk := 2) rfl hl.1 htm (by decide), bI_s, nmI_e, hl.2.2.1]
  unfold J_Reader_takeIngredient_78
  by_cases e : tkK b n t = 2
  · obtain ⟨v1, v2, v3⟩ := tkV_name e
    have hw : okN (tokL b n (tkF b n t)) := ⟨v2, v3⟩
    have hK := (h.2.2.1 t (by omega)).2.2.2 e
    rw [if_pos e, if_neg (show ¬ (1 : Int32) = 0 by decide), r_value h hl.1 htm, bI_s, v1]
    generalize tokL b n (tkF b n t) = w at hw hK ⊢
    -- what knownFood will find
    have hkn := q_knownL (t := t) hM hA (by omega) hw hK (by omega) nc 0 FU (by omega) (by unfold FU; omega)
    have hkn' : ∀ N1, Eo mS N N1 → (∃ j, j < nc ∧ l j = w ∧ ¬ a j < 0 ∧ H_Mod_knownFood_21 (nI t) N1 K FU 0 = some (a j, N1)) ∨ ((∀ j, j < nc → l j = w → a j < 0) ∧ H_Mod_knownFood_21 (nI t) N1 K FU 0 = J_Mod_knownFood_67 (nI t) N1 K) := by
      intro N1 g5
      have hM1 : Mn nc l a N1 K := ⟨by rw [g5 401 20 (by unfold mS; omega)]; exact hM.1, fun k hk => ⟨(hM.2 k hk).1, (hM.2 k hk).2.1, by rw [g5 410 k (by unfold mS; omega)]; exact (hM.2 k hk).2.2⟩⟩
      rcases q_knownL (t := t) hM1 hA (by omega) hw hK (by omega) nc 0 FU (by omega) (by unfold FU; omega) with ⟨j, q1, q2, q3, q4, q5⟩ | ⟨q1, q2⟩
      · exact Or.inl ⟨j, q2, q3, q4, q5⟩
      · exact Or.inr ⟨fun j => q1 j (Nat.zero_le j), q2⟩
    -- the class up to need
    obtain ⟨M1, f1, hE1, hlate⟩ : ∃ M1, (bI (F_Reader_indexOf (lN (enc 32 w)) M L) (fun r9 => (if 0 ≤ r9 then bI (F_Main_at 10 21 r9 M) (fun r12 => J_Reader_takeIngredient_40 ld (nI dd) r12 M L) else J_Reader_takeIngredient_40 ld (nI dd) (-1) M L))) = bI (F_Reader_need 2 M1) (fun M5 => some M5) ∧ Eo (fun c j => (c = 3 ∧ (j = 4 ∨ j = 5)) ∨ c = ld + 5) M M1 ∧
        (lf = 0 → (∃ j f, j < nc ∧ f < nf ∧ l j = w ∧ a j = nI f ∧ M1 = uM M (ld + 5) (6 * dd + f) (M (ld + 5) (6 * dd + f) + 1)) ∨ ((∀ j, j < nc → l j = w → a j < 0) ∧ M1 = lateC 0 4 t M)) ∧ (lf ≠ 0 → M1 3 4 = M 3 4 ∧ M1 3 5 = M 3 5) := by
      by_cases h0 : lf = 0
      · subst h0
        obtain ⟨hC1, hC2, hC3, hC4⟩ := hC rfl
        rw [r_index hC1 (by omega) hw, bI_s]
        have hx2 := (fxi_le l' w (nc + 1) 0).2
        have hlt : ∀ x : Int32, x < 0 → J_Reader_takeIngredient_40 ld (nI dd) x M L = bI (F_Reader_need 2 (lateC 0 4 t M)) (fun M5 => some M5) := by
          intro x hx
          unfold J_Reader_takeIngredient_40 J_Reader_takeIngredient_78
          rw [if_neg (i32_nle_of_lt hx), r_late (k := 4) (kk := 4) rfl hl.1 hL.1 hL.2.2.1, bI_s]
        have hlE : Eo (fun c j => (c = 3 ∧ (j = 4 ∨ j = 5)) ∨ c = ld + 5) M (lateC 0 4 t M) := lateC_E.mono (fun c j q => by unfold cW at q; omega)
        by_cases hx : fxi l' w (nc + 1) 0 < nc + 1
        · have hat := fxi_at (l := l') (w := w) (nc + 1) 0 (by omega)
          rw [if_pos hx, if_pos (i32_le_of_nlt (nI_pos (by omega))), s_at (by omega) (by decide), bI_s, (hC1.2 _ hx).2.2]
          by_cases hxn : fxi l' w (nc + 1) 0 = nc
          · rw [hxn, hC4, hlt _ nI_neg1]
            refine ⟨_, rfl, hlE, fun _ => Or.inr ⟨fun j hj hw => ?_, rfl⟩, fun q => absurd rfl q⟩
            exfalso
            have := hC2 j nc (by omega) (by omega) (by rw [(hC3 j hj).1, hw, ← hat, hxn])
            omega
          · have hxl : fxi l' w (nc + 1) 0 < nc := by omega
            generalize fxi l' w (nc + 1) 0 = x at *
            rw [(hC3 x hxl).1] at hat
            rw [(hC3 x hxl).2]
            have uq : ∀ j, j < nc → l j = w → j = x := fun j hj hj2 => hC2 j x (by omega) (by omega) (by rw [(hC3 j hj).1, (hC3 x hxl).1, hj2, hat])
            rcases hA x hxl with ha | ⟨f, hf, ha⟩
            · rw [ha, hlt _ nI_neg1]
              exact ⟨_, rfl, hlE, fun _ => Or.inr ⟨fun j hj hw => by rw [uq j hj hw, ha]; exact nI_neg1, rfl⟩, fun q => absurd rfl q⟩
            · rw [ha]
              unfold J_Reader_takeIngredient_40 J_Reader_takeIngredient_78 F_Land_inDish
              have e6 : nI dd * 6 + nI f = nI (6 * dd + f) := by rw [show (6 : Int32) = nI 6 from rfl, nI_mul, nI_add, Nat.mul_comm]
              rw [if_pos (i32_le_of_nlt (nI_pos (by omega))), e6, s_at (by omega) (by decide), bI_s, bI_s, s_put (by omega) (by decide), bI_s]
              exact ⟨_, rfl, Eo.rf.u (Or.inr rfl), fun _ => Or.inl ⟨x, f, hxl, hf, hat, ha, rfl⟩, fun q => absurd rfl q⟩
        · rw [if_neg hx, if_neg (by decide), hlt _ nI_neg1]
          refine ⟨_, rfl, hlE, fun _ => Or.inr ⟨fun j hj hw => ?_, rfl⟩, fun q => absurd rfl q⟩
          exact absurd (by rw [(hC3 j hj).1, hw]) (fxi_no (l := l') (w := w) (nc + 1) 0 j (by omega) (by omega))
      · have hh : ∀ M1 : gM, Eo (fun c j => c = ld + 5) M M1 → Eo (fun c j => (c = 3 ∧ (j = 4 ∨ j = 5)) ∨ c = ld + 5) M M1 ∧
        (lf = 0 → (∃ j f, j < nc ∧ f < nf ∧ l j = w ∧ a j = nI f ∧ M1 = uM M (ld + 5) (6 * dd + f) (M (ld + 5) (6 * dd + f) + 1)) ∨ ((∀ j, j < nc → l j = w → a j < 0) ∧ M1 = lateC 0 4 t M)) ∧ (lf ≠ 0 → M1 3 4 = M 3 4 ∧ M1 3 5 = M 3 5) := fun M1 q => ⟨q.mono (fun c j w => Or.inr w), fun q => absurd q h0, fun _ => ⟨q 3 4 (by omega), q 3 5 (by omega)⟩⟩
        have h40 : ∀ x : Int32, ∃ M1, J_Reader_takeIngredient_40 ld (nI dd) x M L = bI (F_Reader_need 2 M1) (fun M5 => some M5) ∧ Eo (fun c _ => c = ld + 5) M M1 := by
          intro x
          unfold J_Reader_takeIngredient_40 J_Reader_takeIngredient_78
          by_cases hx : 0 ≤ x
          · obtain ⟨r1, g1, -⟩ := tf_Land_inDish (Ld0 := ld) (p1 := nI dd) (p2 := x) (M := M) hld
            obtain ⟨M1, g2, g3⟩ := tf_Main_put (a1 := ld + 5) (N1 := 30) (p2 := nI dd * 6 + x) (p3 := r1 + 1) (M := M) (by decide)
            rw [if_pos hx, g1, bI_s, g2, bI_s]
            exact ⟨M1, rfl, g3.one⟩
          · rw [if_neg hx, r_late (k := 4) (kk := 4) rfl hl.1 hL.1 hL.2.2.1, bI_s]
            have e2 : lateC lf 4 t M = M := by unfold lateC; rw [if_neg h0]
            rw [e2]
            exact ⟨M, rfl, Eo.rf⟩
        obtain ⟨r9, g9, -⟩ := tq_Reader_indexOf (p1 := lN (enc 32 w)) (M := M) (L := L)
        rw [g9, bI_s]
        by_cases c1 : 0 ≤ r9
        · obtain ⟨r12, g12, -⟩ := tf_Main_at (a1 := 10) (N1 := 21) (p2 := r9) (M := M) (by decide)
          rw [if_pos c1, g12, bI_s]
          obtain ⟨M1, q1, q2⟩ := h40 r12
          exact ⟨M1, q1, hh M1 q2⟩
        · rw [if_neg c1]
          obtain ⟨M1, q1, q2⟩ := h40 (-1)
          exact ⟨M1, q1, hh M1 q2⟩
    rw [f1]
    have hl1 : Lv m t M1 N := ⟨by rw [hE1 3 1 (by omega)]; exact hl.1, by rw [hE1 3 2 (by omega)]; exact hl.2.1, hl.2.2⟩
    have h1 : Tk b n m M1 L N K := h.keep (fun j => hE1 6 j (by omega)) (fun j => hE1 7 j (by omega)) (fun j => rfl) (fun _ => rfl) (fun _ => rfl) (fun _ => rfl) (fun _ => rfl)
    obtain ⟨M', N1, g1, g2, g3, g5⟩ := p_need (k := 2) (kk := 2) (kq := 1) rfl rfl (Or.inl (by decide)) (by decide) (Or.inl ⟨h1, hl1⟩)
    rw [g1, bI_s, g2, bI_s]
    rcases g3 with ⟨a1, a2, a3, a4⟩ | g3
    · have hf1 := a1.2.2.2.1
      have hEE : Eo (cG ld) M M' := (hE1.mono (fun c j q => by unfold cG; omega)).tr (a4.mono (fun c j q => by unfold cS at q; unfold cG; omega))
      have h15 : N1 401 15 = N 401 15 := g5 401 15 (by unfold mS; omega)
      have h16 : N1 401 16 = N 401 16 := g5 401 16 (by unfold mS; omega)
      rw [if_pos (by rw [hf1]; decide)]
      have hp1 : lf ≠ 0 → ∃ la, la < t ∧ N1 401 16 = nI (tkF b n la) := fun q => by obtain ⟨la, x1, x2⟩ := hp q; exact ⟨la, x1, by rw [h16]; exact x2⟩
      have hL15 : N1 401 15 = nI lf := h15.trans hL.2.1
      rcases hkn' N1 g5 with ⟨j, j1, j2, j3, j4⟩ | ⟨j1, j2⟩
      · rw [j4]
        have har := (hA j j1).resolve_left (fun q => j3 (by rw [q]; exact nI_neg1))
        refine ⟨M', a j, N1, rfl, rfl, Or.inr har, Or.inl ⟨a1, hEE, ?_⟩, g5.mono mS_mI⟩
        by_cases h0 : lf = 0
        · subst h0
          rcases hlate.1 rfl with ⟨j', f, x1, x2, x3, x4, x5⟩ | ⟨x1, x2⟩
          · obtain ⟨hC1, hC2, hC3, hC4⟩ := hC rfl
            have hjj : j = j' := hC2 j j' (by omega) (by omega) (by rw [(hC3 j j1).1, (hC3 j' x1).1, j2, x3])
            subst hjj
            have z4 : M1 3 4 = M 3 4 := by rw [x5, uM_diff (by omega)]
            refine ⟨0, ⟨by rw [a4 3 4 (by unfold cS; omega), z4]; exact hL.1, hL15, by decide, fun q => absurd rfl q⟩, fun _ => ⟨rfl, f, x2, x4, fun jj => ?_⟩⟩
            rw [a4 (ld + 5) jj (by unfold cS; omega), x5, uM_at]
            by_cases hjj : jj = 6 * dd + f
            · rw [if_pos ⟨rfl, hjj⟩, if_pos hjj, hjj]
            · rw [if_neg (fun q => hjj q.2), if_neg hjj]
          · exact absurd (x1 j j1 j2) j3
        · obtain ⟨x1, x2⟩ := hlate.2 h0
          exact ⟨lf, hL.up (by omega) (by rw [a4 3 4 (by unfold cS; omega)]; exact x1) (by rw [a4 3 5 (by unfold cS; omega)]; exact x2) h15 h16, fun q => absurd q h0⟩
      · rw [j2]
        unfold J_Mod_knownFood_67
        have hT2 : Tk b n m M' L N1 K := h1.eo (a4.mono cS_cI) (g5.mono mS_mI)
        rw [q_late hT2 (k := 4) (kk := 4) rfl htm hf1 hL15 hL.2.2.1 hp1, bI_s]
        have hW := (lateM_E (lf := lf) (k := 4) (t := tkF b n t) (M := N1))
        refine ⟨M', -1, _, rfl, rfl, Or.inl rfl, Or.inl ⟨a1.keepW Eo.rf hW, hEE, ?_⟩, (g5.mono mS_mI).tr (hW.mono mW_mI)⟩
        by_cases h0 : lf = 0
        · subst h0
          rcases hlate.1 rfl with ⟨j', f, x1, x2, x3, x4, x5⟩ | ⟨x1, x2⟩
          · exact absurd (j1 j' x1 x3) (by rw [x4]; exact nI_pos (by omega))
          · obtain ⟨lf', y1, y2⟩ := (hL).late (k := 4) (M' := M') (N' := lateM 0 4 (tkF b n t) N1) (by decide) (by rw [a4 3 4 (by unfold cS; omega), x2]) (by rw [a4 3 5 (by unfold cS; omega), x2]) (by unfold lateM; rw [if_pos rfl, if_pos rfl, uM_diff (by omega), uM_same, uM_diff (by omega), uM_same]) (by unfold lateM; rw [if_pos rfl, if_pos rfl, uM_same, uM_same])
            exact ⟨lf', y2, fun q => absurd q y1⟩
        · have e2 : lateM lf 4 (tkF b n t) N1 = N1 := by unfold lateM; rw [if_neg h0]
          rw [e2]
          obtain ⟨x1, x2⟩ := hlate.2 h0
          exact ⟨lf, hL.up (by omega) (by rw [a4 3 4 (by unfold cS; omega)]; exact x1) (by rw [a4 3 5 (by unfold cS; omega)]; exact x2) h15 h16, fun q => absurd q h0⟩
    · obtain ⟨k2, ft, u, x1, x2, x3, x4, x5, x6, x7, x8⟩ := id g3
      rw [if_neg (by rw [x5]; exact nI_nle (by omega) (by omega))]
      exact ⟨M', -1, N1, rfl, rfl, Or.inl rfl, Or.inr g3, g5.mono mS_mI⟩
  · rw [if_neg e, if_pos (show (0 : Int32) = 0 from rfl)]
    obtain ⟨M', N1, g1, g2, g3, g5⟩ := p_need (k := 2) (kk := 2) (kq := 1) rfl rfl (Or.inl (by decide)) (by decide) (Or.inl ⟨h, hl⟩)
    rw [g1, bI_s, g2, bI_s]
    rcases g3 with ⟨a1, a2, a3, a4⟩ | g3
    · exact absurd a3 e
    · obtain ⟨k2, ft, u, x1, x2, x3, x4, x5, x6, x7, x8⟩ := id g3
      rw [if_neg (by rw [x5]; exact nI_nle (by omega) (by omega))]
      exact ⟨M', -1, N1, rfl, rfl, Or.inl rfl, Or.inr g3, g5.mono mS_mI⟩
end PAR4
end MG11x3
section MG11x4
/-! sums in both parsers -/
def Cd (c k v : Int32) : Prop := (∃ x, x ≤ 9999 ∧ k = nI 0 ∧ v = nI x ∧ c = nI x) ∨ (∃ x, x < 9 ∧ k = nI 1 ∧ v = nI x ∧ c = nI (10000 + x)) ∨ (k = nI 2 ∧ c = nI 20043) ∨ (k = nI 3 ∧ c = nI 20045) ∨ (k = nI 4 ∧ c = nI 20042) ∨ (k = nI 5 ∧ c = nI 20047)
def Cs (W i0 j0 len : Nat) (M N : gM) : Prop := ∀ k, k < len → Cd (M (W + 1) (i0 + k)) (N 431 (j0 + k)) (N 432 (j0 + k))
def Hd (M N : gM) : List Nat → Prop
  | [] => True
  | x :: r => M 11 r.length = nI x ∧ N 433 r.length = nI (phi x) ∧ Hd M N r
def okR : List Nat → Prop
  | [] => True
  | x :: r => okR r ∧ (x = 40 ∨ ((x = 43 ∨ x = 45) ∧ ∀ y, r.head? = some y → y = 40) ∨ ((x = 42 ∨ x = 47) ∧ ∀ y, r.head? = some y → y ≠ 42 ∧ y ≠ 47))
def sg : List Nat → Nat
  | [] => 0
  | x :: r => sg r + if x = 40 then 0 else 1
def cn : List Nat → Nat
  | [] => 0
  | x :: r => cn r + if x = 40 then 1 else 0
theorem sg_cn : ∀ R : List Nat, R.length = sg R + cn R
  | [] => rfl
  | x :: r => by
    have := sg_cn r
    simp only [List.length_cons, sg, cn]
    split <;> omega
def hh : List Nat → Nat
  | [] => 0
  | x :: _ => if x = 40 then 0 else if x = 43 ∨ x = 45 then 1 else 2
theorem hh_le (R : List Nat) : hh R ≤ 2 := by
  cases R with
  | nil => decide
  | cons x r => simp only [hh]; split <;> (try split) <;> omega
theorem okR_len : ∀ R : List Nat, okR R → sg R ≤ 2 * cn R + hh R
  | [], _ => by decide
  | x :: r, h => by
    have ih := okR_len r h.1
    have h2 := hh_le r
    rcases h.2 with rfl | ⟨hx, hy⟩ | ⟨hx, hy⟩
    · have e1 : sg (40 :: r) = sg r := rfl
      have e2 : cn (40 :: r) = cn r + 1 := rfl
      have e3 : hh (40 :: r) = 0 := rfl
      omega
    · have h0 : hh r = 0 := by
        cases r with
        | nil => rfl
        | cons y r => simp only [hh]; rw [if_pos (hy y rfl)]
      have hn : x ≠ 40 := by omega
      simp only [sg, cn, hh, if_neg hn, if_pos hx]
      omega
    · have h0 : hh r ≤ 1 := by
        cases r with
        | nil => exact Nat.zero_le _
        | cons y r =>
          have := hy y rfl
          have h3 := h.1.2
          simp only [hh]
          split
          · omega
          · rw [if_pos (by omega)]; exact Nat.le_refl _
      have hn : x ≠ 40 := by omega
      have hn2 : ¬ (x = 43 ∨ x = 45) := by omega
      simp only [sg, cn, hh, if_neg hn, if_neg hn2]
      omega
theorem okR_max {R : List Nat} (h : okR R) (hc : cn R ≤ 6) : sg R ≤ 14 ∧ R.length ≤ 20 := by
  have h1 := okR_len R h
  have h2 := hh_le R
  have h3 := sg_cn R
  omega
theorem okR_sg {x : Nat} {r : List Nat} (h : okR (x :: r)) : x = 40 ∨ x = 43 ∨ x = 45 ∨ x = 42 ∨ x = 47 := by
  have := h.2
  omega
theorem Hd.keep {M N M' N' : gM} (h1 : ∀ j, M' 11 j = M 11 j) (h2 : ∀ j, N' 433 j = N 433 j) : ∀ R, Hd M N R → Hd M' N' R
  | [], _ => trivial
  | x :: r, h => ⟨(h1 _).trans h.1, (h2 _).trans h.2.1, Hd.keep h1 h2 r h.2.2⟩
/-- the entries below k alone -/
theorem Hd.keepB {M N M' N' : gM} : ∀ R, (∀ j, j < R.length → M' 11 j = M 11 j) → (∀ j, j < R.length → N' 433 j = N 433 j) → Hd M N R → Hd M' N' R
  | [], _, _, _ => trivial
  | x :: r, h1, h2, h => ⟨(h1 _ (by simp)).trans h.1, (h2 _ (by simp)).trans h.2.1, Hd.keepB r (fun j hj => h1 j (by simp; omega)) (fun j hj => h2 j (by simp; omega)) h.2.2⟩
theorem vdp_upto {M M' : gM} {a : Nat} : ∀ k, (∀ j, a ≤ j → j < a + k → M' 431 j = M 431 j) → vdp M' a k = vdp M a k := by
  intro k
  induction k with
  | zero => intro _; rfl
  | succ k ih =>
    intro h
    simp only [vdp]
    rw [ih (fun j h1 h2 => h j h1 (by omega)), h (a + k) (by omega) (by omega)]
def Ex (W b0 c0 len : Nat) (R : List Nat) (e : Nat) (M N : gM) : Prop := (M W 1 = nI (b0 + len)) ∧ (N 401 44 = nI (c0 + len)) ∧ (Cs W b0 c0 len M N) ∧ (vdp N c0 len = some (sg R + e)) ∧ (∀ k d, k ≤ len → vdp N c0 k = some d → d ≤ 16) ∧ (M 3 10 = nI R.length) ∧ (N 401 48 = nI R.length) ∧ (Hd M N R) ∧ (okR R)
section EX
variable {W b0 c0 len e : Nat} {R : List Nat} {M N : gM}
theorem Ex.hl (h : Ex W b0 c0 len R e M N) : M W 1 = nI (b0 + len) := h.1
theorem Ex.hc (h : Ex W b0 c0 len R e M N) : N 401 44 = nI (c0 + len) := h.2.1
theorem Ex.cs (h : Ex W b0 c0 len R e M N) : Cs W b0 c0 len M N := h.2.2.1
theorem Ex.vd (h : Ex W b0 c0 len R e M N) : vdp N c0 len = some (sg R + e) := h.2.2.2.1
theorem Ex.dp (h : Ex W b0 c0 len R e M N) : ∀ k d, k ≤ len → vdp N c0 k = some d → d ≤ 16 := h.2.2.2.2.1
theorem Ex.hn (h : Ex W b0 c0 len R e M N) : M 3 10 = nI R.length := h.2.2.2.2.2.1
theorem Ex.wn (h : Ex W b0 c0 len R e M N) : N 401 48 = nI R.length := h.2.2.2.2.2.2.1
theorem Ex.hd (h : Ex W b0 c0 len R e M N) : Hd M N R := h.2.2.2.2.2.2.2.1
theorem Ex.ok (h : Ex W b0 c0 len R e M N) : okR R := h.2.2.2.2.2.2.2.2
end EX
theorem Ex.fr {W b0 c0 len e : Nat} {R : List Nat} {M N M' N' : gM} (h : Ex W b0 c0 len R e M N) (hW : 12 ≤ W) (h1 : Eo (fun c j => c = 3 ∧ j ≠ 10) M M') (h2 : Eo (fun c j => c = 401 ∧ j ≠ 44 ∧ j ≠ 48) N N') : Ex W b0 c0 len R e M' N' :=
  ⟨((h1 W 1 (by omega)).trans h.hl),
   ((h2 401 44 (by omega)).trans h.hc),
   (fun k hk => by rw [h1 (W + 1) _ (by omega), h2 431 _ (by omega), h2 432 _ (by omega)]; exact h.cs k hk),
   (by rw [vdp_upto len (fun j _ _ => h2 431 j (by omega))]; exact h.vd),
   (fun k d hk hv => h.dp k d hk (by rw [vdp_upto k (fun j _ _ => h2 431 j (by omega))] at hv; exact hv)),
   ((h1 3 10 (by omega)).trans h.hn),
   ((h2 401 48 (by omega)).trans h.wn),
   (Hd.keep (fun j => h1 11 j (by omega)) (fun j => h2 433 j (by omega)) R h.hd),
   (h.ok)⟩
theorem c_add {W q : Nat} {x : Int32} {M : gM} (h : M W 1 = nI q) (hq : q < 400) : F_Law_add W x M = some (uM (uM M (W + 1) q x) W 1 (nI (q + 1))) := by
  unfold F_Law_add
  rw [h, if_neg (nI_pos (by omega)), if_neg (by rw [show (400 : Int32) = nI 400 from rfl, nI_leI (by omega) (by omega)]; omega), if_neg (nI_in hq (by decide)), nI_clamp (by omega), nmM_e, uM_diff (by omega), h, nI_1]
  rfl
def emM (q : Nat) (k v : Int32) (N : gM) : gM := uM (uM (uM N 431 q k) 432 q v) 401 44 (nI (q + 1))
theorem m_emit {q : Nat} {k v : Int32} {N : gM} (h : N 401 44 = nI q) (hq : q < 840) : F_Mod_emit k v N = some (emM q k v N) := by
  unfold F_Mod_emit
  rw [h, if_neg (nI_in hq (by decide)), nI_clamp (by omega), nmM_e, uM_diff (by omega), h, if_neg (nI_in hq (by decide)), nI_clamp (by omega), nmM_e, uM_diff (by omega), uM_diff (by omega), h, nI_1]
  rfl
/-- one code more, for both -/
theorem Ex.put {W b0 c0 len e e' : Nat} {R R' : List Nat} {x k v : Int32} {M N : gM} (h : Ex W b0 c0 len R e M N) (hW : 12 ≤ W) (hcd : Cd x k v) (hv : (k.toInt < 2 ∧ sg R' + e' = sg R + e + 1) ∨ (¬ k.toInt < 2 ∧ sg R + e = sg R' + e' + 1 ∧ 2 ≤ sg R + e)) (hd16 : sg R' + e' ≤ 16) (hn : (uM (uM M (W + 1) (b0 + len) x) W 1 (nI (b0 + len + 1))) 3 10 = nI R'.length) (wn : N 401 48 = nI R'.length) (hd : Hd M N R') (ok : okR R') :
    Ex W b0 c0 (len + 1) R' e' (uM (uM M (W + 1) (b0 + len) x) W 1 (nI (b0 + len + 1))) (emM (c0 + len) k v N) :=
  ⟨(by rw [uM_same, show b0 + (len + 1) = b0 + len + 1 by omega]),
   (by unfold emM; rw [uM_same, show c0 + (len + 1) = c0 + len + 1 by omega]),
   (fun j hj => by
    unfold emM
    by_cases hl : j = len
    · subst hl
      rw [uM_diff (by omega), uM_same, uM_diff (by omega), uM_diff (by omega), uM_same, uM_diff (by omega), uM_same]
      exact hcd
    · rw [uM_diff (by omega), uM_diff (by omega), uM_diff (by omega), uM_diff (by omega), uM_diff (by omega), uM_diff (by omega), uM_diff (by omega), uM_diff (by omega)]
      exact h.cs j (by omega)),
   (by
    have e1 : vdp (emM (c0 + len) k v N) c0 len = some (sg R + e) := by
      rw [vdp_upto len (fun j _ h2 => by unfold emM; rw [uM_diff (by omega), uM_diff (by omega), uM_diff (by omega)])]; exact h.vd
    have e2 : emM (c0 + len) k v N 431 (c0 + len) = k := by unfold emM; rw [uM_diff (by omega), uM_diff (by omega), uM_same]
    simp only [vdp, e1, e2]
    rcases hv with ⟨h1, h2⟩ | ⟨h1, h2, h3⟩
    · rw [if_pos h1, h2]
    · rw [if_neg h1, if_pos h3, h2]; rfl),
   (fun j d hj hv' => by
    by_cases hl : j = len + 1
    · subst hl
      have e1 : vdp (emM (c0 + len) k v N) c0 len = some (sg R + e) := by
        rw [vdp_upto len (fun j _ h2 => by unfold emM; rw [uM_diff (by omega), uM_diff (by omega), uM_diff (by omega)])]; exact h.vd
      have e2 : emM (c0 + len) k v N 431 (c0 + len) = k := by unfold emM; rw [uM_diff (by omega), uM_diff (by omega), uM_same]
      simp only [vdp, e1, e2] at hv'
      rcases hv with ⟨h1, h2⟩ | ⟨h1, h2, h3⟩
      · rw [if_pos h1] at hv'
        have := Option.some.inj hv'
        omega
      · rw [if_neg h1, if_pos h3] at hv'
        have := Option.some.inj hv'
        omega
    · exact h.dp j d (by omega) (by rw [vdp_upto j (fun j _ h2 => by unfold emM; rw [uM_diff (by omega), uM_diff (by omega), uM_diff (by omega)])] at hv'; exact hv')),
   (hn),
   (by unfold emM; rw [uM_diff (by omega), uM_diff (by omega), uM_diff (by omega)]; exact wn),
   (Hd.keep (fun j => by rw [uM_diff (by omega), uM_diff (by omega)]) (fun j => by unfold emM; rw [uM_diff (by omega), uM_diff (by omega), uM_diff (by omega)]) R' hd),
   (ok)⟩
def mk (x : Nat) : Nat := if x = 43 then 2 else if x = 45 then 3 else if x = 42 then 4 else 5
def cE (W b0 c j : Nat) : Prop := (c = 3 ∧ (j = 1 ∨ j = 2 ∨ j = 3 ∨ j = 10 ∨ j = 11)) ∨ c = 11 ∨ (c = W ∧ j = 1) ∨ (c = W + 1 ∧ b0 ≤ j)
def mE (c0 B c j : Nat) : Prop := (c = 401 ∧ (j = 11 ∨ j = 12 ∨ j = 13 ∨ j = 14 ∨ j = 44 ∨ j = 48)) ∨ c = 433 ∨ ((c = 431 ∨ c = 432) ∧ c0 ≤ j ∧ j < B)
theorem r_rank {x : Nat} (h : x ≤ 148) : F_Reader_rank (nI x) = some (if x = 42 ∨ x = 47 then 2 else if x = 43 ∨ x = 45 then 1 else 0) := (by decide +kernel : ∀ x, x < 149 → F_Reader_rank (nI x) = some (if x = 42 ∨ x = 47 then 2 else if x = 43 ∨ x = 45 then 1 else 0)) x (by omega)
/-- layHeld and comesOut -/
theorem p_lay {W b0 c0 B : Nat} (hW : 12 ≤ W) {p : Nat} {s : Int32} (hp : (p = 1 ∧ s = 0) ∨ (p = 2 ∧ s = 1)) : ∀ (R : List Nat) (len f g : Nat) (M N : gM), Ex W b0 c0 len R 1 M N → cn R ≤ 6 → b0 + len + R.length ≤ 400 → c0 + len + R.length ≤ B → B ≤ 840 → R.length < f → R.length < g →
    ∃ M' N' len' R', H_Reader_layHeld_0 W (nI p) f M = some M' ∧ H_Mod_comesOut_0 s g N = some N' ∧ Ex W b0 c0 len' R' 1 M' N' ∧ len' + R'.length = len + R.length ∧ cn R' = cn R ∧ (∀ y, R'.head? = some y → y = 40 ∨ (p = 2 ∧ y ≠ 42 ∧ y ≠ 47)) ∧ Eo (fun c j => (c = 3 ∧ j = 10) ∨ (c = W ∧ j = 1) ∨ (c = W + 1 ∧ b0 ≤ j)) M M' ∧ Eo (fun c j => (c = 401 ∧ (j = 44 ∨ j = 48)) ∨ ((c = 431 ∨ c = 432) ∧ c0 ≤ j ∧ j < B)) N N' := by
  intro R
  induction R with
  | nil =>
    intro len f g M N h hc h1 h2 h3 hf hg
    obtain ⟨f, rfl⟩ : ∃ x, f = x + 1 := ⟨f - 1, by omega⟩
    obtain ⟨g, rfl⟩ : ∃ x, g = x + 1 := ⟨g - 1, by omega⟩
    refine ⟨M, N, len, [], ?_, ?_, h, rfl, rfl, (fun y hy => by cases hy), Eo.rf, Eo.rf⟩
    · show B_Reader_layHeld_0 W (nI p) (H_Reader_layHeld_0 W (nI p) f) M = _
      unfold B_Reader_layHeld_0
      rw [h.hn, if_pos (by decide)]
    · show B_Mod_comesOut_0 s (H_Mod_comesOut_0 s g) N = _
      unfold B_Mod_comesOut_0
      rw [h.wn, if_pos (by decide)]
  | cons x r ih =>
    intro len f g M N h hc h1 h2 h3 hf hg
    obtain ⟨f, rfl⟩ : ∃ x, f = x + 1 := ⟨f - 1, by omega⟩
    obtain ⟨g, rfl⟩ : ∃ x, g = x + 1 := ⟨g - 1, by omega⟩
    have hmax := okR_max h.ok hc
    simp only [List.length_cons] at h1 h2 hf hg hmax
    have hx := okR_sg h.ok
    obtain ⟨d1, d2, d3⟩ := h.hd
    have hn := h.hn
    have wn := h.wn
    simp only [List.length_cons] at hn wn
    have eM : H_Reader_layHeld_0 W (nI p) (f + 1) M = if (if x = 42 ∨ x = 47 then 2 else if x = 43 ∨ x = 45 then 1 else 0) < nI p then some M else H_Reader_layHeld_0 W (nI p) f (uM (uM (uM M 3 10 (nI r.length)) (W + 1) (b0 + len) (nI (20000 + x))) W 1 (nI (b0 + len + 1))) := by
      show B_Reader_layHeld_0 W (nI p) (H_Reader_layHeld_0 W (nI p) f) M = _
      unfold B_Reader_layHeld_0
      have e1 : nI (r.length + 1) - 1 = nI r.length := by rw [show (1 : Int32) = nI 1 from rfl, nI_sub (by omega)]; rfl
      rw [hn, if_neg (nI_nle (by omega) (by omega)), e1, s_at (by omega) (by decide), bI_s, d1, r_rank (by omega), bI_s, nmM_e, uM_same, s_at (by omega) (by decide), bI_s, uM_diff (by omega), d1, show (20000 : Int32) = nI 20000 from rfl, nI_add, c_add (by rw [uM_diff (by omega)]; exact h.hl) (by omega), bI_s]
    have eN : H_Mod_comesOut_0 s (g + 1) N = if x = 40 then some N else if s = 1 ∧ (x = 43 ∨ x = 45) then some N else H_Mod_comesOut_0 s g (emM (c0 + len) (nI (mk x)) 0 (uM N 401 48 (nI r.length))) := by
      show B_Mod_comesOut_0 s (H_Mod_comesOut_0 s g) N = _
      unfold B_Mod_comesOut_0
      have e1 : nI (r.length + 1) - 1 = nI r.length := by rw [show (1 : Int32) = nI 1 from rfl, nI_sub (by omega)]; rfl
      have eJ : ∀ y, (x = 43 ∨ x = 45 ∨ x = 42 ∨ x = 47) → y = nI (phi x) → J_Mod_comesOut_42 (H_Mod_comesOut_0 s g) s y N = H_Mod_comesOut_0 s g (emM (c0 + len) (nI (mk x)) 0 (uM N 401 48 (nI r.length))) := by
        intro y hx hy
        unfold J_Mod_comesOut_42 J_Mod_comesOut_84
        rw [wn, e1, nmM_e]
        have em : ∀ k : Int32, F_Mod_emit k 0 (uM N 401 48 (nI r.length)) = some (emM (c0 + len) k 0 (uM N 401 48 (nI r.length))) := fun k => m_emit (by rw [uM_diff (by omega)]; exact h.hc) (by omega)
        rw [em, em, em, em]
        rcases hx with rfl | rfl | rfl | rfl <;> subst hy <;> rfl
      rw [wn, if_neg (nI_nle (by omega) (by omega)), e1, if_neg (nI_in (by omega) (by decide)), nI_clamp (by omega), d2, nmI_e]
      rcases hp with ⟨_, rfl⟩ | ⟨_, rfl⟩
      · rcases hx with rfl | rfl | rfl | rfl | rfl
        · rfl
        · rw [if_neg (by decide), if_pos rfl, eJ _ (by decide) rfl]; rfl
        · rw [if_neg (by decide), if_pos rfl, eJ _ (by decide) rfl]; rfl
        · rw [if_neg (by decide), if_pos rfl, eJ _ (by decide) rfl]; rfl
        · rw [if_neg (by decide), if_pos rfl, eJ _ (by decide) rfl]; rfl
      · rcases hx with rfl | rfl | rfl | rfl | rfl
        · rfl
        · rfl
        · rfl
        · rw [if_neg (by decide), if_neg (by decide), if_neg (by decide), if_neg (by decide), eJ _ (by decide) rfl]; rfl
        · rw [if_neg (by decide), if_neg (by decide), if_neg (by decide), if_neg (by decide), eJ _ (by decide) rfl]; rfl
    rw [eM, eN]
    have stop : x = 40 ∨ (p = 2 ∧ x ≠ 42 ∧ x ≠ 47) → ∃ M' N' len' R', some M = some M' ∧ some N = some N' ∧ Ex W b0 c0 len' R' 1 M' N' ∧ len' + R'.length = len + (x :: r).length ∧ cn R' = cn (x :: r) ∧ (∀ y, R'.head? = some y → y = 40 ∨ (p = 2 ∧ y ≠ 42 ∧ y ≠ 47)) ∧ Eo (fun c j => (c = 3 ∧ j = 10) ∨ (c = W ∧ j = 1) ∨ (c = W + 1 ∧ b0 ≤ j)) M M' ∧ Eo (fun c j => (c = 401 ∧ (j = 44 ∨ j = 48)) ∨ ((c = 431 ∨ c = 432) ∧ c0 ≤ j ∧ j < B)) N N' :=
      fun q => ⟨M, N, len, x :: r, rfl, rfl, h, rfl, rfl, fun y hy => by
        have : x = y := Option.some.inj hy
        subst this; exact q, Eo.rf, Eo.rf⟩
    have go : (x = 43 ∨ x = 45 ∨ x = 42 ∨ x = 47) → ∃ M' N' len' R', H_Reader_layHeld_0 W (nI p) f (uM (uM (uM M 3 10 (nI r.length)) (W + 1) (b0 + len) (nI (20000 + x))) W 1 (nI (b0 + len + 1))) = some M' ∧ H_Mod_comesOut_0 s g (emM (c0 + len) (nI (mk x)) 0 (uM N 401 48 (nI r.length))) = some N' ∧ Ex W b0 c0 len' R' 1 M' N' ∧ len' + R'.length = len + (x :: r).length ∧ cn R' = cn (x :: r) ∧ (∀ y, R'.head? = some y → y = 40 ∨ (p = 2 ∧ y ≠ 42 ∧ y ≠ 47)) ∧ Eo (fun c j => (c = 3 ∧ j = 10) ∨ (c = W ∧ j = 1) ∨ (c = W + 1 ∧ b0 ≤ j)) M M' ∧ Eo (fun c j => (c = 401 ∧ (j = 44 ∨ j = 48)) ∨ ((c = 431 ∨ c = 432) ∧ c0 ≤ j ∧ j < B)) N N' := by
      intro hx4
      have hx40 : x ≠ 40 := by omega
      have hsg : sg (x :: r) = sg r + 1 := by simp only [sg, if_neg hx40]
      have hcn : cn (x :: r) = cn r := by simp only [cn, if_neg hx40]; rfl
      have hE0 : Ex W b0 c0 len (x :: r) 1 (uM M 3 10 (nI (r.length + 1))) (uM N 401 48 (nI (r.length + 1))) := by
        have e1 : uM M 3 10 (nI (r.length + 1)) = M := by
          funext c j; rw [uM_at]; split
          · next q => rw [q.1, q.2, hn]
          · rfl
        have e2 : uM N 401 48 (nI (r.length + 1)) = N := by
          funext c j; rw [uM_at]; split
          · next q => rw [q.1, q.2, wn]
          · rfl
        rw [e1, e2]; exact h
      have hcd : Cd (nI (20000 + x)) (nI (mk x)) 0 := by
        rcases hx4 with rfl | rfl | rfl | rfl
        · exact Or.inr (Or.inr (Or.inl ⟨rfl, rfl⟩))
        · exact Or.inr (Or.inr (Or.inr (Or.inl ⟨rfl, rfl⟩)))
        · exact Or.inr (Or.inr (Or.inr (Or.inr (Or.inl ⟨rfl, rfl⟩))))
        · exact Or.inr (Or.inr (Or.inr (Or.inr (Or.inr ⟨rfl, rfl⟩))))
      have hmk : ¬ (nI (mk x)).toInt < 2 := by rcases hx4 with rfl | rfl | rfl | rfl <;> decide
      have hE1 : Ex W b0 c0 (len + 1) r 1 (uM (uM (uM M 3 10 (nI r.length)) (W + 1) (b0 + len) (nI (20000 + x))) W 1 (nI (b0 + len + 1))) (emM (c0 + len) (nI (mk x)) 0 (uM N 401 48 (nI r.length))) := by
        have hp0 : ∀ {M : gM} {N : gM}, M W 1 = nI (b0 + len) → N 401 44 = nI (c0 + len) → Cs W b0 c0 len M N → vdp N c0 len = some (sg (x :: r) + 1) → (∀ k d, k ≤ len → vdp N c0 k = some d → d ≤ 16) → M 3 10 = nI r.length → N 401 48 = nI r.length → Hd M N r → Ex W b0 c0 (len + 1) r 1 (uM (uM M (W + 1) (b0 + len) (nI (20000 + x))) W 1 (nI (b0 + len + 1))) (emM (c0 + len) (nI (mk x)) 0 N) := by
          intro M N a1 a2 a3 a4 a5 a6 a7 a8
          exact Ex.put (e := 2) (R := r) ⟨a1, a2, a3, by rw [a4, hsg], a5, a6, a7, a8, h.ok.1⟩ hW hcd (Or.inr ⟨hmk, rfl, by omega⟩) (by omega) (by rw [uM_diff (by omega), uM_diff (by omega)]; exact a6) a7 a8 h.ok.1
        refine hp0 (by rw [uM_diff (by omega)]; exact h.hl) (by rw [uM_diff (by omega)]; exact h.hc) (fun k hk => by rw [uM_diff (by omega), uM_diff (by omega), uM_diff (by omega)]; exact h.cs k hk) (by rw [vdp_upto len (fun j _ _ => uM_diff (by omega))]; exact h.vd) (fun k d hk hv => h.dp k d hk (by rw [vdp_upto k (fun j _ _ => uM_diff (by omega))] at hv; exact hv)) uM_same uM_same (Hd.keep (fun j => uM_diff (by omega)) (fun j => uM_diff (by omega)) r d3)
      obtain ⟨M', N', len', R', g1, g2, g3, g4, g5, g6, g7, g8⟩ := ih (len + 1) f g _ _ hE1 (by omega) (by omega) (by omega) h3 (by omega) (by omega)
      refine ⟨M', N', len', R', g1, g2, g3, by simp only [List.length_cons]; omega, by omega, g6, Eo.tr ?_ g7, Eo.tr ?_ g8⟩
      · exact ((Eo.rf.u (by omega)).u (by omega)).u (by omega)
      · unfold emM
        exact (((Eo.rf.u (by omega)).u (by omega)).u (by omega)).u (by omega)
    rcases hp with ⟨rfl, rfl⟩ | ⟨rfl, rfl⟩
    · rcases hx with rfl | rfl | rfl | rfl | rfl
      · exact stop (Or.inl rfl)
      · exact go (by decide)
      · exact go (by decide)
      · exact go (by decide)
      · exact go (by decide)
    · rcases hx with rfl | rfl | rfl | rfl | rfl
      · exact stop (Or.inl rfl)
      · exact stop (Or.inr ⟨rfl, by decide, by decide⟩)
      · exact stop (Or.inr ⟨rfl, by decide, by decide⟩)
      · exact go (by decide)
      · exact go (by decide)
end MG11x4
section MG11x5
/-! the whole sum in both parsers -/
section PAR5
variable {b : Nat → Nat} {n m z : Nat}
def XS (b : Nat → Nat) (n m z W b0 c0 B0 t len : Nat) (R : List Nat) (e : Nat) (M : gM) (L : gL) (N : gM) (K : gL) : Prop := Tk b n m M L N K ∧ Lv m t M N ∧ Ex W b0 c0 len R e M N ∧ M 3 11 = nI (cn R) ∧ N 401 12 = nI (cn R) ∧ cn R ≤ 6 ∧ b0 + len + R.length + z ≤ t ∧ c0 + len + R.length + 2 ≤ t + B0
theorem Dd.re {M N M' N' : gM} {u : Nat} (h : Dd b n m M N) (e2 : M' 3 2 = M 3 2) (e3 : M' 3 3 = M 3 3) (f1 : N' 401 13 = N 401 13) (f2 : N' 401 14 = N 401 14) (hu : u ≤ 400) (f3 : N' 401 11 = nI u) : Dd b n m M' N' := by
  obtain ⟨k, ft, u', a1, a2, a3, a4, a5, a6, a7, a8⟩ := h
  exact ⟨k, ft, u, a1, a2, by rw [e2]; exact a3, by rw [e3]; exact a4, by rw [f1]; exact a5, by rw [f2]; exact a6, hu, f3⟩
theorem c_sumD {W : Nat} (hW : isLw W) {k : Nat} {M : gM} {L : gL} (hf : M 3 2 = nI k) (hk : k = 1 ∨ k = 2) (f : Nat) (v2 v3 : Int32) : ∃ M', H_Reader_takeSum_14 W L (f + 1) v2 v3 M = some M' ∧ M' 3 2 = M 3 2 ∧ M' 3 3 = M 3 3 := by
  have hne : M 3 2 ≠ 0 := by rw [hf]; exact nI_ne0 (by omega) (by omega)
  obtain ⟨M', g1, g2⟩ := tq_Reader_layHeld (Wl1 := W) (p2 := 1) (M := M) (L := L) hW
  have hJ : J_Reader_takeSum_89 W M L = some M' := by unfold J_Reader_takeSum_89; rw [g1, bI_s]
  refine ⟨M', ?_, g2.2.2 hne⟩
  show B_Reader_takeSum_14 W L (H_Reader_takeSum_14 W L f) v2 v3 M = _
  unfold B_Reader_takeSum_14
  by_cases h4 : 400 < v3
  · rw [if_pos h4, hJ]
  · rw [if_neg h4, if_neg hne, hJ]
theorem m_expD {K12 : Int32 → gM → Option gM} {v1 : Int32} {k : Nat} {N : gM} (hf : N 401 13 = nI k) (hk : k = 1 ∨ k = 2) (g : Nat) : H_Mod_expression_23 K12 v1 (g + 1) N = some N := by
  show B_Mod_expression_23 K12 v1 (H_Mod_expression_23 K12 v1 g) N = _
  unfold B_Mod_expression_23 J_Mod_expression_84 F_Mod_unit J_Mod_unit_88
  rw [q_isD hf hk, bI_s, if_pos rfl, q_isD hf hk, bI_s, if_pos rfl, if_neg (by rw [hf]; exact nI_ne0 (by omega) (by omega)), q_failD hf hk, bI_s, bI_s, if_neg (by rw [hf]; exact nI_nle (by omega) (by omega))]
theorem m_12D {v1 : Int32} {k : Nat} {N : gM} (hf : N 401 13 = nI k) (hk : k = 1 ∨ k = 2) (g : Nat) : H_Mod_expression_12 v1 (g + 1) 1 N = some N := by
  show B_Mod_expression_12 v1 (H_Mod_expression_12 v1 g) 1 N = _
  unfold B_Mod_expression_12
  rw [if_neg (by decide), if_neg (by rw [hf]; exact nI_ne0 (by omega) (by omega))]
theorem q_goesD {k u : Nat} {N : gM} (hf : N 401 13 = nI k) (hk : k = 1 ∨ k = 2) (hu : N 401 11 = nI u) (hu4 : u ≤ 400) : ∃ N' u', F_Mod_goesOn N = some N' ∧ u' ≤ 400 ∧ N' 401 11 = nI u' ∧ Eo (fun c j => c = 401 ∧ j = 11) N N' := by
  unfold F_Mod_goesOn
  rw [hu]
  by_cases h : u = 400
  · rw [if_pos (by rw [h]; rfl), q_failD hf hk, bI_s]
    exact ⟨N, u, rfl, hu4, hu, Eo.rf⟩
  · rw [if_neg (fun (q : nI u = (400 : Int32)) => h ((nI_eq (a := u) (b := 400) (by omega) (by omega)).mp q)), nmM_e, nI_1]
    exact ⟨_, u + 1, rfl, by omega, uM_same, Eo.rf.u ⟨rfl, rfl⟩⟩
theorem m_96D {W b0 c0 len B : Nat} {R : List Nat} (hW : 12 ≤ W) {K12 : Int32 → gM → Option gM} {k : Nat} {M0 N : gM} (hE : Ex W b0 c0 len R 1 M0 N) (hc : cn R ≤ 6) (h1 : b0 + len + R.length ≤ 400) (h2 : c0 + len + R.length ≤ B) (h3 : B ≤ 840) (hf : N 401 13 = nI k) (hk : k = 1 ∨ k = 2) (g : Nat) :
    ∃ N', H_Mod_expression_96 K12 0 (g + 1) N = some N' ∧ Eo (fun c j => (c = 401 ∧ (j = 44 ∨ j = 48)) ∨ ((c = 431 ∨ c = 432) ∧ c0 ≤ j ∧ j < B)) N N' := by
  obtain ⟨M', N', len', R', g1, g2, g3, g4, g5, g6, g7, g8⟩ := p_lay (B := B) hW (Or.inl ⟨rfl, rfl⟩) R len FU FU M0 N hE hc h1 h2 h3 (by have := (okR_max hE.ok hc).2; unfold FU; omega) (by have := (okR_max hE.ok hc).2; unfold FU; omega)
  refine ⟨N', ?_, g8⟩
  show B_Mod_expression_96 K12 0 (H_Mod_expression_96 K12 0 g) N = _
  unfold B_Mod_expression_96 J_Mod_expression_145 J_Mod_expression_186 J_Mod_expression_191 J_Mod_expression_204 F_Mod_comesOut
  rw [q_isD hf hk, bI_s, if_pos rfl, q_isD hf hk, bI_s, if_pos rfl, q_isD hf hk, bI_s, if_pos rfl, q_isD hf hk, bI_s, if_pos rfl, q_isD hf hk, bI_s, if_pos rfl, if_pos rfl, g2, bI_s]
  by_cases h0 : N 401 12 ≤ 0
  · rw [if_pos h0]
  · rw [if_neg h0, q_failD hf hk, bI_s, g2, bI_s]
theorem Ex.push {W b0 c0 len e e' x : Nat} {R : List Nat} {M N : gM} (h : Ex W b0 c0 len R e M N) (hW : 12 ≤ W) (ok : okR (x :: R)) (hs : sg (x :: R) + e' = sg R + e) : Ex W b0 c0 len (x :: R) e' (uM (uM M 11 R.length (nI x)) 3 10 (nI (R.length + 1))) (uM (uM N 433 R.length (nI (phi x))) 401 48 (nI (R.length + 1))) :=
  ⟨by rw [uM_diff (by omega), uM_diff (by omega)]; exact h.hl, by rw [uM_diff (by omega), uM_diff (by omega)]; exact h.hc,
   fun k hk => by rw [uM_diff (by omega), uM_diff (by omega), uM_diff (by omega), uM_diff (by omega), uM_diff (by omega), uM_diff (by omega)]; exact h.cs k hk,
   by rw [vdp_upto len (fun j _ _ => by rw [uM_diff (by omega), uM_diff (by omega)]), h.vd, hs],
   fun k d hk hv => h.dp k d hk (by rw [vdp_upto k (fun j _ _ => by rw [uM_diff (by omega), uM_diff (by omega)])] at hv; exact hv),
   by rw [uM_same]; rfl, by rw [uM_same]; rfl,
   ⟨by rw [uM_diff (by omega), uM_same], by rw [uM_diff (by omega), uM_same], Hd.keepB R (fun j hj => by rw [uM_diff (by omega), uM_diff (by omega)]) (fun j hj => by rw [uM_diff (by omega), uM_diff (by omega)]) h.hd⟩, ok⟩
theorem Ex.pop {W b0 c0 len e : Nat} {R : List Nat} {M N : gM} {x y : Int32} (h : Ex W b0 c0 len (40 :: R) e M N) (hW : 12 ≤ W) : Ex W b0 c0 len R e (uM (uM M 3 10 (nI R.length)) 3 11 x) (uM (uM N 401 48 (nI R.length)) 401 12 y) :=
  ⟨by rw [uM_diff (by omega), uM_diff (by omega)]; exact h.hl, by rw [uM_diff (by omega), uM_diff (by omega)]; exact h.hc,
   fun k hk => by rw [uM_diff (by omega), uM_diff (by omega), uM_diff (by omega), uM_diff (by omega), uM_diff (by omega), uM_diff (by omega)]; exact h.cs k hk,
   by rw [vdp_upto len (fun j _ _ => by rw [uM_diff (by omega), uM_diff (by omega)])]; exact h.vd,
   fun k d hk hv => h.dp k d hk (by rw [vdp_upto k (fun j _ _ => by rw [uM_diff (by omega), uM_diff (by omega)])] at hv; exact hv),
   by rw [uM_diff (by omega), uM_same], by rw [uM_diff (by omega), uM_same],
   Hd.keep (fun j => by rw [uM_diff (by omega), uM_diff (by omega)]) (fun j => by rw [uM_diff (by omega), uM_diff (by omega)]) R h.hd.2.2, h.ok.1⟩
theorem cS_10 : ∀ c j, cS c j → (c = 3 ∧ j ≠ 10) := fun c j h => by unfold cS at h; omega
theorem mS_44 : ∀ c j, mS c j → (c = 401 ∧ j ≠ 44 ∧ j ≠ 48) := fun c j h => by unfold mS at h; omega
theorem cS_cE {W b0 : Nat} : ∀ c j, cS c j → cE W b0 c j := fun c j h => by unfold cS at h; unfold cE; omega
theorem mS_mE {c0 B : Nat} : ∀ c j, mS c j → mE c0 B c j := fun c j h => by unfold mS at h; unfold mE; omega
theorem Lv.at {M N M' N' : gM} {t : Nat} (h : Lv m t M N) (e1 : M' 3 1 = M 3 1) (e2 : M' 3 2 = M 3 2) (e3 : N' 401 11 = N 401 11) (e4 : N' 401 13 = N 401 13) : Lv m t M' N' := ⟨by rw [e1]; exact h.1, by rw [e2]; exact h.2.1, by rw [e3]; exact h.2.2.1, by rw [e4]; exact h.2.2.2.1, h.2.2.2.2⟩
/-- behind a change of both: the token goes -/
theorem x_take {W b0 c0 B0 t len e : Nat} {R : List Nat} {M M1 N N1 : gM} {L K : gL} (hW : 12 ≤ W) (hT : Tk b n m M L N K) (hl : Lv m t M N) (hE1 : Ex W b0 c0 len R e M1 N1) (hc : Eo (fun c j => cE W b0 c j ∧ ¬ (c = 3 ∧ (j = 1 ∨ j = 2))) M M1) (hm : Eo (fun c j => mE c0 (B0 + 420) c j ∧ ¬ (c = 401 ∧ (j = 11 ∨ j = 13))) N N1) (op : M1 3 11 = nI (cn R)) (oq : N1 401 12 = nI (cn R)) (c6 : cn R ≤ 6) (s1 : b0 + len + R.length + z ≤ t + 1) (s2 : c0 + len + R.length + 2 ≤ t + 1 + B0) (h0 : tkK b n t ≠ 0) (h1 : tkK b n t ≠ 1) :
    ∃ M' N', F_Reader_take M1 = some M' ∧ F_Mod_goesOn N1 = some N' ∧ ((XS b n m z W b0 c0 B0 (t + 1) len R e M' L N' K ∧ Eo (cE W b0) M M') ∨ Dd b n m M' N') ∧ Eo mS N1 N' ∧ Eo (mE c0 (B0 + 420)) N N' := by
  have hT1 : Tk b n m M1 L N1 K := hT.keep (fun j => hc 6 j (by unfold cE; omega)) (fun j => hc 7 j (by unfold cE; omega)) (fun _ => rfl) (fun j => hm 404 j (by unfold mE; omega)) (fun j => hm 405 j (by unfold mE; omega)) (fun j => hm 406 j (by unfold mE; omega)) (fun _ => rfl)
  have hl1 : Lv m t M1 N1 := hl.at (hc 3 1 (by omega)) (hc 3 2 (by omega)) (hm 401 11 (by omega)) (hm 401 13 (by omega))
  obtain ⟨M', N', g1, g2, g3, g4⟩ := p_take hT1 hl1 h0 h1
  have hmm : Eo (mE c0 (B0 + 420)) N N' := (hm.mono (fun c j q => q.1)).tr (g4.mono mS_mE)
  refine ⟨M', N', g1, g2, ?_, g4, hmm⟩
  rcases g3 with ⟨a1, a2⟩ | g3
  · refine Or.inl ⟨⟨hT1.eo (a2.mono cS_cI) (g4.mono mS_mI), a1, hE1.fr hW (a2.mono cS_10) (g4.mono mS_44), ?_, ?_, c6, s1, s2⟩, (hc.mono (fun c j q => q.1)).tr (a2.mono cS_cE)⟩
    · rw [a2 3 11 (by unfold cS; omega)]; exact op
    · rw [g4 401 12 (by unfold mS; omega)]; exact oq
  · exact Or.inr g3
theorem tkK_148 {i : Nat} : tkK b n i ≤ 148 := kdom_le tkK_dom
theorem isOne9 {k : Nat} (h : k ≤ 148) : F_Main_isOne (nI k - 140) 9 = some (if 140 ≤ k then 1 else 0) := (by decide +kernel : ∀ k, k < 149 → F_Main_isOne (nI k - 140) 9 = some (if 140 ≤ k then 1 else 0)) k (by omega)
theorem varC {k : Nat} (h : 140 ≤ k) (h2 : k ≤ 148) : 10000 + nI k - 140 = nI (10000 + (k - 140)) ∧ nI (phi k) - 32 = nI (k - 140) ∧ ¬ nI (phi k) < 32 ∧ ¬ 40 < nI (phi k) := (by decide +kernel : ∀ k, k < 149 → 140 ≤ k → 10000 + nI k - 140 = nI (10000 + (k - 140)) ∧ nI (phi k) - 32 = nI (k - 140) ∧ ¬ nI (phi k) < 32 ∧ ¬ 40 < nI (phi k)) k (by omega) h
theorem phi_lo {k : Nat} (h : kdom k) (h2 : k < 140) : nI (phi k) < 32 := (by decide +kernel : ∀ k, k < 140 → kdomB k = true → nI (phi k) < 32) k h2 (kdomB_iff.mpr h)
/-- what the sum comes to, for both -/
def SumR (b : Nat → Nat) (n m z W b0 c0 B0 t : Nat) (M : gM) (L : gL) (N : gM) (K : gL) (oM oN : Option gM) : Prop := ∃ M' N', oM = some M' ∧ oN = some N' ∧ ((∃ t' len', t ≤ t' ∧ XS b n m z W b0 c0 B0 t' len' [] 1 M' L N' K ∧ Eo (cE W b0) M M') ∨ Dd b n m M' N') ∧ Eo (mE c0 (B0 + 420)) N N'
theorem SumR.from {W b0 c0 B0 t t1 : Nat} {M M1 N N1 : gM} {L K : gL} {oM oN : Option gM} (h : SumR b n m z W b0 c0 B0 t1 M1 L N1 K oM oN) (ht : t ≤ t1) (h1 : Eo (cE W b0) M M1) (h2 : Eo (mE c0 (B0 + 420)) N N1) : SumR b n m z W b0 c0 B0 t M L N K oM oN := by
  obtain ⟨M', N', g1, g2, g3, g4⟩ := h
  refine ⟨M', N', g1, g2, ?_, h2.tr g4⟩
  rcases g3 with ⟨t', len', a1, a2, a3⟩ | g3
  · exact Or.inl ⟨t', len', by omega, a2, h1.tr a3⟩
  · exact Or.inr g3
theorem SumR.dead {W b0 c0 B0 t : Nat} {M M1 N N1 : gM} {L K : gL} {oM oN : Option gM} (hW : isLw W) (hd : Dd b n m M1 N1) (h2 : Eo (mE c0 (B0 + 420)) N N1) (hM : ∃ M', oM = some M' ∧ M' 3 2 = M1 3 2 ∧ M' 3 3 = M1 3 3) (hN : ∃ N', oN = some N' ∧ N' 401 13 = N1 401 13 ∧ N' 401 14 = N1 401 14 ∧ (∃ u, u ≤ 400 ∧ N' 401 11 = nI u) ∧ Eo (mE c0 (B0 + 420)) N1 N') : SumR b n m z W b0 c0 B0 t M L N K oM oN := by
  obtain ⟨M', g1, g2, g3⟩ := hM
  obtain ⟨N', q1, q2, q3, ⟨u, q4, q5⟩, q6⟩ := hN
  exact ⟨M', N', g1, q1, Or.inr (hd.re g2 g3 q2 q3 q4 q5), h2.tr q6⟩
def SU (b : Nat → Nat) (n m z W b0 c0 B0 : Nat) (L K : gL) (d t : Nat) : Prop := ∀ R len v f g1 g2 M N, XS b n m z W b0 c0 B0 t len R 0 M L N K → v + 2 ≤ t → d < f → d < g1 → d < g2 → SumR b n m z W b0 c0 B0 (t + 1) M L N K (H_Reader_takeSum_14 W L f 1 (nI v) M) (H_Mod_expression_23 (H_Mod_expression_12 0 g1) 0 g2 N)
def SS (b : Nat → Nat) (n m z W b0 c0 B0 : Nat) (L K : gL) (d t : Nat) : Prop := ∀ R len v f g1 g2 M N, XS b n m z W b0 c0 B0 t len R 1 M L N K → v + 2 ≤ t → d < f → d < g1 → d < g2 → SumR b n m z W b0 c0 B0 t M L N K (H_Reader_takeSum_14 W L f 0 (nI v) M) (H_Mod_expression_96 (H_Mod_expression_12 0 g1) 0 g2 N)
theorem p_U {W b0 c0 B0 d t : Nat} {L K : gL} (hz : 2 ≤ z) (hW : isLw W) (hB : B0 ≤ 420) (ht : 401 - t = d + 1) (ihU : SU b n m z W b0 c0 B0 L K d (t + 1)) (ihS : SS b n m z W b0 c0 B0 L K d (t + 1)) : SU b n m z W b0 c0 B0 L K (d + 1) t := by
  have h12 := Lw_12 hW
  intro R len v f g1 g2 M N hX hv hf hg1 hg2
  obtain ⟨f, rfl⟩ : ∃ x, f = x + 1 := ⟨f - 1, by omega⟩
  obtain ⟨g2, rfl⟩ : ∃ x, g2 = x + 1 := ⟨g2 - 1, by omega⟩
  obtain ⟨hT, hl, hE, op, oq, c6, s1, s2⟩ := id hX
  have hm := hT.m400
  have htm := hl.2.2.2.2
  have hmax := okR_max hE.ok c6
  have eM : H_Reader_takeSum_14 W L (f + 1) 1 (nI v) M = bI2 (F_Reader_takeUnit W M L) (fun r20 M21 => H_Reader_takeSum_14 W L f r20 (nI (v + 1)) M21) := by
    show B_Reader_takeSum_14 W L (H_Reader_takeSum_14 W L f) 1 (nI v) M = _
    unfold B_Reader_takeSum_14 J_Reader_takeSum_83
    rw [if_neg (by rw [show (400 : Int32) = nI 400 from rfl, nI_ltI (by omega) (by omega)]; omega), hl.2.1, if_pos rfl, if_neg (by decide)]
    simp only [nmI_e, nI_1]
  have eN : H_Mod_expression_23 (H_Mod_expression_12 0 g1) 0 (g2 + 1) N = if tkK b n t = 40 then (if N 401 12 = 6 then bI (F_Mod_fail 2 N) (fun M61 => J_Mod_expression_46 (H_Mod_expression_12 0 g1) (H_Mod_expression_23 (H_Mod_expression_12 0 g1) 0 g2) 0 M61) else J_Mod_expression_46 (H_Mod_expression_12 0 g1) (H_Mod_expression_23 (H_Mod_expression_12 0 g1) 0 g2) 0 N) else J_Mod_expression_84 (H_Mod_expression_12 0 g1) 0 N := by
    show B_Mod_expression_23 (H_Mod_expression_12 0 g1) 0 (H_Mod_expression_23 (H_Mod_expression_12 0 g1) 0 g2) N = _
    unfold B_Mod_expression_23
    rw [q_is hT (k := 40) (kk := 6) rfl (Or.inr (Or.inl rfl)) hl.2.2.1 hl.2.2.2.1 htm, bI_s]
    by_cases e : tkK b n t = 40
    · rw [if_pos e, if_neg (show ¬ (1 : Int32) = 0 by decide), if_pos e]
    · rw [if_neg e, if_pos (show (0 : Int32) = 0 from rfl), if_neg e]
  rw [eM, eN]
  unfold F_Reader_takeUnit
  rw [r_kind hT hl.1 htm, bI_s]
  have hk148 := tkK_148 (b := b) (n := n) (i := t)
  by_cases e40 : tkK b n t = 40
  · rw [if_pos e40, if_pos (by rw [e40]; rfl), op, oq]
    by_cases hc6 : cn R = 6
    · -- too deep
      rw [if_neg (by rw [hc6]; decide), if_pos (by rw [hc6]; rfl)]
      obtain ⟨M1, N1, q1, q2, q3, q4⟩ := p_fail (k := 2) (kk := 2) rfl (Or.inr rfl) (Or.inl ⟨hT, hl⟩)
      rw [q1, bI_s, bI2_s, q2, bI_s]
      obtain ⟨k2, ft, u, x1, x2, x3, x4, x5, x6, x7, x8⟩ := id q3
      refine SumR.dead hW q3 (q4.mono mS_mE) (by obtain ⟨f, rfl⟩ : ∃ x, f = x + 1 := ⟨f - 1, by omega⟩; exact c_sumD hW x3 x1 f _ _) ?_
      unfold J_Mod_expression_46
      rw [nmM_e]
      obtain ⟨N2, u2, y1, y2, y3, y4⟩ := q_goesD (N := uM N1 401 12 (N1 401 12 + 1)) (k := k2) (u := u) (by rw [uM_diff (by omega)]; exact x5) x1 (by rw [uM_diff (by omega)]; exact x8) x7
      have y48 : N2 401 48 = nI R.length := by rw [y4 401 48 (by omega), uM_diff (by omega), q4 401 48 (by unfold mS; omega)]; exact hE.wn
      rw [y1, bI_s, y48, if_neg (nI_in (by omega) (by decide)), nI_clamp (by omega), nmM_e, nmM_e]
      obtain ⟨g2, rfl⟩ : ∃ x, g2 = x + 1 := ⟨g2 - 1, by omega⟩
      have y13 : N2 401 13 = N1 401 13 := by rw [y4 401 13 (by omega), uM_diff (by omega)]
      have y14 : N2 401 14 = N1 401 14 := by rw [y4 401 14 (by omega), uM_diff (by omega)]
      refine ⟨_, m_expD (k := k2) (by rw [uM_diff (by omega), uM_diff (by omega), y13]; exact x5) x1 g2, by rw [uM_diff (by omega), uM_diff (by omega)]; exact y13, by rw [uM_diff (by omega), uM_diff (by omega)]; exact y14, ⟨u2, y2, by rw [uM_diff (by omega), uM_diff (by omega)]; exact y3⟩, ?_⟩
      refine Eo.u (Eo.u (Eo.tr (Eo.rf.u ?_) (y4.mono (fun c j q => ?_))) ?_) ?_ <;> unfold mE <;> omega
    · rw [if_pos (by rw [show (6 : Int32) = nI 6 from rfl, nI_ltI (by omega) (by omega)]; omega), if_neg (fun q => by rw [show (6 : Int32) = nI 6 from rfl, nI_eq (by omega) (by omega)] at q; omega)]
      unfold F_Reader_holdSign J_Mod_expression_46
      rw [nmM_e, uM_diff (by omega), hE.hn, s_put (by omega) (by decide), bI_s, uM_diff (by omega), uM_diff (by omega), hE.hn, nmM_e, bI_s, nmM_e, oq, nI_1, nI_1]
      have hok : okR (40 :: R) := ⟨hE.ok, Or.inl rfl⟩
      have hE0 : Ex W b0 c0 len R 0 (uM M 3 11 (nI (cn R + 1))) (uM N 401 12 (nI (cn R + 1))) := hE.fr h12 (Eo.rf.u ⟨rfl, by omega⟩) (Eo.rf.u ⟨rfl, by omega, by omega⟩)
      have hE1 := hE0.push (x := 40) (e' := 0) h12 hok rfl
      have hcn : cn (40 :: R) = cn R + 1 := rfl
      -- the model's sign is put behind the step
      have hl1 : Lv m t (uM (uM (uM M 3 11 (nI (cn R + 1))) 11 R.length 40) 3 10 (nI (R.length + 1))) (uM N 401 12 (nI (cn R + 1))) := hl.at (by rw [uM_diff (by omega), uM_diff (by omega), uM_diff (by omega)]) (by rw [uM_diff (by omega), uM_diff (by omega), uM_diff (by omega)]) (uM_diff (by omega)) (uM_diff (by omega))
      have hT1 : Tk b n m (uM (uM (uM M 3 11 (nI (cn R + 1))) 11 R.length 40) 3 10 (nI (R.length + 1))) L (uM N 401 12 (nI (cn R + 1))) K := hT.keep (fun j => by rw [uM_diff (by omega), uM_diff (by omega), uM_diff (by omega)]) (fun j => by rw [uM_diff (by omega), uM_diff (by omega), uM_diff (by omega)]) (fun _ => rfl) (fun j => uM_diff (by omega)) (fun j => uM_diff (by omega)) (fun j => uM_diff (by omega)) (fun _ => rfl)
      obtain ⟨M2, N2, q1, q2, q3, q4⟩ := p_take hT1 hl1 (by omega) (by omega)
      have y48 : N2 401 48 = nI R.length := by rw [q4 401 48 (by unfold mS; omega), uM_diff (by omega)]; exact hE.wn
      rw [q1, bI_s, bI2_s, q2, bI_s, y48, if_neg (nI_in (by omega) (by decide)), nI_clamp (by omega), nmM_e, uM_diff (by omega), y48, nmM_e, nI_1]
      have hmE : Eo (mE c0 (B0 + 420)) N (uM (uM N2 433 R.length 6) 401 48 (nI (R.length + 1))) := by
        refine Eo.u (Eo.u (Eo.tr (Eo.rf.u ?_) (q4.mono mS_mE)) ?_) ?_ <;> unfold mE <;> omega
      rcases q3 with ⟨a1, a2⟩ | q3
      · have hE2 : Ex W b0 c0 len (40 :: R) 0 M2 (uM (uM N2 433 R.length 6) 401 48 (nI (R.length + 1))) := hE1.fr h12 (a2.mono cS_10) (fun c j q => by
          rw [uM_at, uM_at, uM_at, uM_at]
          by_cases w1 : c = 401 ∧ j = 48
          · rw [if_pos w1, if_pos w1]
          rw [if_neg w1, if_neg w1]
          by_cases w2 : c = 433 ∧ j = R.length
          · rw [if_pos w2, if_pos w2]; rfl
          rw [if_neg w2, if_neg w2]
          exact q4 c j (fun w => q (mS_44 c j w)))
        have hT2 : Tk b n m M2 L (uM (uM N2 433 R.length 6) 401 48 (nI (R.length + 1))) K := (hT1.eo (a2.mono cS_cI) (q4.mono mS_mI)).keep (fun _ => rfl) (fun _ => rfl) (fun _ => rfl) (fun j => by rw [uM_diff (by omega), uM_diff (by omega)]) (fun j => by rw [uM_diff (by omega), uM_diff (by omega)]) (fun j => by rw [uM_diff (by omega), uM_diff (by omega)]) (fun _ => rfl)
        have hX2 : XS b n m z W b0 c0 B0 (t + 1) len (40 :: R) 0 M2 L (uM (uM N2 433 R.length 6) 401 48 (nI (R.length + 1))) K :=
          ⟨hT2, a1.at rfl rfl (by rw [uM_diff (by omega), uM_diff (by omega)]) (by rw [uM_diff (by omega), uM_diff (by omega)]), hE2, by rw [a2 3 11 (by unfold cS; omega), uM_diff (by omega), uM_diff (by omega), uM_same, hcn], by rw [uM_diff (by omega), uM_diff (by omega), q4 401 12 (by unfold mS; omega), uM_same, hcn], by omega, by simp only [List.length_cons]; omega, by simp only [List.length_cons]; omega⟩
        exact (ihU (40 :: R) len (v + 1) f g1 g2 M2 _ hX2 (by omega) (by omega) (by omega) (by omega)).from (by omega) (by
          refine Eo.tr (Eo.u (Eo.u (Eo.rf.u ?_) ?_) ?_) (a2.mono cS_cE) <;> unfold cE <;> omega) hmE
      · obtain ⟨k2, ft, u, x1, x2, x3, x4, x5, x6, x7, x8⟩ := id q3
        obtain ⟨g2, rfl⟩ : ∃ x, g2 = x + 1 := ⟨g2 - 1, by omega⟩
        obtain ⟨f, rfl⟩ : ∃ x, f = x + 1 := ⟨f - 1, by omega⟩
        refine SumR.dead hW (N1 := uM (uM N2 433 R.length 6) 401 48 (nI (R.length + 1))) (q3.re (u := u) rfl rfl (by rw [uM_diff (by omega), uM_diff (by omega)]) (by rw [uM_diff (by omega), uM_diff (by omega)]) x7 (by rw [uM_diff (by omega), uM_diff (by omega)]; exact x8)) hmE (c_sumD hW x3 x1 f _ _) ⟨_, m_expD (k := k2) (by rw [uM_diff (by omega), uM_diff (by omega)]; exact x5) x1 g2, rfl, rfl, ⟨u, x7, by rw [uM_diff (by omega), uM_diff (by omega)]; exact x8⟩, Eo.rf⟩
  · rw [if_neg e40, if_neg (fun (q : nI (tkK b n t) = (40 : Int32)) => e40 ((nI_eq (a := tkK b n t) (b := 40) (by omega) (by omega)).mp q))]
    unfold J_Mod_expression_84 F_Mod_unit J_Mod_unit_88
    rw [q_is hT (k := 3) (kk := 2) rfl (Or.inl (by decide)) hl.2.2.1 hl.2.2.2.1 htm, bI_s]
    -- a code and the next token
    have hcode : ∀ x kk vv : Int32, Cd x kk vv → kk.toInt < 2 → tkK b n t ≠ 0 → tkK b n t ≠ 1 → SumR b n m z W b0 c0 B0 (t + 1) M L N K (bI2 (bI (F_Law_add W x M) (fun M17 => bI (F_Reader_take M17) (fun M19 => some ((0 : Int32), M19)))) (fun r20 M21 => H_Reader_takeSum_14 W L f r20 (nI (v + 1)) M21)) (bI (bI (F_Mod_emit kk vv N) (fun M13 => bI (F_Mod_goesOn M13) (fun M15 => some M15))) (fun M9 => if M9 401 13 ≤ 0 then H_Mod_expression_96 (H_Mod_expression_12 0 g1) 0 FU M9 else some M9)) := by
      intro x kk vv hcd hlt h0 h1
      rw [c_add hE.hl (by omega), bI_s, m_emit hE.hc (by omega), bI_s]
      have hE1 := hE.put (R' := R) (e' := 1) h12 hcd (Or.inl ⟨hlt, rfl⟩) (by omega) (by rw [uM_diff (by omega), uM_diff (by omega)]; exact hE.hn) hE.wn hE.hd hE.ok
      obtain ⟨M2, N2, q1, q2, q3, q4, q5⟩ := x_take (z := z) (B0 := B0) h12 hT hl hE1 (by
        refine Eo.u (Eo.rf.u ?_) ?_ <;> (refine ⟨?_, ?_⟩ <;> (try unfold cE) <;> omega)) (by
        unfold emM
        refine Eo.u (Eo.u (Eo.rf.u ?_) ?_) ?_ <;> (refine ⟨?_, ?_⟩ <;> (try unfold mE) <;> omega)) (by rw [uM_diff (by omega), uM_diff (by omega)]; exact op) (by unfold emM; rw [uM_diff (by omega), uM_diff (by omega), uM_diff (by omega)]; exact oq) c6 (by omega) (by omega) h0 h1
      rw [q1, bI_s, bI2_s, q2, bI_s, bI_s]
      rcases q3 with ⟨q3, q6⟩ | q3
      · rw [if_pos (by rw [q3.2.1.2.2.2.1]; decide)]
        exact (ihS R (len + 1) (v + 1) f g1 FU M2 N2 q3 (by omega) (by omega) (by omega) (by unfold FU; omega)).from (by omega) q6 q5
      · obtain ⟨k2, ft, u, x1, x2, x3, x4, x5, x6, x7, x8⟩ := id q3
        rw [if_neg (by rw [x5]; exact nI_nle (by omega) (by omega))]
        obtain ⟨f, rfl⟩ : ∃ x, f = x + 1 := ⟨f - 1, by omega⟩
        exact SumR.dead hW q3 q5 (c_sumD hW x3 x1 f _ _) ⟨N2, rfl, rfl, rfl, ⟨u, x7, x8⟩, Eo.rf⟩
    by_cases e3 : tkK b n t = 3
    · have hV := tkV_lt e3
      rw [if_pos e3, if_neg (show ¬ (1 : Int32) = 0 by decide), if_pos (by rw [e3]; rfl), r_value hT hl.1 htm, bI_s, lN_i, hl.2.2.1, if_neg (nI_in (by omega) (by decide)), nI_clamp (by omega), (hT.2.2.1 t (by omega)).2.2.1 e3]
      exact hcode (nI (tkV b n t)) (nI 0) (nI (tkV b n t)) (Or.inl ⟨_, by omega, rfl, rfl, rfl⟩) (by decide) (by omega) (by omega)
    · rw [if_neg e3, if_pos (show (0 : Int32) = 0 from rfl), if_neg (fun (q : nI (tkK b n t) = (3 : Int32)) => e3 ((nI_eq (a := tkK b n t) (b := 3) (by omega) (by omega)).mp q)), isOne9 hk148, bI_s, hl.2.2.2.1, if_pos rfl, hl.2.2.1, if_neg (nI_in (by omega) (by decide)), nI_clamp (by omega), (hT.2.2.1 t (by omega)).1]
      by_cases hvar : 140 ≤ tkK b n t
      · obtain ⟨w1, w2, w3, w4⟩ := varC hvar hk148
        rw [if_pos hvar, if_neg (show ¬ (1 : Int32) = 0 by decide), w1, if_neg w3, if_neg (nI_inc (by omega) (by omega)), if_neg w4, if_neg (nI_inc (by omega) (by omega)), w2]
        exact hcode (nI (10000 + (tkK b n t - 140))) (nI 1) (nI (tkK b n t - 140)) (Or.inr (Or.inl ⟨_, by omega, rfl, rfl, rfl⟩)) (by decide) (by omega) (by omega)
      · rw [if_neg hvar, if_pos (show (0 : Int32) = 0 from rfl), if_pos (phi_lo tkK_dom (by omega))]
        obtain ⟨M1, N1, q1, q2, q3, q4⟩ := p_fail (k := 1) (kk := 1) rfl (Or.inl rfl) (Or.inl ⟨hT, hl⟩)
        obtain ⟨k2, ft, u, x1, x2, x3, x4, x5, x6, x7, x8⟩ := id q3
        obtain ⟨f, rfl⟩ : ∃ x, f = x + 1 := ⟨f - 1, by omega⟩
        rw [q1, bI_s, bI2_s, q2, bI_s, bI_s, if_neg (by rw [x5]; exact nI_nle (by omega) (by omega))]
        exact SumR.dead hW q3 (q4.mono mS_mE) (c_sumD hW x3 x1 f _ _) ⟨N1, rfl, rfl, rfl, ⟨u, x7, x8⟩, Eo.rf⟩
theorem m_145 {t g1 : Nat} {N : gM} (qi : ∀ {kk : Int32} (k : Nat), kk = nI (phi k) → kdom k → F_Mod_is kk N = some (if tkK b n t = k then 1 else 0)) : J_Mod_expression_145 (H_Mod_expression_12 0 g1) 0 N = if tkK b n t = 42 ∨ tkK b n t = 47 then J_Mod_expression_234 (H_Mod_expression_12 0 g1) 0 1 1 N else if tkK b n t = 43 ∨ tkK b n t = 45 then J_Mod_expression_234 (H_Mod_expression_12 0 g1) 0 1 0 N else J_Mod_expression_191 0 N := by
  have n10 : ¬ (1 : Int32) = 0 := by decide
  have p00 : (0 : Int32) = 0 := rfl
  unfold J_Mod_expression_145 J_Mod_expression_181 J_Mod_expression_186 J_Mod_expression_229
  rw [qi (kk := 8) 43 rfl (Or.inr (Or.inl rfl)), qi (kk := 9) 45 rfl (Or.inr (Or.inl rfl)), qi (kk := 10) 42 rfl (Or.inr (Or.inl rfl)), qi (kk := 15) 47 rfl (Or.inr (Or.inl rfl))]
  simp only [bI_s]
  by_cases k1 : tkK b n t = 43
  · have k3 : ¬ tkK b n t = 42 := by omega
    have k4 : ¬ tkK b n t = 47 := by omega
    rw [if_pos k1, if_neg n10, if_neg n10, if_neg k3, if_pos p00, if_neg k4, if_pos p00, if_neg (show ¬ (tkK b n t = 42 ∨ tkK b n t = 47) by omega), if_pos (Or.inl k1)]
  by_cases k2 : tkK b n t = 45
  · have k3 : ¬ tkK b n t = 42 := by omega
    have k4 : ¬ tkK b n t = 47 := by omega
    rw [if_neg k1, if_pos p00, if_pos k2, if_neg n10, if_neg n10, if_neg k3, if_pos p00, if_neg k4, if_pos p00, if_neg (show ¬ (tkK b n t = 42 ∨ tkK b n t = 47) by omega), if_pos (Or.inr k2)]
  by_cases k3 : tkK b n t = 42
  · rw [if_neg k1, if_pos p00, if_neg k2, if_pos p00, if_pos k3, if_neg n10, if_neg n10, if_neg n10, if_pos (Or.inl k3)]
  by_cases k4 : tkK b n t = 47
  · rw [if_neg k1, if_pos p00, if_neg k2, if_pos p00, if_neg k3, if_pos p00, if_pos k4, if_neg n10, if_neg n10, if_pos p00, if_neg n10, if_pos (Or.inr k4)]
  rw [if_neg k1, if_pos p00, if_neg k2, if_pos p00, if_neg k3, if_pos p00, if_neg k4, if_pos p00, if_neg (show ¬ (tkK b n t = 42 ∨ tkK b n t = 47) by omega), if_neg (show ¬ (tkK b n t = 43 ∨ tkK b n t = 45) by omega)]
  exact if_pos trivial
theorem p_S {W b0 c0 B0 d t : Nat} {L K : gL} (hz : 2 ≤ z) (hW : isLw W) (hB : B0 ≤ 420) (ht : 401 - t = d + 1) (ihU : SU b n m z W b0 c0 B0 L K d (t + 1)) (ihS : SS b n m z W b0 c0 B0 L K d (t + 1)) : SS b n m z W b0 c0 B0 L K (d + 1) t := by
  have h12 := Lw_12 hW
  intro R len v f g1 g2 M N hX hv hf hg1 hg2
  obtain ⟨f, rfl⟩ : ∃ x, f = x + 1 := ⟨f - 1, by omega⟩
  obtain ⟨g2, rfl⟩ : ∃ x, g2 = x + 1 := ⟨g2 - 1, by omega⟩
  obtain ⟨hT, hl, hE, op, oq, c6, s1, s2⟩ := id hX
  have hm := hT.m400
  have htm := hl.2.2.2.2
  have hmax := okR_max hE.ok c6
  have hk148 := tkK_148 (b := b) (n := n) (i := t)
  have eM : H_Reader_takeSum_14 W L (f + 1) 0 (nI v) M = if (if tkK b n t = 42 ∨ tkK b n t = 47 then 2 else if tkK b n t = 43 ∨ tkK b n t = 45 then 1 else 0 : Int32) ≤ 0 then (if nI (cn R) ≤ 0 then J_Reader_takeSum_89 W M L else bI (F_Reader_takeClose W M) (fun M15 => H_Reader_takeSum_14 W L f 0 (nI (v + 1)) M15)) else bI (F_Reader_takeSign W M) (fun M18 => H_Reader_takeSum_14 W L f 1 (nI (v + 1)) M18) := by
    show B_Reader_takeSum_14 W L (H_Reader_takeSum_14 W L f) 0 (nI v) M = _
    unfold B_Reader_takeSum_14 J_Reader_takeSum_83
    rw [if_neg (by rw [show (400 : Int32) = nI 400 from rfl, nI_ltI (by omega) (by omega)]; omega), hl.2.1, if_pos rfl, if_pos rfl, r_kind hT hl.1 htm, bI_s, r_rank hk148, bI_s, op]
    simp only [nmI_e, nI_1]
  have qi : ∀ {kk : Int32} (k : Nat), kk = nI (phi k) → kdom k → F_Mod_is kk N = some (if tkK b n t = k then 1 else 0) := fun k e hk => q_is hT e hk hl.2.2.1 hl.2.2.2.1 htm
  have e145 := m_145 (t := t) (g1 := g1) (N := N) (b := b) (n := n) (fun {kk} k e hk => qi k e hk)
  have eN : H_Mod_expression_96 (H_Mod_expression_12 0 g1) 0 (g2 + 1) N = if tkK b n t = 41 ∧ 0 < cn R then bI (F_Mod_comesOut 0 N) (fun M48 => nmM (uM M48 401 48 ((M48 401 48) - 1)) (fun M49 => nmM (uM M49 401 12 ((M49 401 12) - 1)) (fun M50 => bI (F_Mod_goesOn M50) (fun M52 => H_Mod_expression_96 (H_Mod_expression_12 0 g1) 0 g2 M52)))) else J_Mod_expression_145 (H_Mod_expression_12 0 g1) 0 N := by
    show B_Mod_expression_96 (H_Mod_expression_12 0 g1) 0 (H_Mod_expression_96 (H_Mod_expression_12 0 g1) 0 g2) N = _
    unfold B_Mod_expression_96
    rw [qi (kk := 7) 41 rfl (Or.inr (Or.inl rfl)), bI_s, oq]
    by_cases e : tkK b n t = 41
    · rw [if_pos e, if_neg (show ¬ (1 : Int32) = 0 by decide)]
      by_cases hc : 0 < cn R
      · rw [if_neg (nI_nle (by omega) (by omega)), if_pos ⟨e, hc⟩]
      · rw [if_pos (by rw [show cn R = 0 by omega]; decide), if_neg (fun q => hc q.2)]
    · rw [if_neg e, if_pos (show (0 : Int32) = 0 from rfl), if_neg (fun q => e q.1)]
  rw [eM, eN]
  have hRF : R.length < FU := by unfold FU; omega
  -- a sign
  have hsign : ∀ (p : Nat) (s r : Int32), (p = 1 ∧ s = 0) ∨ (p = 2 ∧ s = 1) → F_Reader_rank (nI (tkK b n t)) = some (nI p) → (p = 1 → tkK b n t = 43 ∨ tkK b n t = 45) → (p = 2 → tkK b n t = 42 ∨ tkK b n t = 47) → SumR b n m z W b0 c0 B0 t M L N K (bI (F_Reader_takeSign W M) (fun M18 => H_Reader_takeSum_14 W L f 1 (nI (v + 1)) M18)) (J_Mod_expression_234 (H_Mod_expression_12 0 g1) 0 1 s N) := by
    intro p s r hp hr hk1 hk2
    unfold F_Reader_takeSign J_Mod_expression_234 F_Reader_layHeld F_Mod_comesOut
    obtain ⟨M6, N6, len', R', p1, p2, p3, p4, p5, p6, p7, p8⟩ := p_lay (B := B0 + 420) h12 hp R len FU FU M N hE c6 (by omega) (by omega) (by omega) hRF hRF
    have hmax' := okR_max p3.ok (by omega)
    have p11 : N6 401 11 = nI t := by rw [p8 401 11 (by omega)]; exact hl.2.2.1
    have p404 : N6 404 t = nI (phi (tkK b n t)) := by rw [p8 404 t (by omega)]; exact (hT.2.2.1 t (by omega)).1
    unfold F_Reader_holdSign
    rw [r_kind hT hl.1 htm, bI_s, hr, bI_s, p1, bI_s, p3.hn, s_put (by omega) (by decide), bI_s, uM_diff (by omega), p3.hn, nmM_e, bI_s, p2, bI_s, p11, if_neg (nI_in (by omega) (by decide)), nI_clamp (by omega), p404, p3.wn, if_neg (nI_in (by omega) (by decide)), nI_clamp (by omega), nmM_e, uM_diff (by omega), p3.wn, nmM_e, nI_1]
    have hk40 : tkK b n t ≠ 40 := by rcases hp with ⟨e, _⟩ | ⟨e, _⟩; (have := hk1 e; omega); (have := hk2 e; omega)
    have hok : okR (tkK b n t :: R') := by
      refine ⟨p3.ok, Or.inr ?_⟩
      rcases hp with ⟨e, _⟩ | ⟨e, _⟩
      · exact Or.inl ⟨hk1 e, fun y hy => (p6 y hy).resolve_right (fun q => by omega)⟩
      · refine Or.inr ⟨hk2 e, fun y hy => ?_⟩
        rcases p6 y hy with q | q
        · omega
        · exact q.2
    have hsg : sg (tkK b n t :: R') + 0 = sg R' + 1 := by simp only [sg, if_neg hk40]
    have hcn : cn (tkK b n t :: R') = cn R' := by simp only [cn, if_neg hk40]; rfl
    have hE1 := p3.push (x := tkK b n t) (e' := 0) h12 hok hsg
    obtain ⟨M2, N2, q1, q2, q3, q4, q5⟩ := x_take (z := z) (B0 := B0) h12 hT hl hE1 (by
      refine Eo.u (Eo.u (p7.mono (fun c j q => ?_)) ?_) ?_ <;> (refine ⟨?_, ?_⟩ <;> (try unfold cE) <;> omega)) (by
      refine Eo.u (Eo.u (p8.mono (fun c j q => ?_)) ?_) ?_ <;> (refine ⟨?_, ?_⟩ <;> (try unfold mE) <;> omega)) (by rw [uM_diff (by omega), uM_diff (by omega), p7 3 11 (by omega), op, hcn, p5]) (by rw [uM_diff (by omega), uM_diff (by omega), p8 401 12 (by omega), oq, hcn, p5]) (by omega) (by simp only [List.length_cons]; omega) (by simp only [List.length_cons]; omega) (by omega) (by omega)
    rw [q1, bI_s, bI_s, q2, bI_s]
    obtain ⟨g1, rfl⟩ : ∃ x, g1 = x + 1 := ⟨g1 - 1, by omega⟩
    rcases q3 with ⟨q3, q6⟩ | q3
    · have eK : H_Mod_expression_12 0 (g1 + 1) 1 N2 = H_Mod_expression_23 (H_Mod_expression_12 0 g1) 0 FU N2 := by
        show B_Mod_expression_12 0 (H_Mod_expression_12 0 g1) 1 N2 = _
        unfold B_Mod_expression_12
        rw [if_neg (by decide), q3.2.1.2.2.2.1, if_pos rfl]
      rw [eK]
      exact (ihU _ len' (v + 1) f g1 FU M2 N2 q3 (by omega) (by omega) (by omega) (by unfold FU; omega)).from (by omega) q6 q5
    · obtain ⟨k2, ft, u, x1, x2, x3, x4, x5, x6, x7, x8⟩ := id q3
      obtain ⟨f, rfl⟩ : ∃ x, f = x + 1 := ⟨f - 1, by omega⟩
      exact SumR.dead hW q3 q5 (c_sumD hW x3 x1 f _ _) ⟨N2, m_12D x5 x1 g1, rfl, rfl, ⟨u, x7, x8⟩, Eo.rf⟩
  by_cases hhi : tkK b n t = 42 ∨ tkK b n t = 47
  · rw [if_pos hhi, if_neg (by decide), if_neg (by omega), e145, if_pos hhi]
    exact hsign 2 1 0 (Or.inr ⟨rfl, rfl⟩) (by rw [r_rank hk148, if_pos hhi]; rfl) (fun q => by omega) (fun _ => hhi)
  by_cases hlo : tkK b n t = 43 ∨ tkK b n t = 45
  · rw [if_neg hhi, if_pos hlo, if_neg (by decide), if_neg (by omega), e145, if_neg hhi, if_pos hlo]
    exact hsign 1 0 0 (Or.inl ⟨rfl, rfl⟩) (by rw [r_rank hk148, if_neg hhi, if_pos hlo]; rfl) (fun _ => hlo) (fun q => by omega)
  rw [if_neg hhi, if_neg hlo, if_pos (by decide), e145, if_neg hhi, if_neg hlo]
  obtain ⟨M6, N6, len', R', p1, p2, p3, p4, p5, p6, p7, p8⟩ := p_lay (B := B0 + 420) h12 (Or.inl ⟨rfl, rfl⟩) R len FU FU M N hE c6 (by omega) (by omega) (by omega) hRF hRF
  have hmax' := okR_max p3.ok (by omega)
  by_cases hc0 : cn R = 0
  · -- the end
    have hR' : R' = [] := by
      cases R' with
      | nil => rfl
      | cons y r =>
        have hy : y = 40 := (p6 y rfl).resolve_right (fun q => by omega)
        subst hy
        have : cn (40 :: r) = cn r + 1 := rfl
        omega
    subst hR'
    rw [if_pos (by rw [hc0]; decide), if_neg (by omega)]
    unfold J_Reader_takeSum_89 J_Mod_expression_191 J_Mod_expression_204 F_Reader_layHeld F_Mod_comesOut
    rw [show H_Reader_layHeld_0 W 1 FU M = some M6 from p1, bI_s, oq, if_pos (by rw [hc0]; decide), p2, bI_s]
    have hmE : Eo (mE c0 (B0 + 420)) N N6 := p8.mono (fun c j q => by unfold mE; omega)
    refine ⟨M6, N6, rfl, rfl, Or.inl ⟨t, len', Nat.le_refl _, ⟨?_, ?_, p3, ?_, ?_, Nat.zero_le _, ?_, ?_⟩, p7.mono (fun c j q => by unfold cE; omega)⟩, hmE⟩
    · exact hT.keep (fun j => p7 6 j (by omega)) (fun j => p7 7 j (by omega)) (fun _ => rfl) (fun j => p8 404 j (by omega)) (fun j => p8 405 j (by omega)) (fun j => p8 406 j (by omega)) (fun _ => rfl)
    · exact hl.at (p7 3 1 (by omega)) (p7 3 2 (by omega)) (p8 401 11 (by omega)) (p8 401 13 (by omega))
    · rw [p7 3 11 (by omega), op, hc0]; rfl
    · rw [p8 401 12 (by omega), oq, hc0]; rfl
    · simp only [List.length_nil] at p4 ⊢; omega
    · simp only [List.length_nil] at p4 ⊢; omega
  · rw [if_neg (nI_nle (by omega) (by omega))]
    unfold F_Reader_takeClose
    rw [r_is hT (k := 41) (kk := 41) rfl hl.1 htm (by decide), bI_s]
    by_cases e41 : tkK b n t = 41
    · -- a bracket is closed
      rw [if_pos e41, if_neg (show ¬ (1 : Int32) = 0 by decide), if_pos ⟨e41, by omega⟩]
      obtain ⟨r, rfl⟩ : ∃ r, R' = 40 :: r := by
        cases R' with
        | nil => have : cn [] = 0 := rfl; omega
        | cons y r => exact ⟨r, by rw [(p6 y rfl).resolve_right (fun q => by omega)]⟩
      have hcn : cn (40 :: r) = cn r + 1 := rfl
      have hn := p3.hn
      have wn := p3.wn
      simp only [List.length_cons] at hn wn p4 hmax'
      have e1 : nI (r.length + 1) - 1 = nI r.length := by rw [show (1 : Int32) = nI 1 from rfl, nI_sub (by omega)]; rfl
      have e2 : nI (cn R) - 1 = nI (cn r) := by rw [show (1 : Int32) = nI 1 from rfl, nI_sub (by omega), show cn R - 1 = cn r by omega]
      have o6 : M6 3 11 = nI (cn R) := (p7 3 11 (by omega)).trans op
      have q6' : N6 401 12 = nI (cn R) := (p8 401 12 (by omega)).trans oq
      unfold F_Reader_layHeld F_Mod_comesOut
      rw [show (1 : Int32) = nI 1 from rfl, p1, bI_s, hn, show nI (r.length + 1) - nI 1 = nI r.length from e1, nmM_e, uM_diff (by omega), o6, show nI (cn R) - nI 1 = nI (cn r) from e2, nmM_e, p2, bI_s, wn, nmM_e, uM_diff (by omega), q6', nmM_e, show nI (r.length + 1) - nI 1 = nI r.length from e1, show nI (cn R) - nI 1 = nI (cn r) from e2]
      have hE1 := p3.pop (x := nI (cn r)) (y := nI (cn r)) h12
      obtain ⟨M2, N2, q1, q2, q3, q4, q5⟩ := x_take (z := z) (B0 := B0) h12 hT hl hE1 (by
        refine Eo.u (Eo.u (p7.mono (fun c j q => ?_)) ?_) ?_ <;> (refine ⟨?_, ?_⟩ <;> (try unfold cE) <;> omega)) (by
        refine Eo.u (Eo.u (p8.mono (fun c j q => ?_)) ?_) ?_ <;> (refine ⟨?_, ?_⟩ <;> (try unfold mE) <;> omega)) uM_same uM_same (by omega) (by omega) (by omega) (by omega) (by omega)
      rw [q1, bI_s, bI_s, q2, bI_s]
      rcases q3 with ⟨q3, q6⟩ | q3
      · exact (ihS r len' (v + 1) f g1 g2 M2 N2 q3 (by omega) (by omega) (by omega) (by omega)).from (by omega) q6 q5
      · obtain ⟨k2, ft, u, x1, x2, x3, x4, x5, x6, x7, x8⟩ := id q3
        obtain ⟨f, rfl⟩ : ∃ x, f = x + 1 := ⟨f - 1, by omega⟩
        obtain ⟨g2, rfl⟩ : ∃ x, g2 = x + 1 := ⟨g2 - 1, by omega⟩
        have hE2 := hE1.fr (N' := N2) h12 Eo.rf (q4.mono mS_44)
        obtain ⟨N3, y1, y2⟩ := m_96D (B := B0 + 420) (K12 := H_Mod_expression_12 0 g1) h12 hE2 (by omega) (by omega) (by omega) (by omega) x5 x1 g2
        exact SumR.dead hW q3 q5 (c_sumD hW x3 x1 f _ _) ⟨N3, y1, y2 401 13 (by omega), y2 401 14 (by omega), ⟨u, x7, (y2 401 11 (by omega)).trans x8⟩, y2.mono (fun c j q => by unfold mE; omega)⟩
    · rw [if_neg e41, if_pos (show (0 : Int32) = 0 from rfl), if_neg (fun q => e41 q.1)]
      unfold J_Mod_expression_191 J_Mod_expression_204 F_Mod_comesOut
      rw [oq, if_neg (nI_nle (by omega) (by omega))]
      obtain ⟨M1, N1, q1, q2, q3, q4⟩ := p_fail (k := 1) (kk := 1) rfl (Or.inl rfl) (Or.inl ⟨hT, hl⟩)
      obtain ⟨k2, ft, u, x1, x2, x3, x4, x5, x6, x7, x8⟩ := id q3
      obtain ⟨f, rfl⟩ : ∃ x, f = x + 1 := ⟨f - 1, by omega⟩
      have hE1 := hE.fr (N' := N1) h12 Eo.rf (q4.mono mS_44)
      obtain ⟨M7, N7, len7, R7, r1, r2, r3, r4, r5, r6, r7, r8⟩ := p_lay (B := B0 + 420) h12 (Or.inl ⟨rfl, rfl⟩) R len FU FU M N1 hE1 c6 (by omega) (by omega) (by omega) hRF hRF
      rw [q1, bI_s, bI_s, q2, bI_s, r2, bI_s]
      exact SumR.dead hW q3 (q4.mono mS_mE) (c_sumD hW x3 x1 f _ _) ⟨N7, rfl, r8 401 13 (by omega), r8 401 14 (by omega), ⟨u, x7, (r8 401 11 (by omega)).trans x8⟩, r8.mono (fun c j q => by unfold mE; omega)⟩
theorem p_sumL {W b0 c0 B0 : Nat} {L K : gL} (hz : 2 ≤ z) (hW : isLw W) (hB : B0 ≤ 420) : ∀ (d t : Nat), 401 - t = d → SU b n m z W b0 c0 B0 L K d t ∧ SS b n m z W b0 c0 B0 L K d t := by
  intro d
  induction d with
  | zero =>
    intro t ht
    constructor
    · intro R len v f g1 g2 M N hX
      have := hX.1.m400; have := hX.2.1.2.2.2.2; omega
    · intro R len v f g1 g2 M N hX
      have := hX.1.m400; have := hX.2.1.2.2.2.2; omega
  | succ d ih =>
    intro t ht
    obtain ⟨ihU, ihS⟩ := ih (t + 1) (by omega)
    exact ⟨p_U hz hW hB ht ihU ihS, p_S hz hW hB ht ihU ihS⟩
end PAR5
end MG11x5
