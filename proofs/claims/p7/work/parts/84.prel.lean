/-! both parsers side by side: M, L the class's memory, N, K the model's -/
def kdom (k : Nat) : Prop := k ≤ 3 ∨ isSg k = true ∨ (128 ≤ k ∧ k < 149)
theorem kwk_dom {l : List Nat} : kdom (kwk l) := by
  unfold kwk
  by_cases h : kwF l 21 0 < 21
  · rw [if_pos h]; exact Or.inr (Or.inr ⟨by omega, by omega⟩)
  · rw [if_neg h]; exact Or.inl (by decide)
theorem tkK_dom {b : Nat → Nat} {n i : Nat} : kdom (tkK b n i) := by
  have h1 : kdom 1 := Or.inl (by decide)
  unfold tkK tokAt
  split
  · exact (Or.inl (by decide) : kdom 0)
  · split
    · show kdom (if _ then kwk _ else 1)
      split
      · exact kwk_dom
      · exact h1
    · split
      · show kdom (if _ then 3 else 1)
        split
        · exact (Or.inl (by decide) : kdom 3)
        · exact h1
      · show kdom (if _ then _ else 1)
        split
        · next h => exact Or.inr (Or.inl h)
        · exact h1
theorem kdom_le {k : Nat} (h : kdom k) : k ≤ 148 := by
  rcases h with h | h | h
  · omega
  · rcases Nat.lt_or_ge k 149 with g | g
    · omega
    · have e : ∀ c, isSg c = true → c ≤ 61 := by
        intro c hc
        simp only [isSg, Bool.or_eq_true, beq_iff_eq] at hc
        omega
      have := e k h; omega
  · omega
def kdomB (k : Nat) : Bool := decide (k ≤ 3) || isSg k || (decide (128 ≤ k) && decide (k < 149))
theorem kdomB_iff {k : Nat} : kdomB k = true ↔ kdom k := by unfold kdomB kdom; simp only [Bool.or_eq_true, Bool.and_eq_true, decide_eq_true_eq, or_assoc]
theorem phi_le {k : Nat} (h : k ≤ 148) : phi k ≤ 40 := (by decide +kernel : ∀ k, k < 149 → phi k ≤ 40) k (by omega)
theorem phi_inj {a c : Nat} (ha : kdom a) (hc : kdom c) : phi a = phi c ↔ a = c := by
  constructor
  · have h1 := kdom_le ha
    have h2 := kdom_le hc
    exact (by decide +kernel : ∀ a, a < 149 → ∀ c, c < 149 → kdomB a = true → kdomB c = true → phi a = phi c → a = c) a (by omega) c (by omega) (kdomB_iff.mpr ha) (kdomB_iff.mpr hc)
  · intro e; rw [e]
section PAR
variable {b : Nat → Nat} {n m : Nat}
/-- the tokens, for both -/
def Tk (b : Nat → Nat) (n m : Nat) (M : gM) (L : gL) (N : gM) (K : gL) : Prop := isLast b n m ∧ Ck b n m M L ∧ Ckm b n (m + 1) N K ∧ n ≤ 2000
def Lv (m t : Nat) (M N : gM) : Prop := M 3 1 = nI t ∧ M 3 2 = 0 ∧ N 401 11 = nI t ∧ N 401 13 = 0 ∧ t ≤ m
def Dd (b : Nat → Nat) (n m : Nat) (M N : gM) : Prop := ∃ k ft u : Nat, (k = 1 ∨ k = 2) ∧ ft ≤ m ∧ M 3 2 = nI k ∧ M 3 3 = nI ft ∧ N 401 13 = nI k ∧ N 401 14 = nI (tkF b n ft) ∧ u ≤ 400 ∧ N 401 11 = nI u
theorem tkF_mono {b : Nat → Nat} {n : Nat} : ∀ d i, (∀ j, j < i + d → tkK b n j ≠ 0) → 0 < d → tkF b n i < tkF b n (i + d) := by
  intro d
  induction d with
  | zero => intro i _ h; omega
  | succ d ih =>
    intro i h _
    have step : ∀ i, (∀ j, j < i + 1 → tkK b n j ≠ 0) → tkF b n i < tkF b n (i + 1) := by
      intro i h
      have hP := tkP_le i (fun j hj => h j (by omega))
      have hF := tkF_le hP
      rcases Nat.lt_or_ge (tkF b n i) n with w | w
      · have h2 := tokAt_P (b := b) w
        have h3 := tkF_le (b := b) (n := n) (i := i + 1) (by rw [tkP_s]; exact h2.2)
        rw [tkP_s] at h3
        omega
      · exact absurd (show tkK b n i = 0 by unfold tkK; rw [tokAt_0 w]) (h i (by omega))
    rcases Nat.eq_zero_or_pos d with hd | hd
    · subst hd
      exact step i (fun j hj => h j (by omega))
    · have h1 := ih i (fun j hj => h j (by omega)) hd
      have h2 := step (i + d) (fun j hj => h j (by omega))
      rw [show i + (d + 1) = i + d + 1 by omega]
      omega
theorem Tk.lt {M N : gM} {L K : gL} (h : Tk b n m M L N K) {i j : Nat} (hij : i < j) (hj : j ≤ m) : tkF b n i < tkF b n j := by
  have := tkF_mono (b := b) (n := n) (j - i) i (fun x hx => (h.1.2.1 x (by omega)).1) (by omega)
  rw [show i + (j - i) = j by omega] at this
  exact this
theorem Tk.F31 {M N : gM} {L K : gL} (h : Tk b n m M L N K) {i : Nat} (hi : i ≤ m) : tkF b n i ≤ n := (tkF_le (tkP_le i (fun j hj => (h.1.2.1 j (by omega)).1))).2
theorem Tk.m400 {M N : gM} {L K : gL} (h : Tk b n m M L N K) : m ≤ 400 := h.1.1
/-- the token at t isn't the last one, or it is the 401st -/
theorem Tk.go {M N : gM} {L K : gL} (h : Tk b n m M L N K) {t : Nat} (ht : t ≤ m) (h0 : tkK b n t ≠ 0) (h1 : tkK b n t ≠ 1) : t < m ∨ (t = m ∧ m = 400) := by
  rcases Nat.lt_or_ge t m with w | w
  · exact Or.inl w
  · have e : t = m := by omega
    subst e
    rcases h.1.2.2 with g | g | g
    · exact Or.inr ⟨rfl, g⟩
    · exact absurd g h0
    · exact absurd g h1
theorem Tk.keep {M N M' N' : gM} {L K L' K' : gL} (h : Tk b n m M L N K) (e6 : ∀ j, M' 6 j = M 6 j) (e7 : ∀ j, M' 7 j = M 7 j) (e8 : ∀ j, L' 8 j = L 8 j) (g4 : ∀ j, N' 404 j = N 404 j) (g5 : ∀ j, N' 405 j = N 405 j) (g6 : ∀ j, N' 406 j = N 406 j) (g7 : ∀ j, K' 407 j = K 407 j) : Tk b n m M' L' N' K' :=
  ⟨h.1, fun i hi => by rw [e6, e7, e8]; exact h.2.1 i hi, fun i hi => by rw [g4, g5, g6, g7]; exact h.2.2.1 i hi, h.2.2.2⟩
theorem r_is {M N : gM} {L K : gL} (h : Tk b n m M L N K) {t k : Nat} {kk : Int32} (hkk : kk = nI k) (ht : M 3 1 = nI t) (htm : t ≤ m) (hk : k ≤ 255) : F_Reader_is kk M = some (if tkK b n t = k then 1 else 0) := by
  have hm := h.m400
  have hd := kdom_le (tkK_dom (b := b) (n := n) (i := t))
  subst hkk
  unfold F_Reader_is
  rw [ht, s_at (by omega) (by decide), bI_s, (h.2.1 t htm).1]
  by_cases e : tkK b n t = k
  · rw [if_pos (by rw [e]), if_pos e]
  · rw [if_neg (fun q => e ((nI_eq (by omega) (by omega)).mp q)), if_neg e]
theorem r_kind {M N : gM} {L K : gL} (h : Tk b n m M L N K) {t : Nat} (ht : M 3 1 = nI t) (htm : t ≤ m) : F_Main_at 6 401 (M 3 1) M = some (nI (tkK b n t)) := by
  have hm := h.m400
  rw [ht, s_at (by omega) (by decide), (h.2.1 t htm).1]
theorem q_is {M N : gM} {L K : gL} (h : Tk b n m M L N K) {t k : Nat} {kk : Int32} (hkk : kk = nI (phi k)) (hk : kdom k) (ht : N 401 11 = nI t) (hf : N 401 13 = 0) (htm : t ≤ m) : F_Mod_is kk N = some (if tkK b n t = k then 1 else 0) := by
  have hm := h.m400
  have hd := kdom_le (tkK_dom (b := b) (n := n) (i := t))
  have hp := phi_le hd
  have hp2 := phi_le (kdom_le hk)
  subst hkk
  unfold F_Mod_is
  rw [hf, if_pos rfl, ht, if_neg (nI_in (by omega) (by decide)), nI_clamp (by omega), (h.2.2.1 t (by omega)).1]
  by_cases e : tkK b n t = k
  · rw [if_pos (by rw [e]), if_pos e]
  · rw [if_neg (fun q => e ((phi_inj tkK_dom hk).mp ((nI_eq (by omega) (by omega)).mp q))), if_neg e]
theorem q_isD {N : gM} {kk : Int32} {k : Nat} (hf : N 401 13 = nI k) (hk : k = 1 ∨ k = 2) : F_Mod_is kk N = some 0 := by
  unfold F_Mod_is
  rw [hf, if_neg (nI_ne0 (by omega) (by omega))]
theorem q_failD {N : gM} {kk : Int32} {k : Nat} (hf : N 401 13 = nI k) (hk : k = 1 ∨ k = 2) : F_Mod_fail kk N = some N := by
  unfold F_Mod_fail
  rw [hf, if_neg (nI_nle (by omega) (by omega))]
theorem q_fail {M N : gM} {L K : gL} (h : Tk b n m M L N K) {t : Nat} {kk : Int32} (ht : N 401 11 = nI t) (hf : N 401 13 = 0) (htm : t ≤ m) : F_Mod_fail kk N = some (uM (uM N 401 13 kk) 401 14 (nI (tkF b n t))) := by
  have hm := h.m400
  unfold F_Mod_fail
  rw [hf, if_pos (by decide), nmM_e, uM_diff (by omega), ht, if_neg (nI_in (by omega) (by decide)), nI_clamp (by omega), nmM_e, uM_diff (by omega), (h.2.2.1 t (by omega)).2.1]
theorem r_stop {M : gM} {kk : Int32} {t : Nat} (ht : M 3 1 = nI t) (hf : M 3 2 = 0) : F_Reader_stop kk M = some (uM (uM M 3 2 kk) 3 3 (nI t)) := by
  unfold F_Reader_stop
  rw [hf, if_pos rfl, nmM_e, uM_diff (by omega), ht, nmM_e]
theorem r_stopD {M : gM} {kk : Int32} {k : Nat} (hf : M 3 2 = nI k) (hk : k = 1 ∨ k = 2) : F_Reader_stop kk M = some M := by
  unfold F_Reader_stop
  rw [hf, if_neg (nI_ne0 (by omega) (by omega))]
/-- what the small steps may change -/
def cS (c j : Nat) : Prop := c = 3 ∧ (j = 1 ∨ j = 2 ∨ j = 3)
def mS (c j : Nat) : Prop := c = 401 ∧ (j = 11 ∨ j = 13 ∨ j = 14)
theorem Dd.mk1 {M N : gM} {L K : gL} (h : Tk b n m M L N K) {t k : Nat} (hl : Lv m t M N) (hk : k = 1 ∨ k = 2) : Dd b n m (uM (uM M 3 2 (nI k)) 3 3 (nI t)) (uM (uM N 401 13 (nI k)) 401 14 (nI (tkF b n t))) := by
  have hm := h.m400
  have := hl.2.2.2.2
  exact ⟨k, t, t, hk, hl.2.2.2.2, by rw [uM_diff (by omega), uM_same], uM_same, by rw [uM_diff (by omega), uM_same], uM_same, by omega, by rw [uM_diff (by omega), uM_diff (by omega)]; exact hl.2.2.1⟩
theorem cS_E {M : gM} {k : Int32} {t : Nat} : Eo cS M (uM (uM M 3 2 k) 3 3 (nI t)) := (Eo.rf.u ⟨rfl, by omega⟩).u ⟨rfl, by omega⟩
theorem mS_E {N : gM} {k : Int32} {t : Nat} : Eo mS N (uM (uM N 401 13 k) 401 14 (nI t)) := (Eo.rf.u ⟨rfl, by omega⟩).u ⟨rfl, by omega⟩
theorem p_fail {M N : gM} {L K : gL} {t k : Nat} {kk : Int32} (hkk : kk = nI k) (hk : k = 1 ∨ k = 2) (hl : (Tk b n m M L N K ∧ Lv m t M N) ∨ Dd b n m M N) : ∃ M' N', F_Reader_stop kk M = some M' ∧ F_Mod_fail kk N = some N' ∧ Dd b n m M' N' ∧ Eo mS N N' := by
  subst hkk
  rcases hl with ⟨h, hl⟩ | hd
  · exact ⟨_, _, r_stop hl.1 hl.2.1, q_fail h hl.2.2.1 hl.2.2.2.1 hl.2.2.2.2, Dd.mk1 h hl hk, mS_E⟩
  · obtain ⟨k2, ft, u, a1, a2, a3, a4, a5, a6, a7, a8⟩ := id hd
    exact ⟨M, N, r_stopD a3 a1, q_failD a5 a1, hd, Eo.rf⟩
theorem Lv.nd {M N : gM} {t : Nat} (hl : Lv m t M N) : ¬ Dd b n m M N := by
  rintro ⟨k2, ft, u, a1, a2, a3, a4, a5, a6, a7, a8⟩
  rw [hl.2.1] at a3
  exact nI_ne0 (show 0 < k2 by omega) (by omega) a3.symm
/-- take and goesOn, where the token at t isn't END or BAD -/
theorem p_take {M N : gM} {L K : gL} (h : Tk b n m M L N K) {t : Nat} (hl : Lv m t M N) (h0 : tkK b n t ≠ 0) (h1 : tkK b n t ≠ 1) : ∃ M' N', F_Reader_take M = some M' ∧ F_Mod_goesOn N = some N' ∧ ((Lv m (t + 1) M' N' ∧ Eo cS M M') ∨ Dd b n m M' N') ∧ Eo mS N N' := by
  have hm := h.m400
  have htm := hl.2.2.2.2
  unfold F_Reader_take F_Mod_goesOn
  rcases h.go htm h0 h1 with w | ⟨w, w2⟩
  · refine ⟨uM M 3 1 (nI (t + 1)), uM N 401 11 (nI (t + 1)), ?_, ?_, Or.inl ⟨⟨uM_same, by rw [uM_diff (by omega)]; exact hl.2.1, uM_same, by rw [uM_diff (by omega)]; exact hl.2.2.2.1, by omega⟩, Eo.rf.u ⟨rfl, by omega⟩⟩, Eo.rf.u ⟨rfl, by omega⟩⟩
    · rw [hl.2.1, if_pos rfl, hl.1, if_pos (by rw [show (400 : Int32) = nI 400 from rfl, nI_ltI (by omega) (by omega)]; omega), nmM_e, nI_1]
    · rw [hl.2.2.1, if_neg (fun q => by rw [show (400 : Int32) = nI 400 from rfl, nI_eq (by omega) (by omega)] at q; omega), nmM_e, nI_1]
  · refine ⟨uM (uM M 3 2 2) 3 3 (nI t), uM (uM N 401 13 2) 401 14 (nI (tkF b n t)), ?_, ?_, Or.inr (Dd.mk1 (k := 2) h hl (Or.inr rfl)), mS_E⟩
    · rw [hl.2.1, if_pos rfl, hl.1, if_neg (by rw [show (400 : Int32) = nI 400 from rfl, nI_ltI (by omega) (by omega)]; omega), r_stop hl.1 hl.2.1, bI_s]
    · rw [hl.2.2.1, if_pos (by rw [w, w2]; rfl), q_fail h hl.2.2.1 hl.2.2.2.1 htm, bI_s]
theorem r_takeD {M : gM} {k : Nat} (hf : M 3 2 = nI k) (hk : k = 1 ∨ k = 2) : F_Reader_take M = some M := by
  unfold F_Reader_take
  rw [hf, if_neg (nI_ne0 (by omega) (by omega))]
theorem r_needD {M : gM} {kk : Int32} {k : Nat} (hf : M 3 2 = nI k) (hk : k = 1 ∨ k = 2) : F_Reader_need kk M = some M := by
  obtain ⟨r, f1, -⟩ := tf_Main_at (a1 := 6) (N1 := 401) (p2 := M 3 1) (M := M) (by decide)
  unfold F_Reader_need F_Reader_is
  rw [f1, bI_s]
  by_cases g : r = kk
  · rw [if_pos g, bI_s, if_neg (by decide), r_takeD hf hk, bI_s]
  · rw [if_neg g, bI_s, if_pos rfl, r_stopD hf hk, bI_s]
theorem q_mustD {N : gM} {kk : Int32} {k : Nat} (hf : N 401 13 = nI k) (hk : k = 1 ∨ k = 2) : F_Mod_must kk N = some N := by
  unfold F_Mod_must
  rw [q_isD hf hk, bI_s, if_pos rfl, q_failD hf hk, bI_s]
/-- need and must -/
theorem p_need {M N : gM} {L K : gL} {t k : Nat} {kk kq : Int32} (hkk : kk = nI k) (hkq : kq = nI (phi k)) (hk : kdom k) (h2 : 2 ≤ k) (hl : (Tk b n m M L N K ∧ Lv m t M N) ∨ Dd b n m M N) : ∃ M' N', F_Reader_need kk M = some M' ∧ F_Mod_must kq N = some N' ∧ ((Lv m (t + 1) M' N' ∧ Lv m t M N ∧ tkK b n t = k ∧ Eo cS M M') ∨ Dd b n m M' N') ∧ Eo mS N N' := by
  rcases hl with ⟨h, hl⟩ | hd
  · have hm := h.m400
    unfold F_Reader_need F_Mod_must
    rw [r_is h hkk hl.1 hl.2.2.2.2 (Nat.le_trans (kdom_le hk) (by decide)), bI_s, q_is h hkq hk hl.2.2.1 hl.2.2.2.1 hl.2.2.2.2, bI_s]
    by_cases e : tkK b n t = k
    · rw [if_pos e, if_neg (by decide), if_neg (by decide)]
      obtain ⟨M', N', g1, g2, g4, g6⟩ := p_take h hl (by omega) (by omega)
      rw [g1, bI_s, g2, bI_s]
      refine ⟨M', N', rfl, rfl, ?_, g6⟩
      rcases g4 with g4 | g4
      · exact Or.inl ⟨g4.1, hl, e, g4.2⟩
      · exact Or.inr g4
    · rw [if_neg e, if_pos rfl, if_pos rfl]
      obtain ⟨M', N', g1, g2, g3, g5⟩ := p_fail (k := 1) (kk := 1) rfl (Or.inl rfl) (Or.inl ⟨h, hl⟩)
      rw [g1, bI_s, g2, bI_s]
      exact ⟨M', N', rfl, rfl, Or.inr g3, g5⟩
  · obtain ⟨k2, ft, u, a1, a2, a3, a4, a5, a6, a7, a8⟩ := id hd
    exact ⟨M, N, r_needD a3 a1, q_mustD a5 a1, Or.inr hd, Eo.rf⟩
/-- a late fault -/
def Lt (b : Nat → Nat) (n t lf : Nat) (M N : gM) : Prop := M 3 4 = nI lf ∧ N 401 15 = nI lf ∧ lf ≤ 5 ∧ (lf ≠ 0 → ∃ la, la < t ∧ M 3 5 = nI la ∧ N 401 16 = nI (tkF b n la))
theorem Lt.up {M N M' N' : gM} {t t' lf : Nat} (h : Lt b n t lf M N) (ht : t ≤ t') (e1 : M' 3 4 = M 3 4) (e2 : M' 3 5 = M 3 5) (e3 : N' 401 15 = N 401 15) (e4 : N' 401 16 = N 401 16) : Lt b n t' lf M' N' := by
  refine ⟨by rw [e1]; exact h.1, by rw [e3]; exact h.2.1, h.2.2.1, fun q => ?_⟩
  obtain ⟨la, a1, a2, a3⟩ := h.2.2.2 q
  exact ⟨la, by omega, by rw [e2]; exact a2, by rw [e4]; exact a3⟩
theorem Lt.keep {M N M' N' : gM} {t t' lf : Nat} (h : Lt b n t lf M N) (ht : t ≤ t') (h1 : Eo cS M M') (h2 : Eo mS N N') : Lt b n t' lf M' N' := h.up ht (h1 3 4 (by unfold cS; omega)) (h1 3 5 (by unfold cS; omega)) (h2 401 15 (by unfold mS; omega)) (h2 401 16 (by unfold mS; omega))
def cW (c j : Nat) : Prop := c = 3 ∧ (j = 4 ∨ j = 5)
def mW (c j : Nat) : Prop := c = 401 ∧ (j = 15 ∨ j = 16)
end PAR
