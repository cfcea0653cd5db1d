/-! ints and names in both parsers -/
section PAR2
variable {b : Nat → Nat} {n m : Nat}
theorem enc10_lt : ∀ (k : Nat) (l : List Nat), l.length = k → (∀ c ∈ l, c ≤ 9) → enc 10 l < 10 ^ k := by
  intro k
  induction k with
  | zero => intro l h _; rw [List.length_eq_zero_iff.mp h]; decide
  | succ k ih =>
    intro l h hc
    have hne : l ≠ [] := fun e => by rw [e] at h; simp at h
    rw [← List.dropLast_concat_getLast hne, enc_s, Nat.pow_succ]
    have h1 := ih l.dropLast (by simp; omega) (fun c hm => hc c (List.dropLast_subset l hm))
    have h2 := hc _ (List.getLast_mem hne)
    omega
theorem tkV_lt {i : Nat} (h : tkK b n i = 3) : tkV b n i < 10000 := by
  unfold tkK tokAt at h
  unfold tkV tokAt
  by_cases h1 : n ≤ tkF b n i
  · rw [if_pos h1] at h; exact absurd (show (0 : Nat) = 3 from h) (by decide)
  rw [if_neg h1] at h ⊢
  by_cases h2 : isLe (b (tkF b n i)) = true
  · rw [if_pos h2] at h
    have h : (if rnE isLe b n (tkF b n i) - tkF b n i ≤ 8 then kwk (tokL b n (tkF b n i)) else 1) = 3 := h
    split at h
    · unfold kwk at h; split at h <;> omega
    · omega
  rw [if_neg h2] at h ⊢
  by_cases h3 : isDi (b (tkF b n i)) = true
  · rw [if_pos h3] at h ⊢
    have h : (if rnE isDi b n (tkF b n i) - tkF b n i ≤ 4 then 3 else 1) = 3 := h
    split at h
    · next g =>
      show enc 10 (tokD b n (tkF b n i)) < 10000
      have hl : (tokD b n (tkF b n i)).length = rnE isDi b n (tkF b n i) - tkF b n i := by simp [tokD]
      refine Nat.lt_of_lt_of_le (enc10_lt _ _ hl ?_) (Nat.le_trans (Nat.pow_le_pow_right (by decide) g) (by decide))
      intro c hc
      simp only [tokD, List.mem_map, List.mem_range] at hc
      obtain ⟨j, hj, rfl⟩ := hc
      have := ((rnE_ge (p := isDi) (b := b) (n := n) _ (tkF b n i) rfl).2.2.1 (tkF b n i + j) (by omega) (by omega)).2
      rw [di_iff] at this
      omega
    · omega
  · rw [if_neg h3] at h ⊢
    show 0 < 10000
    decide
theorem tkV_name {i : Nat} (h : tkK b n i = 2) : tkV b n i = enc 32 (tokL b n (tkF b n i)) ∧ (tokL b n (tkF b n i)).length ≤ 8 ∧ ∀ c ∈ tokL b n (tkF b n i), 1 ≤ c ∧ c ≤ 26 := by
  unfold tkK tokAt at h
  unfold tkV tokAt
  by_cases h1 : n ≤ tkF b n i
  · rw [if_pos h1] at h; exact absurd (show (0 : Nat) = 2 from h) (by decide)
  rw [if_neg h1] at h ⊢
  by_cases h2 : isLe (b (tkF b n i)) = true
  · rw [if_pos h2] at h ⊢
    refine ⟨rfl, ?_, lets_ok (Nat.le_refl _)⟩
    have h : (if rnE isLe b n (tkF b n i) - tkF b n i ≤ 8 then kwk (tokL b n (tkF b n i)) else 1) = 2 := h
    split at h
    · next g => show (lets b (tkF b n i) _).length ≤ 8; rw [lets_len]; exact g
    · omega
  rw [if_neg h2] at h ⊢
  by_cases h3 : isDi (b (tkF b n i)) = true
  · rw [if_pos h3] at h
    have h : (if rnE isDi b n (tkF b n i) - tkF b n i ≤ 4 then 3 else 1) = 2 := h
    split at h <;> omega
  · rw [if_neg h3] at h
    have h : (if isSg (b (tkF b n i)) = true then b (tkF b n i) else 1) = 2 := h
    split at h
    · next g => rw [h] at g; exact absurd g (by decide)
    · omega
/-- the late faults of the one, of the other -/
def lateC (lf k t : Nat) (M : gM) : gM := if lf = 0 then uM (uM M 3 4 (nI k)) 3 5 (nI t) else M
def lateM (lf k p : Nat) (N : gM) : gM := if lf = 0 then uM (uM N 401 15 (nI k)) 401 16 (nI p) else N
theorem lateC_E {lf k t : Nat} {M : gM} : Eo cW M (lateC lf k t M) := by
  unfold lateC
  split
  · exact (Eo.rf.u ⟨rfl, by omega⟩).u ⟨rfl, by omega⟩
  · exact Eo.rf
theorem lateM_E {lf k t : Nat} {M : gM} : Eo mW M (lateM lf k t M) := by
  unfold lateM
  split
  · exact (Eo.rf.u ⟨rfl, by omega⟩).u ⟨rfl, by omega⟩
  · exact Eo.rf
theorem r_late {M : gM} {t k lf : Nat} {kk : Int32} (hkk : kk = nI k) (ht : M 3 1 = nI t) (hL : M 3 4 = nI lf) (hlf : lf ≤ 5) : F_Reader_stopLate kk M = some (lateC lf k t M) := by
  subst hkk
  unfold F_Reader_stopLate lateC
  rw [hL]
  by_cases h0 : lf = 0
  · subst h0
    rw [if_pos (by rfl), if_pos rfl, nmM_e, nmM_e, uM_diff (by omega), ht]
  · rw [if_neg (nI_ne0 (by omega) (by omega)), if_neg h0]
theorem q_late {M N : gM} {L K : gL} (h : Tk b n m M L N K) {t k lf : Nat} {kk : Int32} (hkk : kk = nI k) (htm : t ≤ m) (hf : N 401 13 = 0) (hL : N 401 15 = nI lf) (hlf : lf ≤ 5) (hp : lf ≠ 0 → ∃ la, la < t ∧ N 401 16 = nI (tkF b n la)) : F_Mod_wrong kk (nI t) N = some (lateM lf k (tkF b n t) N) := by
  have hm := h.m400
  have hF := h.F31 htm
  have hn := h.2.2.2
  subst hkk
  unfold F_Mod_wrong lateM
  rw [if_neg (nI_in (by omega) (by decide)), nI_clamp (by omega), nmI_e, (h.2.2.1 t (by omega)).2.1, hf, if_neg (by decide), hL]
  by_cases h0 : lf = 0
  · subst h0
    rw [if_pos (by rfl), if_pos rfl]
    unfold J_Mod_wrong_46
    rw [nmM_e, nmM_e]
  · obtain ⟨la, a1, a3⟩ := hp h0
    have hlt := h.lt a1 htm
    rw [if_neg (nI_ne0 (by omega) (by omega)), if_neg h0, a3, if_pos (by rw [nI_ltI (by omega) (by omega)]; exact hlt)]
/-- once more the same late fault at the same token -/
theorem q_late2 {M N : gM} {L K : gL} (h : Tk b n m M L N K) {t k lf : Nat} (hk : 0 < k ∧ k ≤ 5) (htm : t ≤ m) (hf : N 401 13 = 0) (hL : N 401 15 = nI lf) (hlf : lf ≤ 5) (hp : lf ≠ 0 → ∃ la, la < t ∧ N 401 16 = nI (tkF b n la)) : F_Mod_wrong (nI k) (nI t) (lateM lf k (tkF b n t) N) = some (lateM lf k (tkF b n t) N) := by
  have hm := h.m400
  have hF := h.F31 htm
  have hn := h.2.2.2
  by_cases h0 : lf = 0
  · subst h0
    unfold lateM
    rw [if_pos rfl]
    unfold F_Mod_wrong
    rw [if_neg (nI_in (by omega) (by decide)), nI_clamp (by omega), nmI_e, show uM (uM N 401 15 (nI k)) 401 16 (nI (tkF b n t)) 405 t = nI (tkF b n t) by rw [uM_diff (by omega), uM_diff (by omega)]; exact (h.2.2.1 t (by omega)).2.1, show uM (uM N 401 15 (nI k)) 401 16 (nI (tkF b n t)) 401 13 = 0 by rw [uM_diff (by omega), uM_diff (by omega)]; exact hf, if_neg (by decide), show uM (uM N 401 15 (nI k)) 401 16 (nI (tkF b n t)) 401 15 = nI k by rw [uM_diff (by omega), uM_same], if_neg (nI_ne0 (by omega) (by omega)), show uM (uM N 401 15 (nI k)) 401 16 (nI (tkF b n t)) 401 16 = nI (tkF b n t) from uM_same, if_neg (by rw [nI_ltI (by omega) (by omega)]; omega), if_pos rfl, if_neg (by rw [nI_ltI (by omega) (by omega)]; omega)]
  · have e : lateM lf k (tkF b n t) N = N := by unfold lateM; rw [if_neg h0]
    rw [e, q_late h rfl htm hf hL hlf hp, e]
theorem Lt.late {M N M' N' : gM} {t lf k : Nat} (hL : Lt b n t lf M N) (hk : 0 < k ∧ k ≤ 5) (e4 : M' 3 4 = lateC lf k t M 3 4) (e5 : M' 3 5 = lateC lf k t M 3 5) (e15 : N' 401 15 = lateM lf k (tkF b n t) N 401 15) (e16 : N' 401 16 = lateM lf k (tkF b n t) N 401 16) : ∃ lf', lf' ≠ 0 ∧ Lt b n (t + 1) lf' M' N' := by
  by_cases h0 : lf = 0
  · subst h0
    unfold lateC at e4 e5
    unfold lateM at e15 e16
    rw [if_pos rfl] at e4 e5 e15 e16
    refine ⟨k, by omega, ?_, ?_, hk.2, fun _ => ⟨t, by omega, ?_, ?_⟩⟩
    · rw [e4, uM_diff (by omega), uM_same]
    · rw [e15, uM_diff (by omega), uM_same]
    · rw [e5, uM_same]
    · rw [e16, uM_same]
  · unfold lateC at e4 e5
    unfold lateM at e15 e16
    rw [if_neg h0] at e4 e5 e15 e16
    exact ⟨lf, h0, hL.up (by omega) e4 e5 e15 e16⟩
def cI (c j : Nat) : Prop := c = 3 ∧ 1 ≤ j ∧ j ≤ 5
def mI (c j : Nat) : Prop := c = 401 ∧ (j = 11 ∨ j = 13 ∨ j = 14 ∨ j = 15 ∨ j = 16)
theorem cS_cI : ∀ c j, cS c j → cI c j := fun c j h => by unfold cS at h; unfold cI; omega
theorem cW_cI : ∀ c j, cW c j → cI c j := fun c j h => by unfold cW at h; unfold cI; omega
theorem mS_mI : ∀ c j, mS c j → mI c j := fun c j h => by unfold mS at h; unfold mI; omega
theorem mW_mI : ∀ c j, mW c j → mI c j := fun c j h => by unfold mW at h; unfold mI; omega
theorem Lv.keepW {M N M' N' : gM} {t : Nat} (h : Lv m t M N) (h1 : Eo cW M M') (h2 : Eo mW N N') : Lv m t M' N' :=
  ⟨by rw [h1 3 1 (by unfold cW; omega)]; exact h.1, by rw [h1 3 2 (by unfold cW; omega)]; exact h.2.1, by rw [h2 401 11 (by unfold mW; omega)]; exact h.2.2.1, by rw [h2 401 13 (by unfold mW; omega)]; exact h.2.2.2.1, h.2.2.2.2⟩
theorem Tk.eo {M N M' N' : gM} {L K : gL} (h : Tk b n m M L N K) (h1 : Eo cI M M') (h2 : Eo mI N N') : Tk b n m M' L N' K :=
  h.keep (fun j => h1 6 j (by unfold cI; omega)) (fun j => h1 7 j (by unfold cI; omega)) (fun _ => rfl) (fun j => h2 404 j (by unfold mI; omega)) (fun j => h2 405 j (by unfold mI; omega)) (fun j => h2 406 j (by unfold mI; omega)) (fun _ => rfl)
theorem r_value {M N : gM} {L K : gL} (h : Tk b n m M L N K) {t : Nat} (ht : M 3 1 = nI t) (htm : t ≤ m) : F_Tokens_valueAt (M 3 1) L = some (lN (tkV b n t)) := by
  have hm := h.m400
  unfold F_Tokens_valueAt
  rw [ht, if_neg (nI_pos (by omega)), if_neg (by rw [show (401 : Int32) = nI 401 from rfl, nI_leI (by omega) (by omega)]; omega), if_neg (nI_in (by omega) (by decide)), nI_clamp (by omega), (h.2.1 t htm).2.2]
theorem q_boundD {N : gM} {a c : Int32} {k : Nat} (hf : N 401 13 = nI k) (hk : k = 1 ∨ k = 2) : F_Mod_bounded a c N = some (a, N) := by
  unfold F_Mod_bounded J_Mod_bounded_15
  rw [hf, if_pos (by rw [show (0 : Int32) = nI 0 from rfl, nI_ltI (by omega) (by omega)]; omega), q_failD hf hk, bI_s]
/-- takeInt and bounded -/
theorem p_int {M N : gM} {L K : gL} {t mo lf : Nat} {kk : Int32} (hkk : kk = nI mo) (hmo : mo ≤ 9999) (hl : (Tk b n m M L N K ∧ Lv m t M N ∧ Lt b n t lf M N) ∨ Dd b n m M N) : ∃ r M' r' N', F_Reader_takeInt kk M L = some (r, M') ∧ F_Mod_bounded 0 kk N = some (r', N') ∧
    ((Lv m (t + 1) M' N' ∧ tkK b n t = 3 ∧ r = nI (tkV b n t) ∧ r' = nI (tkV b n t) ∧ (∃ lf', Lt b n (t + 1) lf' M' N' ∧ (lf' = 0 → lf = 0 ∧ tkV b n t ≤ mo)) ∧ Eo cI M M') ∨ Dd b n m M' N') ∧ Eo mI N N' := by
  rcases hl with ⟨h, hl, hL⟩ | hd
  · subst hkk
    have hm := h.m400
    have htm := hl.2.2.2.2
    unfold F_Reader_takeInt F_Mod_bounded
    rw [r_value h hl.1 htm, bI_s, nmI_e, lN_i, r_is h (k := 3) (kk := 3) rfl hl.1 htm (by decide), bI_s, hl.2.2.2.1, if_neg (show ¬ (0 : Int32) < 0 by decide), q_is h (k := 3) (kk := 2) rfl (Or.inl (by decide)) hl.2.2.1 hl.2.2.2.1 htm, bI_s]
    by_cases e : tkK b n t = 3
    · have hV := tkV_lt e
      rw [if_pos e, if_neg (show ¬ (1 : Int32) = 0 by decide), if_neg (show ¬ (1 : Int32) = 0 by decide), hl.2.2.1, if_neg (nI_in (by omega) (by decide)), nI_clamp (by omega), nmI_e, (h.2.2.1 t (by omega)).2.2.1 e, if_neg (show ¬ nI (tkV b n t) < 0 from nI_pos (by omega))]
      unfold J_Reader_takeInt_31 J_Mod_bounded_51 J_Mod_bounded_42
      by_cases hv : tkV b n t ≤ mo
      · have hv' : nI (tkV b n t) ≤ nI mo := by rw [nI_leI (by omega) (by omega)]; exact hv
        rw [if_pos hv', if_pos hv']
        obtain ⟨M', N', g1, g2, g4, g6⟩ := p_take h hl (by omega) (by omega)
        have g1' : F_Reader_need 3 M = some M' := by
          unfold F_Reader_need
          rw [r_is h (k := 3) (kk := 3) rfl hl.1 htm (by decide), bI_s, if_pos e, if_neg (by decide), g1, bI_s]
        rw [g1', bI_s, g2, bI_s]
        refine ⟨_, _, _, _, rfl, rfl, ?_, g6.mono mS_mI⟩
        rcases g4 with ⟨a1, a2⟩ | g3
        · exact Or.inl ⟨a1, e, rfl, rfl, ⟨lf, hL.keep (by omega) a2 g6, fun q => ⟨q, hv⟩⟩, a2.mono cS_cI⟩
        · exact Or.inr g3
      · have hv' : ¬ nI (tkV b n t) ≤ nI mo := by rw [nI_leI (by omega) (by omega)]; exact hv
        rw [if_neg hv', if_neg hv', r_late (k := 5) (kk := 5) rfl hl.1 hL.1 hL.2.2.1, bI_s, hl.2.2.1, q_late h (k := 5) (kk := 5) rfl htm hl.2.2.2.1 hL.2.1 hL.2.2.1 (fun q => by obtain ⟨la, a1, a2, a3⟩ := hL.2.2.2 q; exact ⟨la, a1, a3⟩), bI_s]
        have hl1 := hl.keepW (lateC_E (lf := lf) (k := 5) (t := t)) (lateM_E (lf := lf) (k := 5) (t := tkF b n t))
        have hE1 := (lateC_E (lf := lf) (k := 5) (t := t) (M := M)).mono cW_cI
        have hE2 := (lateM_E (lf := lf) (k := 5) (t := tkF b n t) (M := N)).mono mW_mI
        have h1 := h.eo hE1 hE2
        obtain ⟨M', N', g1, g2, g4, g6⟩ := p_take h1 hl1 (by omega) (by omega)
        have g1' : F_Reader_need 3 (lateC lf 5 t M) = some M' := by
          unfold F_Reader_need
          rw [r_is h1 (k := 3) (kk := 3) rfl hl1.1 htm (by decide), bI_s, if_pos e, if_neg (by decide), g1, bI_s]
        rw [g1', bI_s]
        unfold J_Mod_bounded_51
        rw [g2, bI_s]
        refine ⟨_, _, _, _, rfl, rfl, ?_, hE2.tr (g6.mono mS_mI)⟩
        rcases g4 with ⟨a1, a2⟩ | g3
        · obtain ⟨lf', x1, x2⟩ := hL.late (k := 5) (by decide) (a2 3 4 (by unfold cS; omega)) (a2 3 5 (by unfold cS; omega)) (g6 401 15 (by unfold mS; omega)) (g6 401 16 (by unfold mS; omega))
          exact Or.inl ⟨a1, e, rfl, rfl, ⟨lf', x2, fun q => absurd q x1⟩, hE1.tr (a2.mono cS_cI)⟩
        · exact Or.inr g3
    · rw [if_neg e, if_pos (show (0 : Int32) = 0 from rfl), if_pos (show (0 : Int32) = 0 from rfl)]
      unfold J_Reader_takeInt_31 J_Mod_bounded_15
      obtain ⟨M', N', g1, g2, g3, g5⟩ := p_fail (k := 1) (kk := 1) rfl (Or.inl rfl) (Or.inl ⟨h, hl⟩)
      have g1' : F_Reader_need 3 M = some M' := by
        unfold F_Reader_need
        rw [r_is h (k := 3) (kk := 3) rfl hl.1 htm (by decide), bI_s, if_neg e, if_pos rfl, g1, bI_s]
      rw [g1', bI_s, g2, bI_s]
      exact ⟨_, _, _, _, rfl, rfl, Or.inr g3, g5.mono mS_mI⟩
  · obtain ⟨k2, ft, u, a1, a2, a3, a4, a5, a6, a7, a8⟩ := id hd
    obtain ⟨r, M', e1, -, e2⟩ := tq_Reader_takeInt (p1 := kk) (M := M) (L := L)
    have e3 := e2.2.2 (by rw [a3]; exact nI_ne0 (by omega) (by omega))
    exact ⟨r, M', 0, N, e1, q_boundD a5 a1, Or.inr ⟨k2, ft, u, a1, a2, by rw [e3.1]; exact a3, by rw [e3.2]; exact a4, a5, a6, a7, a8⟩, Eo.rf⟩
end PAR2
