/-! loops over rows -/
theorem fl_cons {M : gM} {a o n : Nat} {v : Nat → Int32} {x : Int32} (hx : x = v 0) : fl (uM M a o x) a (o + 1) n (fun j => v (j + 1)) = fl M a o (n + 1) v := by
  subst hx
  funext c j
  rw [fl_at, fl_at]
  by_cases h : c = a ∧ o + 1 ≤ j ∧ j < o + 1 + n
  · rw [if_pos h, if_pos ⟨h.1, by omega, by omega⟩]
    show v (j - (o + 1) + 1) = v (j - o)
    congr 1
    omega
  · rw [if_neg h]
    by_cases g : c = a ∧ j = o
    · rw [g.1, g.2, uM_same, if_pos ⟨rfl, by omega, by omega⟩, Nat.sub_self]
    · rw [uM_diff g, if_neg (fun q => by
        rcases Nat.lt_or_ge o j with w | w
        · exact h ⟨q.1, by omega, by omega⟩
        · exact g ⟨q.1, by omega⟩)]
theorem fl_in {M : gM} {a o n j : Nat} {v : Nat → Int32} (h : o ≤ j ∧ j < o + n) : fl M a o n v a j = v (j - o) := by rw [fl_at, if_pos ⟨rfl, h⟩]
theorem fl_out {M : gM} {a o n c j : Nat} {v : Nat → Int32} (h : ¬ (c = a ∧ o ≤ j ∧ j < o + n)) : fl M a o n v c j = M c j := by rw [fl_at, if_neg h]
theorem nNI (n : Nat) : Int32.ofNat n = nI n := rfl
theorem wipe_loop {a N : Nat} (hN : N < 2 ^ 31) : ∀ (d k f : Nat) (M : gM), k + d = N → H_Main_wipe_2 a N (f + 1 + d) (nI k) M = some (fl M a k d (fun _ => 0)) := by
  intro d
  induction d with
  | zero =>
    intro k f M h
    show B_Main_wipe_2 a N _ (nI k) M = _
    unfold B_Main_wipe_2
    rw [nNI, if_pos (by rw [nI_leI hN (by omega)]; omega), fl_0]
  | succ d ih =>
    intro k f M h
    show B_Main_wipe_2 a N (H_Main_wipe_2 a N (f + 1 + d)) (nI k) M = _
    unfold B_Main_wipe_2
    rw [nNI, if_neg (by rw [nI_leI hN (by omega)]; omega), if_neg (nI_in (by omega) hN), nI_clamp (by omega), nmM_e, nmI_e, nI_1, ih (k + 1) f _ (by omega)]
    exact congrArg some (fl_cons (v := fun _ => 0) rfl)
theorem s_wipe {a N : Nat} {M : gM} (hN : N ≤ 900) : F_Main_wipe a N M = some (fl M a 0 N (fun _ => 0)) := by
  unfold F_Main_wipe
  obtain ⟨g, hg⟩ := FU_k (1 + N) (by omega)
  rw [hg, ← Nat.add_assoc]
  exact wipe_loop (by omega) N 0 _ M (by omega)
theorem copy_loop {a1 N1 a2 N2 : Nat} (hN : N1 < 2 ^ 31) (hN2 : N2 = N1) (ha : a1 ≠ a2) : ∀ (d k f : Nat) (M : gM), k + d = N1 → H_Main_copyRow_2 a1 N1 a2 N2 (f + 1 + d) (nI k) M = some (fl M a2 k d (fun j => M a1 (k + j))) := by
  subst hN2
  intro d
  induction d with
  | zero =>
    intro k f M h
    show B_Main_copyRow_2 a1 _ a2 _ _ (nI k) M = _
    unfold B_Main_copyRow_2
    rw [nNI, if_pos (by rw [nI_leI hN (by omega)]; omega), fl_0]
  | succ d ih =>
    intro k f M h
    show B_Main_copyRow_2 a1 _ a2 _ (H_Main_copyRow_2 a1 _ a2 _ (f + 1 + d)) (nI k) M = _
    unfold B_Main_copyRow_2
    rw [nNI, if_neg (by rw [nI_leI hN (by omega)]; omega), if_neg (by rw [nI_leI hN (by omega)]; omega), if_neg (nI_in (by omega) hN), if_neg (nI_in (by omega) hN), nI_clamp (by omega), nmM_e, nmI_e, nI_1, ih (k + 1) f _ (by omega)]
    refine congrArg some ?_
    have e : (fun j => uM M a2 k (M a1 k) a1 (k + 1 + j)) = fun j => (fun j => M a1 (k + j)) (j + 1) := by
      funext j
      rw [uM_diff (fun q => ha q.1)]
      show M a1 (k + 1 + j) = M a1 (k + (j + 1))
      congr 1
      omega
    rw [e]
    exact fl_cons (v := fun j => M a1 (k + j)) rfl
theorem s_copyRow {a1 a2 N : Nat} {M : gM} (hN : N ≤ 900) (ha : a1 ≠ a2) : F_Main_copyRow a1 N a2 N M = some (fl M a2 0 N (M a1)) := by
  unfold F_Main_copyRow
  obtain ⟨g, hg⟩ := FU_k (1 + N) (by omega)
  rw [hg, ← Nat.add_assoc]
  refine (copy_loop (by omega) rfl ha N 0 _ M (by omega)).trans ?_
  simp only [Nat.zero_add]
theorem copies_loop : ∀ (d k f : Nat) (M : gM), k + d = 38 → H_Mod_copies_2 (f + 1 + d) (nI k) M = J_Mod_copies_26 (fl M 437 k d (fun j => M 436 (k + j))) := by
  intro d
  induction d with
  | zero =>
    intro k f M h
    show B_Mod_copies_2 _ (nI k) M = _
    unfold B_Mod_copies_2
    rw [show (38 : Int32) = nI 38 from rfl, if_pos (by rw [nI_leI (by omega) (by omega)]; omega), fl_0]
  | succ d ih =>
    intro k f M h
    show B_Mod_copies_2 (H_Mod_copies_2 (f + 1 + d)) (nI k) M = _
    unfold B_Mod_copies_2
    rw [show (38 : Int32) = nI 38 from rfl, if_neg (by rw [nI_leI (by omega) (by omega)]; omega), if_neg (nI_in (by omega) (by omega)), if_neg (nI_in (by omega) (by omega)), nI_clamp (by omega), nmM_e, nmI_e, nI_1, ih (k + 1) f _ (by omega)]
    refine congrArg J_Mod_copies_26 ?_
    have e : (fun j => uM M 437 k (M 436 k) 436 (k + 1 + j)) = fun j => (fun j => M 436 (k + j)) (j + 1) := by
      funext j
      rw [uM_diff (by omega)]
      show M 436 (k + 1 + j) = M 436 (k + (j + 1))
      congr 1
      omega
    rw [e]
    exact fl_cons (v := fun j => M 436 (k + j)) rfl
theorem s_copies {M : gM} {lv : Nat} (hl : M 401 18 = nI lv) (hl2 : lv < 2) : F_Mod_copies M = some (uM (fl M 437 0 38 (M 436)) 401 54 (M 423 lv)) := by
  unfold F_Mod_copies
  obtain ⟨g, hg⟩ := FU_k (1 + 38) (by omega)
  rw [hg, ← Nat.add_assoc]
  refine (copies_loop 38 0 _ M (by omega)).trans ?_
  unfold J_Mod_copies_26
  rw [fl_out (by omega), hl, if_neg (nI_in hl2 (by decide)), nI_clamp (by omega), nmM_e, fl_out (by omega)]
  simp only [Nat.zero_add]
theorem nI_inc {c N : Nat} (h : c < N) (hN : c < 2 ^ 31) : ¬ (nI c < 0 ∨ N ≤ c) := by
  rintro (q | q)
  · exact nI_pos hN q
  · omega
theorem s_put0 {a N : Nat} {M : gM} {x : Int32} (hi : 0 < N) (hN : N < 2 ^ 31) : F_Main_put a N 0 x M = some (uM M a 0 x) := s_put (i := 0) hi hN
theorem s_put1 {a N : Nat} {M : gM} {x : Int32} (hi : 1 < N) (hN : N < 2 ^ 31) : F_Main_put a N 1 x M = some (uM M a 1 x) := s_put (i := 1) hi hN
theorem s_put2 {a N : Nat} {M : gM} {x : Int32} (hi : 2 < N) (hN : N < 2 ^ 31) : F_Main_put a N 2 x M = some (uM M a 2 x) := s_put (i := 2) hi hN
theorem i10 : ((1 : Int32) = 0) = False := eq_false (by decide)
