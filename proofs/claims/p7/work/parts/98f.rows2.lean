/-! the model's rows, exactly -/
section PAR21
theorem keeps_loop  : ∀ (d k f : Nat) (M : gM), k + d = 38 → H_Mod_keepsRow_2 (f + 1 + d) (nI k) M = some (fl M 436 (k) d (fun j => M 437 (k + j))) := by
  intro d
  induction d with
  | zero =>
    intro k f M h
    show B_Mod_keepsRow_2 _ (nI k) M = _
    unfold B_Mod_keepsRow_2
    rw [show (38 : Int32) = nI 38 from rfl, if_pos (by rw [nI_leI (by omega) (by omega)]; omega), fl_0]
  | succ d ih =>
    intro k f M h
    show B_Mod_keepsRow_2 (H_Mod_keepsRow_2 (f + 1 + d)) (nI k) M = _
    unfold B_Mod_keepsRow_2
    rw [show (38 : Int32) = nI 38 from rfl, if_neg (by rw [nI_leI (by omega) (by omega)]; omega), if_neg (nI_in (by omega) (by omega)), if_neg (nI_in (by omega) (by omega)), nI_clamp (by omega), nmM_e, nmI_e, nI_1, ih (k + 1) f _ (by omega)]
    refine congrArg some ?_
    have e : (fun j => uM M 436 k (M 437 k) 437 ((k + 1) + j)) = fun j => (fun j => M 437 (k + j)) (j + 1) := by
      funext j
      rw [uM_diff (by omega)]
      show M 437 _ = M 437 _
      congr 1 <;> omega
    rw [e]
    exact fl_cons (v := fun j => M 437 (k + j)) rfl
theorem s_keepsRow {M : gM} : F_Mod_keepsRow M = some (fl M 436 0 38 (M 437)) := by
  unfold F_Mod_keepsRow
  obtain ⟨g, hg⟩ := FU_k (1 + 38) (by omega)
  rw [hg, ← Nat.add_assoc]
  refine (keeps_loop 38 0 _ M (by omega)).trans ?_
  simp only [Nat.zero_add]
theorem undo_loop {u : Nat} (hu : u < 40) : ∀ (d k f : Nat) (M : gM), M 401 57 = nI u → k + d = 38 → H_Mod_undo_21 (f + 1 + d) (nI k) M = (fun M => some (1, M)) (fl M 436 (k) d (fun j => M 440 (38 * u + k + j))) := by
  intro d
  induction d with
  | zero =>
    intro k f M hM h
    show B_Mod_undo_21 _ (nI k) M = _
    unfold B_Mod_undo_21
    rw [show (38 : Int32) = nI 38 from rfl, if_pos (by rw [nI_leI (by omega) (by omega)]; omega), fl_0]
  | succ d ih =>
    intro k f M hM h
    show B_Mod_undo_21 (H_Mod_undo_21 (f + 1 + d)) (nI k) M = _
    unfold B_Mod_undo_21
    rw [show (38 : Int32) = nI 38 from rfl, if_neg (by rw [nI_leI (by omega) (by omega)]; omega), hM, nI_mul, nI_add, if_neg (nI_in (by omega) (by omega)), if_neg (nI_in (by omega) (by omega)), nI_clamp (by omega), nI_clamp (by omega), nmM_e, nmI_e, nI_1, ih (k + 1) f _ ((uM_diff (by omega)).trans hM) (by omega)]
    refine congrArg (fun M => some (1, M)) ?_
    have e : (fun j => uM M 436 k (M 440 (38 * u + k)) 440 (38 * u + (k + 1) + j)) = fun j => (fun j => M 440 (38 * u + k + j)) (j + 1) := by
      funext j
      rw [uM_diff (by omega)]
      show M 440 _ = M 440 _
      congr 1 <;> omega
    rw [e]
    exact fl_cons (v := fun j => M 440 (38 * u + k + j)) rfl
theorem hold_loop {s : Nat} (hs : s < 3) : ∀ (d k f : Nat) (M : gM), k + d = 38 → H_Mod_hold_20 (nI s) (f + 1 + d) (nI k) M = (fun M => some (1, M)) (fl M 446 (38 * s + k) d (fun j => M 436 (k + j))) := by
  intro d
  induction d with
  | zero =>
    intro k f M h
    show B_Mod_hold_20 (nI s) _ (nI k) M = _
    unfold B_Mod_hold_20
    rw [show (38 : Int32) = nI 38 from rfl, if_pos (by rw [nI_leI (by omega) (by omega)]; omega), fl_0]
  | succ d ih =>
    intro k f M h
    show B_Mod_hold_20 (nI s) (H_Mod_hold_20 (nI s) (f + 1 + d)) (nI k) M = _
    unfold B_Mod_hold_20
    rw [show (38 : Int32) = nI 38 from rfl, if_neg (by rw [nI_leI (by omega) (by omega)]; omega), nI_mul, nI_add, if_neg (nI_in (by omega) (by omega)), if_neg (nI_in (by omega) (by omega)), nI_clamp (by omega), nI_clamp (by omega), nmM_e, nmI_e, nI_1, ih (k + 1) f _ (by omega)]
    refine congrArg (fun M => some (1, M)) ?_
    have e : (fun j => uM M 446 (38 * s + k) (M 436 k) 436 ((k + 1) + j)) = fun j => (fun j => M 436 (k + j)) (j + 1) := by
      funext j
      rw [uM_diff (by omega)]
      show M 436 _ = M 436 _
      congr 1 <;> omega
    rw [e, show 38 * s + (k + 1) = 38 * s + k + 1 by omega]
    exact fl_cons (v := fun j => M 436 (k + j)) rfl
theorem restore_loop {s : Nat} (hs : s < 3) : ∀ (d k f : Nat) (M : gM), k + d = 38 → H_Mod_restore_22 (nI s) (f + 1 + d) (nI k) M = J_Mod_restore_51 (fl M 436 (k) d (fun j => M 446 (38 * s + k + j))) := by
  intro d
  induction d with
  | zero =>
    intro k f M h
    show B_Mod_restore_22 (nI s) _ (nI k) M = _
    unfold B_Mod_restore_22
    rw [show (38 : Int32) = nI 38 from rfl, if_pos (by rw [nI_leI (by omega) (by omega)]; omega), fl_0]
  | succ d ih =>
    intro k f M h
    show B_Mod_restore_22 (nI s) (H_Mod_restore_22 (nI s) (f + 1 + d)) (nI k) M = _
    unfold B_Mod_restore_22
    rw [show (38 : Int32) = nI 38 from rfl, if_neg (by rw [nI_leI (by omega) (by omega)]; omega), nI_mul, nI_add, if_neg (nI_in (by omega) (by omega)), if_neg (nI_in (by omega) (by omega)), nI_clamp (by omega), nI_clamp (by omega), nmM_e, nmI_e, nI_1, ih (k + 1) f _ (by omega)]
    refine congrArg J_Mod_restore_51 ?_
    have e : (fun j => uM M 436 k (M 446 (38 * s + k)) 446 (38 * s + (k + 1) + j)) = fun j => (fun j => M 446 (38 * s + k + j)) (j + 1) := by
      funext j
      rw [uM_diff (by omega)]
      show M 446 _ = M 446 _
      congr 1 <;> omega
    rw [e]
    exact fl_cons (v := fun j => M 446 (38 * s + k + j)) rfl
theorem rec51_loop {u : Nat} (hu : u < 40) : ∀ (d k f : Nat) (M : gM), M 401 57 = nI u → k + d = 38 → H_Mod_records_51 (f + 1 + d) (nI k) M = J_Mod_records_83 (fl M 440 (38 * u + k) d (fun j => M 436 (k + j))) := by
  intro d
  induction d with
  | zero =>
    intro k f M hM h
    show B_Mod_records_51 _ (nI k) M = _
    unfold B_Mod_records_51
    rw [show (38 : Int32) = nI 38 from rfl, if_pos (by rw [nI_leI (by omega) (by omega)]; omega), fl_0]
  | succ d ih =>
    intro k f M hM h
    show B_Mod_records_51 (H_Mod_records_51 (f + 1 + d)) (nI k) M = _
    unfold B_Mod_records_51
    rw [show (38 : Int32) = nI 38 from rfl, if_neg (by rw [nI_leI (by omega) (by omega)]; omega), hM, nI_mul, nI_add, if_neg (nI_in (by omega) (by omega)), if_neg (nI_in (by omega) (by omega)), nI_clamp (by omega), nI_clamp (by omega), nmM_e, nmI_e, nI_1, ih (k + 1) f _ ((uM_diff (by omega)).trans hM) (by omega)]
    refine congrArg J_Mod_records_83 ?_
    have e : (fun j => uM M 440 (38 * u + k) (M 436 k) 436 ((k + 1) + j)) = fun j => (fun j => M 436 (k + j)) (j + 1) := by
      funext j
      rw [uM_diff (by omega)]
      show M 436 _ = M 436 _
      congr 1 <;> omega
    rw [e, show 38 * u + (k + 1) = 38 * u + k + 1 by omega]
    exact fl_cons (v := fun j => M 436 (k + j)) rfl
theorem rec11_loop : ∀ (d k f : Nat) (M : gM), k + d = 1482 → H_Mod_records_11 (f + 1 + d) (nI k) M = J_Mod_records_39 (fl M 440 k d (fun j => M 440 (k + j + 38))) := by
  intro d
  induction d with
  | zero =>
    intro k f M h
    show B_Mod_records_11 _ (nI k) M = _
    unfold B_Mod_records_11
    rw [show (1482 : Int32) = nI 1482 from rfl, if_pos (by rw [nI_leI (by omega) (by omega)]; omega), fl_0]
  | succ d ih =>
    intro k f M h
    show B_Mod_records_11 (H_Mod_records_11 (f + 1 + d)) (nI k) M = _
    unfold B_Mod_records_11
    rw [show (1482 : Int32) = nI 1482 from rfl, show (38 : Int32) = nI 38 from rfl, if_neg (by rw [nI_leI (by omega) (by omega)]; omega), nI_add, if_neg (nI_in (by omega) (by omega)), if_neg (nI_in (by omega) (by omega)), nI_clamp (by omega), nI_clamp (by omega), nmM_e, nmI_e, nI_1, ih (k + 1) f _ (by omega)]
    refine congrArg J_Mod_records_39 ?_
    have e : (fun j => uM M 440 k (M 440 (k + 38)) 440 (k + 1 + j + 38)) = fun j => (fun j => M 440 (k + j + 38)) (j + 1) := by
      funext j
      rw [uM_diff (by omega)]
      show M 440 _ = M 440 _
      congr 1 <;> omega
    rw [e]
    exact fl_cons (v := fun j => M 440 (k + j + 38)) rfl
theorem rec49 {v : Nat} {M : gM} (hv : v < 40) (hM : M 401 57 = nI v) : ∃ M', J_Mod_records_49 M = some M' ∧ M' 401 57 = nI (v + 1) ∧ (∀ k, k < 38 → M' 436 k = M 437 k) ∧ (∀ j, j < 38 * v → M' 440 j = M 440 j) ∧ (∀ k, k < 38 → M' 440 (38 * v + k) = M 436 k) ∧ Eo (fun c j => c = 436 ∨ c = 440 ∨ (c = 401 ∧ j = 57)) M M' := by
  unfold J_Mod_records_49
  obtain ⟨g, hg⟩ := FU_k (1 + 38) (by omega)
  rw [hg, ← Nat.add_assoc, show (0 : Int32) = nI 0 from rfl, rec51_loop hv 38 0 _ M hM (by omega)]
  unfold J_Mod_records_83
  rw [nmM_e, fl_out (by omega), hM, nI_1, s_keepsRow, bI_s]
  refine ⟨_, rfl, ?_, fun k hk => ?_, fun j hj => ?_, fun k hk => ?_, fun c j q => ?_⟩
  · rw [fl_out (by omega), uM_same]
  · rw [fl_in (by omega), uM_diff (by omega), fl_out (by omega), Nat.sub_zero]
  · rw [fl_out (by omega), uM_diff (by omega), fl_out (by omega)]
  · rw [fl_out (by omega), uM_diff (by omega), fl_in (by omega)]
    congr 1 <;> omega
  · rw [fl_out (by omega), uM_diff (by omega), fl_out (by omega)]
theorem s_records {u : Nat} {M : gM} (hu : u ≤ 40) (hM : M 401 57 = nI u) : ∃ M' v sh, F_Mod_records M = some M' ∧ ((u < 40 ∧ v = u ∧ sh = 0) ∨ (u = 40 ∧ v = 39 ∧ sh = 38)) ∧ M' 401 57 = nI (v + 1) ∧ (∀ k, k < 38 → M' 436 k = M 437 k) ∧ (∀ j, j < 38 * v → M' 440 j = M 440 (j + sh)) ∧ (∀ k, k < 38 → M' 440 (38 * v + k) = M 436 k) ∧ Eo (fun c j => c = 436 ∨ c = 440 ∨ (c = 401 ∧ j = 57)) M M' := by
  unfold F_Mod_records
  rw [hM]
  by_cases h : u = 40
  · rw [if_pos (by rw [h]; rfl)]
    obtain ⟨g, hg⟩ := FU_k (1 + 1482) (by omega)
    rw [hg, ← Nat.add_assoc, show (0 : Int32) = nI 0 from rfl, rec11_loop 1482 0 _ M (by omega)]
    unfold J_Mod_records_39
    rw [nmM_e, fl_out (by omega), hM, show (1 : Int32) = nI 1 from rfl, nI_sub (by omega)]
    obtain ⟨M', e1, e2, e3, e4, e5, e6⟩ := rec49 (v := 39) (M := uM (fl M 440 0 1482 (fun j => M 440 (0 + j + 38))) 401 57 (nI (u - 1))) (by omega) (by rw [uM_same, h])
    refine ⟨M', 39, 38, e1, Or.inr ⟨h, rfl, rfl⟩, e2, fun k hk => ?_, fun j hj => ?_, fun k hk => ?_, fun c j q => ?_⟩
    · rw [e3 k hk, uM_diff (by omega), fl_out (by omega)]
    · rw [e4 j hj, uM_diff (by omega), fl_in (by omega)]
      congr 1 <;> omega
    · rw [e5 k hk, uM_diff (by omega), fl_out (by omega)]
    · rw [e6 c j q, uM_diff (by omega), fl_out (by omega)]
  · rw [if_neg (fun q => h ((nI_eq (by omega) (by decide)).mp (q.trans (show (40 : Int32) = nI 40 from rfl))))]
    obtain ⟨M', e1, e2, e3, e4, e5, e6⟩ := rec49 (v := u) (by omega) hM
    exact ⟨M', u, 0, e1, Or.inl ⟨by omega, rfl, rfl⟩, e2, e3, e4, e5, e6⟩
theorem s_undo {u : Nat} {M : gM} (hu : u < 40) (hM : M 401 57 = nI (u + 1)) : ∃ M', F_Mod_undo M = some (1, M') ∧ M' 401 57 = nI u ∧ (∀ k, k < 38 → M' 436 k = M 440 (38 * u + k)) ∧ Eo (fun c j => c = 436 ∨ (c = 401 ∧ j = 57)) M M' := by
  unfold F_Mod_undo
  obtain ⟨g, hg⟩ := FU_k (1 + 38) (by omega)
  rw [hM, if_neg (nI_ne0 (by omega) (by omega)), show (1 : Int32) = nI 1 from rfl, nI_sub (by omega), show u + 1 - 1 = u by omega, nmM_e, hg, ← Nat.add_assoc, show (0 : Int32) = nI 0 from rfl, undo_loop hu 38 0 _ _ uM_same (by omega)]
  refine ⟨_, rfl, ?_, fun k hk => ?_, fun c j q => ?_⟩
  · rw [fl_out (by omega), uM_same]
  · rw [fl_in (by omega), uM_diff (by omega)]
    congr 1 <;> omega
  · rw [fl_out (by omega), uM_diff (by omega)]
theorem s_hold {s : Nat} {M : gM} (hs : s < 3) : ∃ M', F_Mod_hold (nI s) M = some (1, M') ∧ M' 445 s = 1 ∧ (∀ k, k < 38 → M' 446 (38 * s + k) = M 436 k) ∧ Eo (fun c j => (c = 446 ∧ 38 * s ≤ j ∧ j < 38 * s + 38) ∨ (c = 445 ∧ j = s)) M M' := by
  unfold F_Mod_hold
  obtain ⟨g, hg⟩ := FU_k (1 + 38) (by omega)
  rw [in_in (nI_pos (by omega)) (by rw [show (2 : Int32) = nI 2 from rfl, nI_ltI (by omega) (by omega)]; omega), bI_s, if_neg (by decide), if_neg (nI_in (by omega) (by omega)), nmM_e, nI_clamp (by omega), hg, ← Nat.add_assoc, show (0 : Int32) = nI 0 from rfl, hold_loop hs 38 0 _ _ (by omega)]
  refine ⟨_, rfl, ?_, fun k hk => ?_, fun c j q => ?_⟩
  · rw [fl_out (by omega), uM_same]
    rfl
  · rw [fl_in (by omega), uM_diff (by omega)]
    congr 1 <;> omega
  · rw [fl_out (by omega), uM_diff (by omega)]
theorem s_restore {s : Nat} {M : gM} (hs : s < 3) (h : ¬ M 445 s = 0) : ∃ M', F_Mod_restore (nI s) M = some (1, M') ∧ M' 401 57 = 0 ∧ (∀ k, k < 38 → M' 436 k = M 446 (38 * s + k)) ∧ Eo (fun c j => c = 436 ∨ (c = 401 ∧ j = 57)) M M' := by
  unfold F_Mod_restore
  obtain ⟨g, hg⟩ := FU_k (1 + 38) (by omega)
  rw [in_in (nI_pos (by omega)) (by rw [show (2 : Int32) = nI 2 from rfl, nI_ltI (by omega) (by omega)]; omega), bI_s, if_neg (by decide), if_neg (nI_in (by omega) (by omega)), nI_clamp (by omega), if_neg h, hg, ← Nat.add_assoc, show (0 : Int32) = nI 0 from rfl, restore_loop hs 38 0 _ _ (by omega)]
  unfold J_Mod_restore_51
  refine ⟨_, rfl, uM_same, fun k hk => ?_, fun c j q => ?_⟩
  · rw [uM_diff (by omega), fl_in (by omega)]
    congr 1 <;> omega
  · rw [uM_diff (by omega), fl_out (by omega)]
theorem s_restore0 {s : Nat} {M : gM} (hs : s < 3) (h : M 445 s = 0) : F_Mod_restore (nI s) M = some (0, M) := by
  unfold F_Mod_restore
  rw [in_in (nI_pos (by omega)) (by rw [show (2 : Int32) = nI 2 from rfl, nI_ltI (by omega) (by omega)]; omega), bI_s, if_neg (by decide), if_neg (nI_in (by omega) (by omega)), nI_clamp (by omega), if_pos h]
theorem beg2_loop : ∀ (d k f : Nat) (M : gM), k + d = 38 → H_Mod_begins_2 (f + 1 + d) (nI k) M = J_Mod_begins_21 (fl M 437 k d (fun _ => 0)) := by
  intro d
  induction d with
  | zero =>
    intro k f M h
    show B_Mod_begins_2 _ (nI k) M = _
    unfold B_Mod_begins_2
    rw [show (38 : Int32) = nI 38 from rfl, if_pos (by rw [nI_leI (by omega) (by omega)]; omega), fl_0]
  | succ d ih =>
    intro k f M h
    show B_Mod_begins_2 (H_Mod_begins_2 (f + 1 + d)) (nI k) M = _
    unfold B_Mod_begins_2
    rw [show (38 : Int32) = nI 38 from rfl, if_neg (by rw [nI_leI (by omega) (by omega)]; omega), if_neg (nI_in (by omega) (by omega)), nI_clamp (by omega), nmM_e, nmI_e, nI_1, ih (k + 1) f _ (by omega)]
    exact congrArg J_Mod_begins_21 (fl_cons (v := fun _ => 0) rfl)
theorem beg23_loop {lv nf : Nat} (hl : lv < 2) (hf : nf ≤ 6) : ∀ (d k f : Nat) (M : gM), M 401 18 = nI lv → M 411 lv = nI nf → k + d = nf → H_Mod_begins_23 (f + 1 + d) (nI k) M = J_Mod_begins_62 (fl M 437 k d (fun j => M 412 (6 * lv + (k + j)))) := by
  intro d
  induction d with
  | zero =>
    intro k f M h1 h2 h
    show B_Mod_begins_23 _ (nI k) M = _
    unfold B_Mod_begins_23
    rw [h1, if_neg (nI_in (by omega) (by omega)), nI_clamp (by omega), h2, if_pos (by rw [nI_leI (by omega) (by omega)]; omega), fl_0]
  | succ d ih =>
    intro k f M h1 h2 h
    show B_Mod_begins_23 (H_Mod_begins_23 (f + 1 + d)) (nI k) M = _
    unfold B_Mod_begins_23
    rw [h1, if_neg (nI_in (by omega) (by omega)), nI_clamp (by omega), h2, if_neg (by rw [nI_leI (by omega) (by omega)]; omega), show (6 : Int32) = nI 6 from rfl, nI_mul, nI_add, if_neg (nI_in (by omega) (by omega)), if_neg (nI_in (by omega) (by omega)), nI_clamp (by omega), nI_clamp (by omega), nmM_e, nmI_e, nI_1, ih (k + 1) f _ (by rw [uM_diff (by omega)]; exact h1) (by rw [uM_diff (by omega)]; exact h2) (by omega)]
    refine congrArg J_Mod_begins_62 ?_
    have e : (fun j => uM M 437 k (M 412 (6 * lv + k)) 412 (6 * lv + (k + 1 + j))) = fun j => (fun j => M 412 (6 * lv + (k + j))) (j + 1) := by
      funext j
      rw [uM_diff (by omega)]
      show M 412 _ = M 412 _
      congr 1 <;> omega
    rw [e]
    exact fl_cons (v := fun j => M 412 (6 * lv + (k + j))) rfl
theorem beg73_loop : ∀ (d k f : Nat) (M : gM), k + d = 4 → H_Mod_begins_73 (f + 1 + d) (nI k) M = J_Mod_begins_95 (fl M 437 (15 + k) d (fun _ => (-2))) := by
  intro d
  induction d with
  | zero =>
    intro k f M h
    show B_Mod_begins_73 _ (nI k) M = _
    unfold B_Mod_begins_73
    rw [show (4 : Int32) = nI 4 from rfl, if_pos (by rw [nI_leI (by omega) (by omega)]; omega), fl_0]
  | succ d ih =>
    intro k f M h
    show B_Mod_begins_73 (H_Mod_begins_73 (f + 1 + d)) (nI k) M = _
    unfold B_Mod_begins_73
    rw [show (4 : Int32) = nI 4 from rfl, if_neg (by rw [nI_leI (by omega) (by omega)]; omega), show (15 : Int32) = nI 15 from rfl, nI_add, if_neg (nI_in (by omega) (by omega)), nI_clamp (by omega), nmM_e, nmI_e, nI_1, ih (k + 1) f _ (by omega), show 15 + (k + 1) = 15 + k + 1 by omega]
    exact congrArg J_Mod_begins_95 (fl_cons (v := fun _ => (-2)) rfl)
theorem s_begins {lv nf : Nat} {M : gM} (hl : lv < 2) (hf : nf ≤ 6) (h1 : M 401 18 = nI lv) (h2 : M 411 lv = nI nf) : ∃ M', F_Mod_begins M = some M' ∧ (∀ k, k < 38 → M' 437 k = if k < nf then M 412 (6 * lv + k) else if k = 11 ∨ (15 ≤ k ∧ k < 19) then -2 else 0) ∧ M' 401 54 = M 423 lv ∧ Eo (fun c j => c = 437 ∨ (c = 401 ∧ j = 54)) M M' := by
  unfold F_Mod_begins
  obtain ⟨g, hg⟩ := FU_k (1 + 38) (by omega)
  obtain ⟨g2, hg2⟩ := FU_k (1 + nf) (by omega)
  obtain ⟨g3, hg3⟩ := FU_k (1 + 4) (by omega)
  rw [hg, ← Nat.add_assoc, show (0 : Int32) = nI 0 from rfl, beg2_loop 38 0 _ _ (by omega)]
  unfold J_Mod_begins_21
  rw [hg2, ← Nat.add_assoc, show (0 : Int32) = nI 0 from rfl, beg23_loop hl hf nf 0 _ _ (by rw [fl_out (by omega)]; exact h1) (by rw [fl_out (by omega)]; exact h2) (by omega)]
  unfold J_Mod_begins_62
  rw [nmM_e, hg3, ← Nat.add_assoc, show (0 : Int32) = nI 0 from rfl, beg73_loop 4 0 _ _ (by omega)]
  unfold J_Mod_begins_95
  rw [fl_out (by omega), uM_diff (by omega), fl_out (by omega), fl_out (by omega), h1, if_neg (nI_in (by omega) (by omega)), nI_clamp (by omega), nmM_e]
  refine ⟨_, rfl, fun k hk => ?_, ?_, fun c j q => ?_⟩
  · rw [uM_diff (by omega)]
    by_cases a : 15 ≤ k ∧ k < 19
    · rw [fl_in (by omega), if_neg (by omega), if_pos (Or.inr a)]
    · rw [fl_out (by omega)]
      by_cases a2 : k = 11
      · rw [a2, uM_same, if_neg (by omega), if_pos (Or.inl rfl)]
      · rw [uM_diff (by omega)]
        by_cases a3 : k < nf
        · rw [fl_in (by omega), fl_out (by omega), if_pos a3]
          congr 1 <;> omega
        · rw [fl_out (by omega), fl_in (by omega), if_neg a3, if_neg (by omega)]
  · rw [uM_same, fl_out (by omega), uM_diff (by omega), fl_out (by omega), fl_out (by omega)]
  · rw [uM_diff (by omega), fl_out (by omega), uM_diff (by omega), fl_out (by omega), fl_out (by omega)]
theorem txt_loop {n : Nat} {L : gL} (hn : n ≤ 2000) : ∀ (d k f : Nat) (M : gM), M 401 4 = nI n → k + d = n → H_Mod_read_10 L (f + 1 + d) (nI k) M = J_Mod_read_36 (fl M 403 k d (fun j => vp_nar .byte (M 402 (k + j)))) L := by
  intro d
  induction d with
  | zero =>
    intro k f M h1 h
    show B_Mod_read_10 L _ (nI k) M = _
    unfold B_Mod_read_10
    rw [h1, if_pos (by rw [nI_leI (by omega) (by omega)]; omega), fl_0]
  | succ d ih =>
    intro k f M h1 h
    show B_Mod_read_10 L (H_Mod_read_10 L (f + 1 + d)) (nI k) M = _
    unfold B_Mod_read_10
    rw [h1, if_neg (by rw [nI_leI (by omega) (by omega)]; omega), if_neg (nI_in (by omega) (by omega)), if_neg (nI_in (by omega) (by omega)), nI_clamp (by omega), nmM_e, nmI_e, nI_1, ih (k + 1) f _ (by rw [uM_diff (by omega)]; exact h1) (by omega)]
    refine congrArg (fun q => J_Mod_read_36 q L) ?_
    have e : (fun j => vp_nar .byte (uM M 403 k (vp_nar .byte (M 402 k)) 402 (k + 1 + j))) = fun j => (fun j => vp_nar .byte (M 402 (k + j))) (j + 1) := by
      funext j
      rw [uM_diff (by omega)]
      show vp_nar .byte (M 402 _) = vp_nar .byte (M 402 _)
      congr 2 <;> omega
    rw [e]
    exact fl_cons (v := fun j => vp_nar .byte (M 402 (k + j))) rfl
theorem unh_loop {L : gL} : ∀ (d k f : Nat) (M : gM), k + d = 3 → H_Mod_read_219 L (f + 1 + d) (nI k) M = some (0, fl M 445 k d (fun _ => vp_nar .boolean 0), L) := by
  intro d
  induction d with
  | zero =>
    intro k f M h
    show B_Mod_read_219 L _ (nI k) M = _
    unfold B_Mod_read_219
    rw [show (3 : Int32) = nI 3 from rfl, if_pos (by rw [nI_leI (by omega) (by omega)]; omega), fl_0]
  | succ d ih =>
    intro k f M h
    show B_Mod_read_219 L (H_Mod_read_219 L (f + 1 + d)) (nI k) M = _
    unfold B_Mod_read_219
    rw [show (3 : Int32) = nI 3 from rfl, if_neg (by rw [nI_leI (by omega) (by omega)]; omega), if_neg (nI_in (by omega) (by omega)), nI_clamp (by omega), nmM_e, nmI_e, nI_1, ih (k + 1) f _ (by omega)]
    exact congrArg (fun q => some (0, q, L)) (fl_cons (v := fun _ => vp_nar .boolean 0) rfl)
/-! the class's states, exactly -/
theorem s_copyFrom {X0 X1 : Nat} {M : gM} (h : X0 + 7 ≤ X1 ∨ X1 + 7 ≤ X0) : ∃ M', F_State_copyFrom X0 X1 M = some M' ∧ (∀ j, j < 4 → M' X0 j = M X1 j) ∧ (∀ j, j < 3 → M' (X0 + 1) j = M (X1 + 1) j) ∧ (∀ j, j < 6 → M' (X0 + 2) j = M (X1 + 2) j) ∧ (∀ j, j < 5 → M' (X0 + 3) j = M (X1 + 3) j) ∧ (∀ j, j < 4 → M' (X0 + 4) j = M (X1 + 4) j) ∧ (∀ j, j < 4 → M' (X0 + 5) j = M (X1 + 5) j) ∧ (∀ j, j < 12 → M' (X0 + 6) j = M (X1 + 6) j) ∧ Eo (fun c _ => X0 ≤ c ∧ c < X0 + 7) M M' := by
  unfold F_State_copyFrom
  rw [nmM_e, nmM_e, nmM_e, nmM_e, s_copyRow (by decide) (by omega), bI_s, s_copyRow (by decide) (by omega), bI_s, s_copyRow (by decide) (by omega), bI_s, s_copyRow (by decide) (by omega), bI_s, s_copyRow (by decide) (by omega), bI_s, s_copyRow (by decide) (by omega), bI_s]
  refine ⟨_, rfl, fun j hj => ?_, fun j hj => ?_, fun j hj => ?_, fun j hj => ?_, fun j hj => ?_, fun j hj => ?_, fun j hj => ?_, fun c j q => ?_⟩
  · rw [fl_out (by omega), fl_out (by omega), fl_out (by omega), fl_out (by omega), fl_out (by omega), fl_out (by omega)]
    rcases (show j = 0 ∨ j = 1 ∨ j = 2 ∨ j = 3 by omega) with e | e | e | e <;> subst e
    · rw [uM_diff (by omega), uM_diff (by omega), uM_diff (by omega), uM_same]
    · rw [uM_diff (by omega), uM_diff (by omega), uM_same, uM_diff (by omega)]
    · rw [uM_diff (by omega), uM_same, uM_diff (by omega), uM_diff (by omega)]
    · rw [uM_same, uM_diff (by omega), uM_diff (by omega), uM_diff (by omega)]
  · rw [fl_out (by omega), fl_out (by omega), fl_out (by omega), fl_out (by omega), fl_out (by omega), fl_in (by omega), Nat.sub_zero, uM_diff (by omega), uM_diff (by omega), uM_diff (by omega), uM_diff (by omega)]
  · rw [fl_out (by omega), fl_out (by omega), fl_out (by omega), fl_out (by omega), fl_in (by omega), Nat.sub_zero, fl_out (by omega), uM_diff (by omega), uM_diff (by omega), uM_diff (by omega), uM_diff (by omega)]
  · rw [fl_out (by omega), fl_out (by omega), fl_out (by omega), fl_in (by omega), Nat.sub_zero, fl_out (by omega), fl_out (by omega), uM_diff (by omega), uM_diff (by omega), uM_diff (by omega), uM_diff (by omega)]
  · rw [fl_out (by omega), fl_out (by omega), fl_in (by omega), Nat.sub_zero, fl_out (by omega), fl_out (by omega), fl_out (by omega), uM_diff (by omega), uM_diff (by omega), uM_diff (by omega), uM_diff (by omega)]
  · rw [fl_out (by omega), fl_in (by omega), Nat.sub_zero, fl_out (by omega), fl_out (by omega), fl_out (by omega), fl_out (by omega), uM_diff (by omega), uM_diff (by omega), uM_diff (by omega), uM_diff (by omega)]
  · rw [fl_in (by omega), Nat.sub_zero, fl_out (by omega), fl_out (by omega), fl_out (by omega), fl_out (by omega), fl_out (by omega), uM_diff (by omega), uM_diff (by omega), uM_diff (by omega), uM_diff (by omega)]
  · rw [fl_out (by omega), fl_out (by omega), fl_out (by omega), fl_out (by omega), fl_out (by omega), fl_out (by omega), uM_diff (by omega), uM_diff (by omega), uM_diff (by omega), uM_diff (by omega)]
theorem sbeg_loop {X ld nf : Nat} (hX : ld + 2 ≤ X) (hf : nf ≤ 6) : ∀ (d k f : Nat) (M : gM), M ld 0 = nI nf → k + d = 6 → H_State_begin_58 X ld (f + 1 + d) (nI k) M = some (fl M (X + 2) k d (fun j => if k + j < nf then M (ld + 1) (k + j) else 0)) := by
  intro d
  induction d with
  | zero =>
    intro k f M h1 h
    show B_State_begin_58 X ld _ (nI k) M = _
    unfold B_State_begin_58
    rw [show (6 : Int32) = nI 6 from rfl, if_pos (by rw [nI_leI (by omega) (by omega)]; omega), fl_0]
  | succ d ih =>
    intro k f M h1 h
    show B_State_begin_58 X ld (H_State_begin_58 X ld (f + 1 + d)) (nI k) M = _
    unfold B_State_begin_58 J_State_begin_89
    rw [show (6 : Int32) = nI 6 from rfl, if_neg (by rw [nI_leI (by omega) (by omega)]; omega), h1]
    have fin : ∀ x : Int32, x = (if k < nf then M (ld + 1) k else 0) → (bI (F_Main_put (X + 2) 6 (nI k) x M) (fun M18 => nmI (nI k + 1) (fun x19 => H_State_begin_58 X ld (f + 1 + d) x19 M18))) = some (fl M (X + 2) k (d + 1) (fun j => if k + j < nf then M (ld + 1) (k + j) else 0)) := by
      intro x hx
      rw [s_put (by omega) (by decide), bI_s, nmI_e, nI_1, ih (k + 1) f _ (by rw [uM_diff (by omega)]; exact h1) (by omega)]
      refine congrArg some ?_
      have e : (fun j => if k + 1 + j < nf then uM M (X + 2) k x (ld + 1) (k + 1 + j) else 0) = fun j => (fun j => if k + j < nf then M (ld + 1) (k + j) else 0) (j + 1) := by
        funext j
        rw [uM_diff (by omega), show k + 1 + j = k + (j + 1) by omega]
      rw [e]
      exact fl_cons (v := fun j => if k + j < nf then M (ld + 1) (k + j) else 0) hx
    by_cases g : k < nf
    · rw [if_neg (by rw [nI_leI (by omega) (by omega)]; omega), s_at (by omega) (by decide), bI_s]
      exact fin _ (by rw [if_pos g])
    · rw [if_pos (by rw [nI_leI (by omega) (by omega)]; omega)]
      exact fin _ (by rw [if_neg g])
theorem s_begin {X ld nf : Nat} {M : gM} (hX : ld + 2 ≤ X) (hf : nf ≤ 6) (h1 : M ld 0 = nI nf) : ∃ M', F_State_begin X ld M = some M' ∧ (∀ j, j < 3 → M' X j = 0) ∧ M' X 3 = -2 ∧ (∀ j, j < 3 → M' (X + 1) j = 0) ∧ (∀ j, j < 6 → M' (X + 2) j = if j < nf then M (ld + 1) j else 0) ∧ (∀ j, j < 5 → M' (X + 3) j = 0) ∧ (∀ j, j < 4 → M' (X + 4) j = 0) ∧ (∀ j, j < 4 → M' (X + 5) j = 0) ∧ (∀ j, j < 12 → M' (X + 6) j = 0) ∧ Eo (fun c _ => X ≤ c ∧ c < X + 7) M M' := by
  unfold F_State_begin
  obtain ⟨g, hg⟩ := FU_k (1 + 6) (by omega)
  rw [nmM_e, nmM_e, nmM_e, nmM_e, s_wipe (by decide), bI_s, s_wipe (by decide), bI_s, s_wipe (by decide), bI_s, s_wipe (by decide), bI_s, s_wipe (by decide), bI_s, hg, ← Nat.add_assoc, show (H_State_begin_58 X ld (g + 1 + 6) 0 : gM → Option gM) = H_State_begin_58 X ld (g + 1 + 6) (nI 0) from rfl]
  rw [sbeg_loop hX hf 6 0 g _ (by rw [fl_out (by omega), fl_out (by omega), fl_out (by omega), fl_out (by omega), fl_out (by omega), uM_diff (by omega), uM_diff (by omega), uM_diff (by omega), uM_diff (by omega)]; exact h1) (by omega)]
  refine ⟨_, rfl, fun j hj => ?_, ?_, fun j hj => ?_, fun j hj => ?_, fun j hj => ?_, fun j hj => ?_, fun j hj => ?_, fun j hj => ?_, fun c j q => ?_⟩
  · rw [fl_out (by omega), fl_out (by omega), fl_out (by omega), fl_out (by omega), fl_out (by omega), fl_out (by omega), uM_diff (by omega)]
    rcases (show j = 0 ∨ j = 1 ∨ j = 2 by omega) with e | e | e <;> subst e
    · rw [uM_diff (by omega), uM_diff (by omega), uM_same]
    · rw [uM_diff (by omega), uM_same]
    · rw [uM_same]
  · rw [fl_out (by omega), fl_out (by omega), fl_out (by omega), fl_out (by omega), fl_out (by omega), fl_out (by omega), uM_same]
  · rw [fl_out (by omega), fl_out (by omega), fl_out (by omega), fl_out (by omega), fl_out (by omega), fl_in (by omega)]
  · rw [fl_in (by omega), Nat.sub_zero, Nat.zero_add, fl_out (by omega), fl_out (by omega), fl_out (by omega), fl_out (by omega), fl_out (by omega), uM_diff (by omega), uM_diff (by omega), uM_diff (by omega), uM_diff (by omega)]
  · rw [fl_out (by omega), fl_out (by omega), fl_out (by omega), fl_out (by omega), fl_in (by omega)]
  · rw [fl_out (by omega), fl_out (by omega), fl_out (by omega), fl_in (by omega)]
  · rw [fl_out (by omega), fl_out (by omega), fl_in (by omega)]
  · rw [fl_out (by omega), fl_in (by omega)]
  · rw [fl_out (by omega), fl_out (by omega), fl_out (by omega), fl_out (by omega), fl_out (by omega), fl_out (by omega), uM_diff (by omega), uM_diff (by omega), uM_diff (by omega), uM_diff (by omega)]
end PAR21
