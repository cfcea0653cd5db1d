/-! the tape: feed -/
def bC (w sh : Int32) : Int32 := ((w.toUInt32 >>> (sh.toUInt32 &&& Int32.toUInt32 31)).toInt32) &&& 255
def bM (w sh : Int32) : Int32 := vp_nar .byte (((w >>> (sh &&& 31)) : Int32).toInt8.toInt32)
theorem tw_step {w sh : Int32} {t f : Nat} {M : gM} (hsh : ¬ sh < 0) (hM : M 1 1 = nI t) (ht : t < 2000) : H_Tape_write_3 w (f + 1) sh M = H_Tape_write_3 w f (sh + (-8)) (uM (uM M 2 t (bC w sh)) 1 1 (nI (t + 1))) := by
  show B_Tape_write_3 w (H_Tape_write_3 w f) sh M = _
  unfold B_Tape_write_3
  rw [if_neg hsh, hM, s_put ht (by decide), bI_s, nmM_e, nmI_e, uM_diff (by omega), hM, nI_1]
  rfl
theorem tw_end {w sh : Int32} {f : Nat} {M : gM} (hsh : sh < 0) : H_Tape_write_3 w (f + 1) sh M = some M := by
  show B_Tape_write_3 w (H_Tape_write_3 w f) sh M = _
  unfold B_Tape_write_3
  rw [if_pos hsh]
def tw4 (w : Int32) (t : Nat) (M : gM) : gM := uM (uM (uM (uM (uM (uM (uM (uM M 2 t (bC w 24)) 1 1 (nI (t + 1))) 2 (t + 1) (bC w 16)) 1 1 (nI (t + 2))) 2 (t + 2) (bC w 8)) 1 1 (nI (t + 3))) 2 (t + 3) (bC w 0)) 1 1 (nI (t + 4))
theorem s_Tape_write {w : Int32} {t : Nat} {M : gM} (hM : M 1 1 = nI t) (ht : t + 4 ≤ 2000) : F_Tape_write w M = some (tw4 w t M) := by
  unfold F_Tape_write
  obtain ⟨g, hg⟩ := FU_k 5 (by decide)
  rw [hg]
  show H_Tape_write_3 w (g + 4 + 1) 24 M = _
  rw [tw_step (t := t) (by decide) hM (by omega)]
  show H_Tape_write_3 w (g + 3 + 1) 16 _ = _
  rw [tw_step (t := t + 1) (by decide) uM_same (by omega)]
  show H_Tape_write_3 w (g + 2 + 1) 8 _ = _
  rw [tw_step (t := t + 2) (by decide) uM_same (by omega)]
  show H_Tape_write_3 w (g + 1 + 1) 0 _ = _
  rw [tw_step (t := t + 3) (by decide) uM_same (by omega)]
  show H_Tape_write_3 w (g + 1) (-8) _ = _
  rw [tw_end (by decide)]
  rfl
theorem tw4_1 {w : Int32} {t : Nat} {M : gM} : tw4 w t M 1 1 = nI (t + 4) := uM_same
theorem tw4_o {w : Int32} {t c j : Nat} {M : gM} (h : ¬ (c = 1 ∧ j = 1)) (h2 : ¬ (c = 2 ∧ t ≤ j ∧ j < t + 4)) : tw4 w t M c j = M c j := by
  unfold tw4
  rw [uM_diff h, uM_diff (fun q => h2 ⟨q.1, by omega⟩), uM_diff h, uM_diff (fun q => h2 ⟨q.1, by omega⟩), uM_diff h, uM_diff (fun q => h2 ⟨q.1, by omega⟩), uM_diff h, uM_diff (fun q => h2 ⟨q.1, by omega⟩)]
theorem tw4_b {w : Int32} {t : Nat} {M : gM} : tw4 w t M 2 t = bC w 24 ∧ tw4 w t M 2 (t + 1) = bC w 16 ∧ tw4 w t M 2 (t + 2) = bC w 8 ∧ tw4 w t M 2 (t + 3) = bC w 0 := by
  unfold tw4
  simp only [uM_at]
  refine ⟨?_, ?_, ?_, ?_⟩ <;> simp <;> omega
theorem mp_step {w sh : Int32} {t f : Nat} {M : gM} (hsh : ¬ sh < 0) (hM : M 401 2 = nI t) (ht : t < 2000) : H_Mod_put_3 w (f + 1) sh M = H_Mod_put_3 w f (sh + (-8)) (uM (uM M 402 t (bM w sh)) 401 2 (nI (t + 1))) := by
  show B_Mod_put_3 w (H_Mod_put_3 w f) sh M = _
  unfold B_Mod_put_3
  rw [if_neg hsh, hM, if_neg (nI_in ht (by decide)), nI_clamp (by omega), nmM_e, nmM_e, nmI_e, uM_diff (by omega), hM, nI_1]
  rfl
theorem mp_end {w sh : Int32} {f : Nat} {M : gM} (hsh : sh < 0) : H_Mod_put_3 w (f + 1) sh M = some M := by
  show B_Mod_put_3 w (H_Mod_put_3 w f) sh M = _
  unfold B_Mod_put_3
  rw [if_pos hsh]
def mp4 (w : Int32) (t : Nat) (M : gM) : gM := uM (uM (uM (uM (uM (uM (uM (uM M 402 t (bM w 24)) 401 2 (nI (t + 1))) 402 (t + 1) (bM w 16)) 401 2 (nI (t + 2))) 402 (t + 2) (bM w 8)) 401 2 (nI (t + 3))) 402 (t + 3) (bM w 0)) 401 2 (nI (t + 4))
theorem s_Mod_put {w : Int32} {t : Nat} {M : gM} (hM : M 401 2 = nI t) (ht : t + 4 ≤ 2000) : F_Mod_put w M = some (mp4 w t M) := by
  unfold F_Mod_put
  obtain ⟨g, hg⟩ := FU_k 5 (by decide)
  rw [hg]
  show H_Mod_put_3 w (g + 4 + 1) 24 M = _
  rw [mp_step (t := t) (by decide) hM (by omega)]
  show H_Mod_put_3 w (g + 3 + 1) 16 _ = _
  rw [mp_step (t := t + 1) (by decide) uM_same (by omega)]
  show H_Mod_put_3 w (g + 2 + 1) 8 _ = _
  rw [mp_step (t := t + 2) (by decide) uM_same (by omega)]
  show H_Mod_put_3 w (g + 1 + 1) 0 _ = _
  rw [mp_step (t := t + 3) (by decide) uM_same (by omega)]
  show H_Mod_put_3 w (g + 1) (-8) _ = _
  rw [mp_end (by decide)]
  rfl
theorem mp4_1 {w : Int32} {t : Nat} {M : gM} : mp4 w t M 401 2 = nI (t + 4) := uM_same
theorem mp4_o {w : Int32} {t c j : Nat} {M : gM} (h : ¬ (c = 401 ∧ j = 2)) (h2 : ¬ (c = 402 ∧ t ≤ j ∧ j < t + 4)) : mp4 w t M c j = M c j := by
  unfold mp4
  rw [uM_diff h, uM_diff (fun q => h2 ⟨q.1, by omega⟩), uM_diff h, uM_diff (fun q => h2 ⟨q.1, by omega⟩), uM_diff h, uM_diff (fun q => h2 ⟨q.1, by omega⟩), uM_diff h, uM_diff (fun q => h2 ⟨q.1, by omega⟩)]
theorem mp4_b {w : Int32} {t : Nat} {M : gM} : mp4 w t M 402 t = bM w 24 ∧ mp4 w t M 402 (t + 1) = bM w 16 ∧ mp4 w t M 402 (t + 2) = bM w 8 ∧ mp4 w t M 402 (t + 3) = bM w 0 := by
  unfold mp4
  simp only [uM_at]
  refine ⟨?_, ?_, ?_, ?_⟩ <;> simp <;> omega
theorem s_Main_feed {a b c d e : Int32} {t : Nat} {M : gM} (hM : M 1 1 = nI t) (ht : t + 20 ≤ 2000) : F_Main_feed a b c d e M = some (nI (t + 20), tw4 e (t + 16) (tw4 d (t + 12) (tw4 c (t + 8) (tw4 b (t + 4) (tw4 a t M))))) := by
  unfold F_Main_feed
  rw [hM, if_pos (by rw [show (20 : Int32) = nI 20 from rfl, show (2000 : Int32) = nI 2000 from rfl, nI_add, nI_leI (by omega) (by omega)]; exact ht)]
  rw [s_Tape_write hM (by omega), bI_s, s_Tape_write tw4_1 (by omega), bI_s, s_Tape_write tw4_1 (by omega), bI_s, s_Tape_write tw4_1 (by omega), bI_s, s_Tape_write tw4_1 (by omega), bI_s, tw4_1]
theorem s_Main_feed' {a b c d e : Int32} {t : Nat} {M : gM} (hM : M 1 1 = nI t) (ht : t ≤ 2000) (h : ¬ t + 20 ≤ 2000) : F_Main_feed a b c d e M = some (-1, M) := by
  unfold F_Main_feed
  rw [hM, if_neg (by rw [show (20 : Int32) = nI 20 from rfl, show (2000 : Int32) = nI 2000 from rfl, nI_add, nI_leI (by omega) (by omega)]; exact h)]
theorem s_Mod_feed {a b c d e : Int32} {t : Nat} {M : gM} (hM : M 401 2 = nI t) (ht : t + 20 ≤ 2000) : F_Mod_feed a b c d e M = some (nI (t + 20), mp4 e (t + 16) (mp4 d (t + 12) (mp4 c (t + 8) (mp4 b (t + 4) (mp4 a t M))))) := by
  unfold F_Mod_feed
  rw [hM, if_pos (by rw [show (20 : Int32) = nI 20 from rfl, show (2000 : Int32) = nI 2000 from rfl, nI_add, nI_leI (by omega) (by omega)]; exact ht)]
  rw [s_Mod_put hM (by omega), bI_s, s_Mod_put mp4_1 (by omega), bI_s, s_Mod_put mp4_1 (by omega), bI_s, s_Mod_put mp4_1 (by omega), bI_s, s_Mod_put mp4_1 (by omega), bI_s, mp4_1]
theorem s_Mod_feed' {a b c d e : Int32} {t : Nat} {M : gM} (hM : M 401 2 = nI t) (ht : t ≤ 2000) (h : ¬ t + 20 ≤ 2000) : F_Mod_feed a b c d e M = some (-1, M) := by
  unfold F_Mod_feed
  rw [hM, if_neg (by rw [show (20 : Int32) = nI 20 from rfl, show (2000 : Int32) = nI 2000 from rfl, nI_add, nI_leI (by omega) (by omega)]; exact h)]
