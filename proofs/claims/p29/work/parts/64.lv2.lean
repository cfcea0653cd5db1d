section MG7x0
/-! over the functions: first helps -/
theorem bI_s {α β : Type} (a : α) (f : α → Option β) : bI (some a) f = f a := rfl
theorem bI2_s {α β γ : Type} (a : α) (b : β) (f : α → β → Option γ) : bI2 (some (a, b)) f = f a b := rfl
theorem bI3_s {α β γ δ : Type} (a : α) (b : β) (c : γ) (f : α → β → γ → Option δ) : bI3 (some (a, b, c)) f = f a b c := rfl
theorem bI4_s {α β γ δ ε : Type} (a : α) (b : β) (c : γ) (d : δ) (f : α → β → γ → δ → Option ε) : bI4 (some (a, b, c, d)) f = f a b c d := rfl
theorem nmM_e {τ : Type} (v : gM) (f : gM → Option τ) : nmM v f = f v := rfl
theorem nmL_e {τ : Type} (v : gL) (f : gL → Option τ) : nmL v f = f v := rfl
theorem nmI_e {τ : Type} (v : Int32) (f : Int32 → Option τ) : nmI v f = f v := rfl
theorem nmJ_e {τ : Type} (v : Int64) (f : Int64 → Option τ) : nmJ v f = f v := rfl
theorem lpK_s {α : Type} (body : α → α) (bot : α) (n : Nat) : lpK body bot (n + 1) = body (lpK body bot n) := rfl
theorem FU_k (k : Nat) (h : k ≤ 1000000) : ∃ g, FU = g + k := ⟨FU - k, by unfold FU; omega⟩
theorem i32_le_of_nlt {x y : Int32} (h : ¬ x < y) : y ≤ x := by
  rw [i_le]; rw [i_lt] at h; omega
theorem i32_nlt_of_le {x y : Int32} (h : y ≤ x) : ¬ x < y := by
  rw [i_lt]; rw [i_le] at h; omega
theorem i32_nle_of_lt {x y : Int32} (h : x < y) : ¬ y ≤ x := by
  rw [i_le]; rw [i_lt] at h; omega
theorem i32_lt_of_nle {x y : Int32} (h : ¬ y ≤ x) : x < y := by
  rw [i_lt]; rw [i_le] at h; omega
theorem one_lo {p n : Int32} (h : p < 0) : F_Main_isOne p n = some 0 := by unfold F_Main_isOne; rw [if_pos h]
theorem one_hi {p n : Int32} (h : n ≤ p) : F_Main_isOne p n = some 0 := by
  unfold F_Main_isOne
  by_cases h0 : p < 0
  · rw [if_pos h0]
  · rw [if_neg h0, if_pos h]
theorem one_in {p n : Int32} (h0 : ¬ p < 0) (h : ¬ n ≤ p) : F_Main_isOne p n = some 1 := by unfold F_Main_isOne; rw [if_neg h0, if_neg h]
theorem one_00 (p : Int32) : F_Main_isOne p 0 = some 0 := by
  by_cases h : p < 0
  · exact one_lo h
  · exact one_hi (i32_le_of_nlt h)
theorem in_lo {p a b : Int32} (h : p < a) : F_Mod_in p a b = some 0 := by unfold F_Mod_in; rw [if_pos h]
theorem in_hi {p a b : Int32} (h : b < p) : F_Mod_in p a b = some 0 := by
  unfold F_Mod_in
  by_cases h0 : p < a
  · rw [if_pos h0]
  · rw [if_neg h0, if_pos h]
theorem in_in {p a b : Int32} (h0 : ¬ p < a) (h : ¬ b < p) : F_Mod_in p a b = some 1 := by unfold F_Mod_in; rw [if_neg h0, if_neg h]
/-- a count n, and what is in 0 .. n - 1 -/
theorem one_cases (p : Int32) {n : Nat} (hn : n < 2 ^ 31) : (F_Main_isOne p (nI n) = some 0 ∧ ¬ ∃ k, k < n ∧ p = nI k) ∨ ∃ k, k < n ∧ p = nI k ∧ F_Main_isOne p (nI n) = some 1 := by
  by_cases h0 : p < 0
  · refine Or.inl ⟨one_lo h0, ?_⟩
    rintro ⟨k, hk, rfl⟩
    exact nI_pos (by omega) h0
  · obtain ⟨k, hk, rfl⟩ := nI_of h0
    by_cases h : k < n
    · exact Or.inr ⟨k, h, rfl, one_in h0 (fun q => by rw [nI_leI hn hk] at q; omega)⟩
    · refine Or.inl ⟨one_hi (by rw [nI_leI hn hk]; omega), ?_⟩
      rintro ⟨j, hj, e⟩
      rw [nI_eq hk (by omega)] at e
      omega
theorem in_cases (p : Int32) {a b : Nat} (hb : b < 2 ^ 31) (ha : a < 2 ^ 31) : (F_Mod_in p (nI a) (nI b) = some 0 ∧ ¬ ∃ k, a ≤ k ∧ k ≤ b ∧ p = nI k) ∨ ∃ k, a ≤ k ∧ k ≤ b ∧ p = nI k ∧ F_Mod_in p (nI a) (nI b) = some 1 := by
  by_cases h0 : p < 0
  · refine Or.inl ⟨in_lo ?_, ?_⟩
    · rw [i_lt] at h0 ⊢; rw [nI_toInt ha]; rw [Int32.toInt_zero] at h0; omega
    · rintro ⟨k, hk, hk2, rfl⟩
      exact nI_pos (by omega) h0
  · obtain ⟨k, hk, rfl⟩ := nI_of h0
    by_cases h1 : k < a
    · refine Or.inl ⟨in_lo (by rw [nI_ltI hk ha]; exact h1), ?_⟩
      rintro ⟨j, hj, hj2, e⟩
      rw [nI_eq hk (by omega)] at e
      omega
    · by_cases h : k ≤ b
      · exact Or.inr ⟨k, by omega, h, rfl, in_in (fun q => by rw [nI_ltI hk ha] at q; omega) (fun q => by rw [nI_ltI hb hk] at q; omega)⟩
      · refine Or.inl ⟨in_hi (by rw [nI_ltI hb hk]; omega), ?_⟩
        rintro ⟨j, hj, hj2, e⟩
        rw [nI_eq hk (by omega)] at e
        omega
theorem in_e {p : Int32} : F_Mod_in p 0 (0 - 1) = some 0 := by
  by_cases h : p < 0
  · exact in_lo h
  · exact in_hi (by rw [i_lt]; rw [i_lt, Int32.toInt_zero] at h; show (-1 : Int) < _; omega)
theorem s_at {a N i : Nat} {M : gM} (hi : i < N) (hN : N < 2 ^ 31) : F_Main_at a N (nI i) M = some (M a i) := by
  unfold F_Main_at
  rw [if_neg (nI_pos (by omega)), if_neg (fun q => by rw [show Int32.ofNat N = nI N from rfl, nI_leI hN (by omega)] at q; omega), if_neg (nI_in hi hN), nI_clamp (by omega)]
theorem s_put {a N i : Nat} {M : gM} {x : Int32} (hi : i < N) (hN : N < 2 ^ 31) : F_Main_put a N (nI i) x M = some (uM M a i x) := by
  unfold F_Main_put
  rw [if_neg (nI_pos (by omega)), if_neg (fun q => by rw [show Int32.ofNat N = nI N from rfl, nI_leI hN (by omega)] at q; omega), if_neg (nI_in hi hN), nI_clamp (by omega)]
  rfl
theorem uM_same {M : gM} {a i : Nat} {x : Int32} : uM M a i x a i = x := by rw [uM_at, if_pos ⟨rfl, rfl⟩]
theorem uM_diff {M : gM} {a i c j : Nat} {x : Int32} (h : ¬ (c = a ∧ j = i)) : uM M a i x c j = M c j := by rw [uM_at, if_neg h]
/-- the places that a memory may differ at -/
def Eo (S : Nat → Nat → Prop) (M M' : gM) : Prop := ∀ c j, ¬ S c j → M' c j = M c j
theorem Eo.rf {S : Nat → Nat → Prop} {M : gM} : Eo S M M := fun _ _ _ => rfl
theorem Eo.tr {S : Nat → Nat → Prop} {M M1 M2 : gM} (h : Eo S M M1) (g : Eo S M1 M2) : Eo S M M2 := fun c j q => (g c j q).trans (h c j q)
theorem Eo.mono {S S' : Nat → Nat → Prop} {M M' : gM} (h : Eo S M M') (f : ∀ c j, S c j → S' c j) : Eo S' M M' := fun c j q => h c j (fun w => q (f c j w))
theorem Eo.u {S : Nat → Nat → Prop} {M M' : gM} {a i : Nat} {x : Int32} (h : Eo S M M') (ha : S a i) : Eo S M (uM M' a i x) := fun c j q => by
  rw [uM_diff (fun w => q (by rw [w.1, w.2]; exact ha))]
  exact h c j q
theorem bb2 {α β : Type} {o : Option α} {f : α → Option β} {p : α → β → Prop} {d : ∀ a b, Decidable (p a b)} (h : (bI o fun q1 => bI (f q1) fun q2 => some (@decide (p q1 q2) (d q1 q2))) = some true) : ∃ q1 q2, o = some q1 ∧ f q1 = some q2 ∧ p q1 q2 := by
  obtain ⟨q1, h1, h⟩ := bnd h
  obtain ⟨q2, h2, h⟩ := bnd h
  exact ⟨q1, q2, h1, h2, of_decide_eq_true (Option.some.inj h)⟩
end MG7x0
section MG7x1
/-! the tape: feed -/
def bC (w sh : Int32) : Int32 := ((w.toUInt32 >>> (sh.toUInt32 &&& Int32.toUInt32 31)).toInt32) &&& 255
def bM (w sh : Int32) : Int32 := vp_nar .byte (((w >>> (sh &&& 31)) : Int32).toInt8.toInt32)
theorem tw_step {w sh : Int32} {t f : Nat} {M : gM} (hsh : ¬ sh < 0) (hM : M 1 1 = nI t) (ht : t < 2000) : H_Tape_write_3 w (f + 1) sh M = H_Tape_write_3 w f (sh + (-8)) (uM (uM M 2 t (bC w sh)) 1 1 (nI (t + 1))) := by
  show B_Tape_write_3 w (H_Tape_write_3 w f) sh M = _
  unfold B_Tape_write_3
  rw [if_neg hsh, hM, s_put ht (by decide), bI_s, nmM_e, nmI_e, uM_diff (by omega), hM, nI_1]
  rfl
theorem tw_end {w sh : Int32} {f : Nat} {M : gM} (hsh : sh < 0) : H_Tape_write_3 w (f + 1) sh M = some M := by
  show B_Tape_write_3 w (H_Tape_write_3 w f) sh M = _
  unfold B_Tape_write_3
  rw [if_pos hsh]
def tw4 (w : Int32) (t : Nat) (M : gM) : gM := uM (uM (uM (uM (uM (uM (uM (uM M 2 t (bC w 24)) 1 1 (nI (t + 1))) 2 (t + 1) (bC w 16)) 1 1 (nI (t + 2))) 2 (t + 2) (bC w 8)) 1 1 (nI (t + 3))) 2 (t + 3) (bC w 0)) 1 1 (nI (t + 4))
theorem s_Tape_write {w : Int32} {t : Nat} {M : gM} (hM : M 1 1 = nI t) (ht : t + 4 ≤ 2000) : F_Tape_write w M = some (tw4 w t M) := by
  unfold F_Tape_write
  obtain ⟨g, hg⟩ := FU_k 5 (by decide)
  rw [hg]
  show H_Tape_write_3 w (g + 4 + 1) 24 M = _
  rw [tw_step (t := t) (by decide) hM (by omega)]
  show H_Tape_write_3 w (g + 3 + 1) 16 _ = _
  rw [tw_step (t := t + 1) (by decide) uM_same (by omega)]
  show H_Tape_write_3 w (g + 2 + 1) 8 _ = _
  rw [tw_step (t := t + 2) (by decide) uM_same (by omega)]
  show H_Tape_write_3 w (g + 1 + 1) 0 _ = _
  rw [tw_step (t := t + 3) (by decide) uM_same (by omega)]
  show H_Tape_write_3 w (g + 1) (-8) _ = _
  rw [tw_end (by decide)]
  rfl
theorem tw4_1 {w : Int32} {t : Nat} {M : gM} : tw4 w t M 1 1 = nI (t + 4) := uM_same
theorem tw4_o {w : Int32} {t c j : Nat} {M : gM} (h : ¬ (c = 1 ∧ j = 1)) (h2 : ¬ (c = 2 ∧ t ≤ j ∧ j < t + 4)) : tw4 w t M c j = M c j := by
  unfold tw4
  rw [uM_diff h, uM_diff (fun q => h2 ⟨q.1, by omega⟩), uM_diff h, uM_diff (fun q => h2 ⟨q.1, by omega⟩), uM_diff h, uM_diff (fun q => h2 ⟨q.1, by omega⟩), uM_diff h, uM_diff (fun q => h2 ⟨q.1, by omega⟩)]
theorem tw4_b {w : Int32} {t : Nat} {M : gM} : tw4 w t M 2 t = bC w 24 ∧ tw4 w t M 2 (t + 1) = bC w 16 ∧ tw4 w t M 2 (t + 2) = bC w 8 ∧ tw4 w t M 2 (t + 3) = bC w 0 := by
  unfold tw4
  simp only [uM_at]
  refine ⟨?_, ?_, ?_, ?_⟩ <;> simp <;> omega
theorem mp_step {w sh : Int32} {t f : Nat} {M : gM} (hsh : ¬ sh < 0) (hM : M 401 2 = nI t) (ht : t < 2000) : H_Mod_put_3 w (f + 1) sh M = H_Mod_put_3 w f (sh + (-8)) (uM (uM M 402 t (bM w sh)) 401 2 (nI (t + 1))) := by
  show B_Mod_put_3 w (H_Mod_put_3 w f) sh M = _
  unfold B_Mod_put_3
  rw [if_neg hsh, hM, if_neg (nI_in ht (by decide)), nI_clamp (by omega), nmM_e, nmM_e, nmI_e, uM_diff (by omega), hM, nI_1]
  rfl
theorem mp_end {w sh : Int32} {f : Nat} {M : gM} (hsh : sh < 0) : H_Mod_put_3 w (f + 1) sh M = some M := by
  show B_Mod_put_3 w (H_Mod_put_3 w f) sh M = _
  unfold B_Mod_put_3
  rw [if_pos hsh]
def mp4 (w : Int32) (t : Nat) (M : gM) : gM := uM (uM (uM (uM (uM (uM (uM (uM M 402 t (bM w 24)) 401 2 (nI (t + 1))) 402 (t + 1) (bM w 16)) 401 2 (nI (t + 2))) 402 (t + 2) (bM w 8)) 401 2 (nI (t + 3))) 402 (t + 3) (bM w 0)) 401 2 (nI (t + 4))
theorem s_Mod_put {w : Int32} {t : Nat} {M : gM} (hM : M 401 2 = nI t) (ht : t + 4 ≤ 2000) : F_Mod_put w M = some (mp4 w t M) := by
  unfold F_Mod_put
  obtain ⟨g, hg⟩ := FU_k 5 (by decide)
  rw [hg]
  show H_Mod_put_3 w (g + 4 + 1) 24 M = _
  rw [mp_step (t := t) (by decide) hM (by omega)]
  show H_Mod_put_3 w (g + 3 + 1) 16 _ = _
  rw [mp_step (t := t + 1) (by decide) uM_same (by omega)]
  show H_Mod_put_3 w (g + 2 + 1) 8 _ = _
  rw [mp_step (t := t + 2) (by decide) uM_same (by omega)]
  show H_Mod_put_3 w (g + 1 + 1) 0 _ = _
  rw [mp_step (t := t + 3) (by decide) uM_same (by omega)]
  show H_Mod_put_3 w (g + 1) (-8) _ = _
  rw [mp_end (by decide)]
  rfl
theorem mp4_1 {w : Int32} {t : Nat} {M : gM} : mp4 w t M 401 2 = nI (t + 4) := uM_same
theorem mp4_o {w : Int32} {t c j : Nat} {M : gM} (h : ¬ (c = 401 ∧ j = 2)) (h2 : ¬ (c = 402 ∧ t ≤ j ∧ j < t + 4)) : mp4 w t M c j = M c j := by
  unfold mp4
  rw [uM_diff h, uM_diff (fun q => h2 ⟨q.1, by omega⟩), uM_diff h, uM_diff (fun q => h2 ⟨q.1, by omega⟩), uM_diff h, uM_diff (fun q => h2 ⟨q.1, by omega⟩), uM_diff h, uM_diff (fun q => h2 ⟨q.1, by omega⟩)]
theorem mp4_b {w : Int32} {t : Nat} {M : gM} : mp4 w t M 402 t = bM w 24 ∧ mp4 w t M 402 (t + 1) = bM w 16 ∧ mp4 w t M 402 (t + 2) = bM w 8 ∧ mp4 w t M 402 (t + 3) = bM w 0 := by
  unfold mp4
  simp only [uM_at]
  refine ⟨?_, ?_, ?_, ?_⟩ <;> simp <;> omega
theorem s_Main_feed {a b c d e : Int32} {t : Nat} {M : gM} (hM : M 1 1 = nI t) (ht : t + 20 ≤ 2000) : F_Main_feed a b c d e M = some (nI (t + 20), tw4 e (t + 16) (tw4 d (t + 12) (tw4 c (t + 8) (tw4 b (t + 4) (tw4 a t M))))) := by
  unfold F_Main_feed
  rw [hM, if_pos (by rw [show (20 : Int32) = nI 20 from rfl, show (2000 : Int32) = nI 2000 from rfl, nI_add, nI_leI (by omega) (by omega)]; exact ht)]
  rw [s_Tape_write hM (by omega), bI_s, s_Tape_write tw4_1 (by omega), bI_s, s_Tape_write tw4_1 (by omega), bI_s, s_Tape_write tw4_1 (by omega), bI_s, s_Tape_write tw4_1 (by omega), bI_s, tw4_1]
theorem s_Main_feed' {a b c d e : Int32} {t : Nat} {M : gM} (hM : M 1 1 = nI t) (ht : t ≤ 2000) (h : ¬ t + 20 ≤ 2000) : F_Main_feed a b c d e M = some (-1, M) := by
  unfold F_Main_feed
  rw [hM, if_neg (by rw [show (20 : Int32) = nI 20 from rfl, show (2000 : Int32) = nI 2000 from rfl, nI_add, nI_leI (by omega) (by omega)]; exact h)]
theorem s_Mod_feed {a b c d e : Int32} {t : Nat} {M : gM} (hM : M 401 2 = nI t) (ht : t + 20 ≤ 2000) : F_Mod_feed a b c d e M = some (nI (t + 20), mp4 e (t + 16) (mp4 d (t + 12) (mp4 c (t + 8) (mp4 b (t + 4) (mp4 a t M))))) := by
  unfold F_Mod_feed
  rw [hM, if_pos (by rw [show (20 : Int32) = nI 20 from rfl, show (2000 : Int32) = nI 2000 from rfl, nI_add, nI_leI (by omega) (by omega)]; exact ht)]
  rw [s_Mod_put hM (by omega), bI_s, s_Mod_put mp4_1 (by omega), bI_s, s_Mod_put mp4_1 (by omega), bI_s, s_Mod_put mp4_1 (by omega), bI_s, s_Mod_put mp4_1 (by omega), bI_s, mp4_1]
theorem s_Mod_feed' {a b c d e : Int32} {t : Nat} {M : gM} (hM : M 401 2 = nI t) (ht : t ≤ 2000) (h : ¬ t + 20 ≤ 2000) : F_Mod_feed a b c d e M = some (-1, M) := by
  unfold F_Mod_feed
  rw [hM, if_neg (by rw [show (20 : Int32) = nI 20 from rfl, show (2000 : Int32) = nI 2000 from rfl, nI_add, nI_leI (by omega) (by omega)]; exact h)]
end MG7x1
section MG7x2
/-! loops over rows -/
theorem fl_cons {M : gM} {a o n : Nat} {v : Nat → Int32} {x : Int32} (hx : x = v 0) : fl (uM M a o x) a (o + 1) n (fun j => v (j + 1)) = fl M a o (n + 1) v := by
  subst hx
  funext c j
  rw [fl_at, fl_at]
  by_cases h : c = a ∧ o + 1 ≤ j ∧ j < o + 1 + n
  · rw [if_pos h, if_pos ⟨h.1, by omega, by omega⟩]
    show v (j - (o + 1) + 1) = v (j - o)
    congr 1
    omega
  · rw [if_neg h]
    by_cases g : c = a ∧ j = o
    · rw [g.1, g.2, uM_same, if_pos ⟨rfl, by omega, by omega⟩, Nat.sub_self]
    · rw [uM_diff g, if_neg (fun q => by
        rcases Nat.lt_or_ge o j with w | w
        · exact h ⟨q.1, by omega, by omega⟩
        · exact g ⟨q.1, by omega⟩)]
theorem fl_in {M : gM} {a o n j : Nat} {v : Nat → Int32} (h : o ≤ j ∧ j < o + n) : fl M a o n v a j = v (j - o) := by rw [fl_at, if_pos ⟨rfl, h⟩]
theorem fl_out {M : gM} {a o n c j : Nat} {v : Nat → Int32} (h : ¬ (c = a ∧ o ≤ j ∧ j < o + n)) : fl M a o n v c j = M c j := by rw [fl_at, if_neg h]
theorem nNI (n : Nat) : Int32.ofNat n = nI n := rfl
theorem wipe_loop {a N : Nat} (hN : N < 2 ^ 31) : ∀ (d k f : Nat) (M : gM), k + d = N → H_Main_wipe_2 a N (f + 1 + d) (nI k) M = some (fl M a k d (fun _ => 0)) := by
  intro d
  induction d with
  | zero =>
    intro k f M h
    show B_Main_wipe_2 a N _ (nI k) M = _
    unfold B_Main_wipe_2
    rw [nNI, if_pos (by rw [nI_leI hN (by omega)]; omega), fl_0]
  | succ d ih =>
    intro k f M h
    show B_Main_wipe_2 a N (H_Main_wipe_2 a N (f + 1 + d)) (nI k) M = _
    unfold B_Main_wipe_2
    rw [nNI, if_neg (by rw [nI_leI hN (by omega)]; omega), if_neg (nI_in (by omega) hN), nI_clamp (by omega), nmM_e, nmI_e, nI_1, ih (k + 1) f _ (by omega)]
    exact congrArg some (fl_cons (v := fun _ => 0) rfl)
theorem s_wipe {a N : Nat} {M : gM} (hN : N ≤ 900) : F_Main_wipe a N M = some (fl M a 0 N (fun _ => 0)) := by
  unfold F_Main_wipe
  obtain ⟨g, hg⟩ := FU_k (1 + N) (by omega)
  rw [hg, ← Nat.add_assoc]
  exact wipe_loop (by omega) N 0 _ M (by omega)
theorem copy_loop {a1 N1 a2 N2 : Nat} (hN : N1 < 2 ^ 31) (hN2 : N2 = N1) (ha : a1 ≠ a2) : ∀ (d k f : Nat) (M : gM), k + d = N1 → H_Main_copyRow_2 a1 N1 a2 N2 (f + 1 + d) (nI k) M = some (fl M a2 k d (fun j => M a1 (k + j))) := by
  subst hN2
  intro d
  induction d with
  | zero =>
    intro k f M h
    show B_Main_copyRow_2 a1 _ a2 _ _ (nI k) M = _
    unfold B_Main_copyRow_2
    rw [nNI, if_pos (by rw [nI_leI hN (by omega)]; omega), fl_0]
  | succ d ih =>
    intro k f M h
    show B_Main_copyRow_2 a1 _ a2 _ (H_Main_copyRow_2 a1 _ a2 _ (f + 1 + d)) (nI k) M = _
    unfold B_Main_copyRow_2
    rw [nNI, if_neg (by rw [nI_leI hN (by omega)]; omega), if_neg (by rw [nI_leI hN (by omega)]; omega), if_neg (nI_in (by omega) hN), if_neg (nI_in (by omega) hN), nI_clamp (by omega), nmM_e, nmI_e, nI_1, ih (k + 1) f _ (by omega)]
    refine congrArg some ?_
    have e : (fun j => uM M a2 k (M a1 k) a1 (k + 1 + j)) = fun j => (fun j => M a1 (k + j)) (j + 1) := by
      funext j
      rw [uM_diff (fun q => ha q.1)]
      show M a1 (k + 1 + j) = M a1 (k + (j + 1))
      congr 1
      omega
    rw [e]
    exact fl_cons (v := fun j => M a1 (k + j)) rfl
theorem s_copyRow {a1 a2 N : Nat} {M : gM} (hN : N ≤ 900) (ha : a1 ≠ a2) : F_Main_copyRow a1 N a2 N M = some (fl M a2 0 N (M a1)) := by
  unfold F_Main_copyRow
  obtain ⟨g, hg⟩ := FU_k (1 + N) (by omega)
  rw [hg, ← Nat.add_assoc]
  refine (copy_loop (by omega) rfl ha N 0 _ M (by omega)).trans ?_
  simp only [Nat.zero_add]
theorem copies_loop : ∀ (d k f : Nat) (M : gM), k + d = 38 → H_Mod_copies_2 (f + 1 + d) (nI k) M = J_Mod_copies_26 (fl M 437 k d (fun j => M 436 (k + j))) := by
  intro d
  induction d with
  | zero =>
    intro k f M h
    show B_Mod_copies_2 _ (nI k) M = _
    unfold B_Mod_copies_2
    rw [show (38 : Int32) = nI 38 from rfl, if_pos (by rw [nI_leI (by omega) (by omega)]; omega), fl_0]
  | succ d ih =>
    intro k f M h
    show B_Mod_copies_2 (H_Mod_copies_2 (f + 1 + d)) (nI k) M = _
    unfold B_Mod_copies_2
    rw [show (38 : Int32) = nI 38 from rfl, if_neg (by rw [nI_leI (by omega) (by omega)]; omega), if_neg (nI_in (by omega) (by omega)), if_neg (nI_in (by omega) (by omega)), nI_clamp (by omega), nmM_e, nmI_e, nI_1, ih (k + 1) f _ (by omega)]
    refine congrArg J_Mod_copies_26 ?_
    have e : (fun j => uM M 437 k (M 436 k) 436 (k + 1 + j)) = fun j => (fun j => M 436 (k + j)) (j + 1) := by
      funext j
      rw [uM_diff (by omega)]
      show M 436 (k + 1 + j) = M 436 (k + (j + 1))
      congr 1
      omega
    rw [e]
    exact fl_cons (v := fun j => M 436 (k + j)) rfl
theorem s_copies {M : gM} {lv : Nat} (hl : M 401 18 = nI lv) (hl2 : lv < 2) : F_Mod_copies M = some (uM (fl M 437 0 38 (M 436)) 401 54 (M 423 lv)) := by
  unfold F_Mod_copies
  obtain ⟨g, hg⟩ := FU_k (1 + 38) (by omega)
  rw [hg, ← Nat.add_assoc]
  refine (copies_loop 38 0 _ M (by omega)).trans ?_
  unfold J_Mod_copies_26
  rw [fl_out (by omega), hl, if_neg (nI_in hl2 (by decide)), nI_clamp (by omega), nmM_e, fl_out (by omega)]
  simp only [Nat.zero_add]
theorem nI_inc {c N : Nat} (h : c < N) (hN : c < 2 ^ 31) : ¬ (nI c < 0 ∨ N ≤ c) := by
  rintro (q | q)
  · exact nI_pos hN q
  · omega
theorem s_put0 {a N : Nat} {M : gM} {x : Int32} (hi : 0 < N) (hN : N < 2 ^ 31) : F_Main_put a N 0 x M = some (uM M a 0 x) := s_put (i := 0) hi hN
theorem s_put1 {a N : Nat} {M : gM} {x : Int32} (hi : 1 < N) (hN : N < 2 ^ 31) : F_Main_put a N 1 x M = some (uM M a 1 x) := s_put (i := 1) hi hN
theorem s_put2 {a N : Nat} {M : gM} {x : Int32} (hi : 2 < N) (hN : N < 2 ^ 31) : F_Main_put a N 2 x M = some (uM M a 2 x) := s_put (i := 2) hi hN
theorem i10 : ((1 : Int32) = 0) = False := eq_false (by decide)
end MG7x2
section MG7x3
/-! a function comes to a value that has P -/
def Ok {τ : Type} (o : Option τ) (P : τ → Prop) : Prop := ∃ q, o = some q ∧ P q
section OK
variable {τ : Type} {P P' : τ → Prop}
theorem Ok.pure {q : τ} (h : P q) : Ok (some q) P := ⟨q, rfl, h⟩
theorem Ok.imp {o : Option τ} (h : Ok o P) (k : ∀ q, P q → P' q) : Ok o P' := by
  obtain ⟨q, h1, h2⟩ := h
  exact ⟨q, h1, k q h2⟩
theorem Ok.ite {c : Prop} [Decidable c] {A B : Option τ} (h1 : c → Ok A P) (h2 : ¬ c → Ok B P) : Ok (if c then A else B) P := by
  by_cases h : c
  · rw [if_pos h]; exact h1 h
  · rw [if_neg h]; exact h2 h
theorem Ok.gd {c : Prop} [Decidable c] {B : Option τ} (h : ¬ c) (k : Ok B P) : Ok (if c then none else B) P := by rw [if_neg h]; exact k
theorem Ok.gp {c : Prop} [Decidable c] {B : Option τ} (h : c) (k : Ok B P) : Ok (if c then B else none) P := by rw [if_pos h]; exact k
theorem Ok.nmM {v : gM} {f : gM → Option τ} (k : ∀ x, x = v → Ok (f x) P) : Ok (nmM v f) P := k v rfl
theorem Ok.nmL {v : gL} {f : gL → Option τ} (k : ∀ x, x = v → Ok (f x) P) : Ok (nmL v f) P := k v rfl
theorem Ok.nmI {v : Int32} {f : Int32 → Option τ} (k : ∀ x, x = v → Ok (f x) P) : Ok (nmI v f) P := k v rfl
theorem Ok.nmJ {v : Int64} {f : Int64 → Option τ} (k : ∀ x, x = v → Ok (f x) P) : Ok (nmJ v f) P := k v rfl
theorem Ok.c1 {α : Type} {o : Option α} {f : α → Option τ} {A : α → Prop} (h : ∃ a, o = some a ∧ A a) (k : ∀ a, A a → Ok (f a) P) : Ok (bI o f) P := by
  obtain ⟨a, rfl, h⟩ := h
  exact k a h
theorem Ok.c2 {α β : Type} {o : Option (α × β)} {f : α → β → Option τ} {A : α → β → Prop} (h : ∃ a b, o = some (a, b) ∧ A a b) (k : ∀ a b, A a b → Ok (f a b) P) : Ok (bI2 o f) P := by
  obtain ⟨a, b, rfl, h⟩ := h
  exact k a b h
theorem Ok.c3 {α β γ : Type} {o : Option (α × β × γ)} {f : α → β → γ → Option τ} {A : α → β → γ → Prop} (h : ∃ a b c, o = some (a, b, c) ∧ A a b c) (k : ∀ a b c, A a b c → Ok (f a b c) P) : Ok (bI3 o f) P := by
  obtain ⟨a, b, c, rfl, h⟩ := h
  exact k a b c h
theorem Ok.x2 {α β : Type} {o : Option (α × β)} {A : α → β → Prop} (h : Ok o (fun q => A q.1 q.2)) : ∃ a b, o = some (a, b) ∧ A a b := by
  obtain ⟨q, h1, h2⟩ := h
  exact ⟨q.1, q.2, h1, h2⟩
end OK
def zL : gL := fun _ _ => 0
def scrL : List Nat := [23, 24, 27, 28, 31, 32, 35, 36, 37, 49, 50, 53, 54, 57, 58, 61, 62, 63, 390]
def varL : List Nat := [23, 27, 31, 35, 49, 53, 57, 61]
def vok (c j : Nat) : Bool := ((c == 23 || c == 49) && (j == 0 || j == 1 || j == 2 || j == 3 || j == 4)) || ((c == 27 || c == 53) && (j == 0 || j == 2 || j == 4 || j == 5 || j == 6)) || ((c == 31 || c == 57) && (j == 2 || j == 4 || j == 7 || j == 8)) || ((c == 35 || c == 61) && (j == 1 || j == 3 || j == 4))
def C0 (c j : Nat) : Bool := scrL.contains c && (!(varL.contains c) || vok c j)
def C1 (c j : Nat) : Bool := C0 c j || (decide (71 ≤ c) && decide (c < 78)) || (c == 383 && !(j == 3)) || (decide (387 ≤ c) && decide (c < 401))
def CX (X c j : Nat) : Bool := C0 c j || (decide (X ≤ c) && decide (c < X + 7))
def Sc (c j : Nat) : Bool := C1 c j || MS1 c j
def oneL (a c _ : Nat) : Bool := c == a
theorem C0_C1 : ∀ c j, C0 c j = true → C1 c j = true := fun c j h => by unfold C1; rw [h]; rfl
theorem C0_CX {X : Nat} : ∀ c j, C0 c j = true → CX X c j = true := fun c j h => by unfold CX; rw [h]; rfl
theorem C1_Sc : ∀ c j, C1 c j = true → Sc c j = true := fun c j h => by unfold Sc; rw [h]; rfl
theorem C0_Sc : ∀ c j, C0 c j = true → Sc c j = true := fun c j h => C1_Sc c j (C0_C1 c j h)
theorem MS1_Sc : ∀ c j, MS1 c j = true → Sc c j = true := fun c j h => by unfold Sc; rw [h, Bool.or_true]
theorem MS0_Sc : ∀ c j, MS0 c j = true → Sc c j = true := fun c j h => MS1_Sc c j (MS0_MS1 c j h)
theorem CX_o {X c j : Nat} (h : X ≤ c ∧ c < X + 7) : CX X c j = true := by simp [CX, h.1, h.2]
theorem CX_C1 : ∀ c j, CX 71 c j = true → C1 c j = true := fun c j h => by
  unfold CX at h; unfold C1
  rcases (Bool.or_eq_true _ _).mp h with h | h
  · rw [h]; rfl
  · rw [show (decide (71 ≤ c) && decide (c < 78)) = true from h]; simp
theorem oneL_self (a j : Nat) : oneL a a j = true := by simp [oneL]
theorem oneL_S {S : Nat → Nat → Bool} {a : Nat} (h : ∀ j, S a j = true) : ∀ c j, oneL a c j = true → S c j = true := fun c j hc => by
  have : c = a := by simpa [oneL] using hc
  rw [this]; exact h j
theorem C0_f {c j : Nat} (h : scrL.contains c = false) : C0 c j = false := by unfold C0; rw [h]; rfl
theorem C1_f {c j : Nat} (h : scrL.contains c = false) (h2 : c < 71) : C1 c j = false := by
  unfold C1 C0
  rw [h]
  simp
  omega
theorem CX_f {X c j : Nat} (h : scrL.contains c = false) (h2 : c < X ∨ X + 7 ≤ c) : CX X c j = false := by
  unfold CX C0
  rw [h]
  simp
  omega
theorem St_La {X y : Nat} (h : isSt X) (g : isLa y) : y < X ∧ scrL.contains y = false := ⟨(by decide +kernel : ∀ y ∈ lLa, ∀ X ∈ lSt, y < X) y g X h, (by decide +kernel : ∀ y ∈ lLa, scrL.contains y = false) y g⟩
theorem CX_Laf {X y j : Nat} (h : isSt X) (g : isLa y) : CX X y j = false := CX_f (St_La h g).2 (Or.inl (St_La h g).1)
theorem fu_up {x y : Int32} : (y.toInt - x.toInt).toNat < FU := by
  have := i_b x; have := i_b y; unfold FU; omega
theorem fu_upe {x y : Int32} : (y.toInt + 1 - x.toInt).toNat < FU := by
  have := i_b x; have := i_b y; unfold FU; omega
theorem fu_dn {x : Int32} : (x.toInt + 1).toNat < FU := by
  have := i_b x; unfold FU; omega
theorem C0_list : ∀ x ∈ scrL, varL.contains x = false → ∀ j, C0 x j = true := fun x hx hv j => by
  have h1 : scrL.contains x = true := by simpa using hx
  unfold C0
  rw [h1, hv]
  rfl
theorem C0_St_0f {x : Nat} (h : isSt x) {j : Nat} : C0 (x) j = false := C0_f ((by decide +kernel : ∀ x ∈ lSt, scrL.contains (x) = false) x h)
theorem C0_St_1f {x : Nat} (h : isSt x) {j : Nat} : C0 (x + 1) j = false := C0_f ((by decide +kernel : ∀ x ∈ lSt, scrL.contains (x + 1) = false) x h)
theorem C0_St_2f {x : Nat} (h : isSt x) {j : Nat} : C0 (x + 2) j = false := C0_f ((by decide +kernel : ∀ x ∈ lSt, scrL.contains (x + 2) = false) x h)
theorem C0_St_3f {x : Nat} (h : isSt x) {j : Nat} : C0 (x + 3) j = false := C0_f ((by decide +kernel : ∀ x ∈ lSt, scrL.contains (x + 3) = false) x h)
theorem C0_St_4f {x : Nat} (h : isSt x) {j : Nat} : C0 (x + 4) j = false := C0_f ((by decide +kernel : ∀ x ∈ lSt, scrL.contains (x + 4) = false) x h)
theorem C0_St_5f {x : Nat} (h : isSt x) {j : Nat} : C0 (x + 5) j = false := C0_f ((by decide +kernel : ∀ x ∈ lSt, scrL.contains (x + 5) = false) x h)
theorem C0_St_6f {x : Nat} (h : isSt x) {j : Nat} : C0 (x + 6) j = false := C0_f ((by decide +kernel : ∀ x ∈ lSt, scrL.contains (x + 6) = false) x h)
theorem C0_La_12 {x : Nat} (h : isLa x) (j : Nat) : C0 (x + 12) j = true := C0_list _ ((by decide +kernel : ∀ x ∈ lLa, (x + 12) ∈ scrL) x h) ((by decide +kernel : ∀ x ∈ lLa, varL.contains (x + 12) = false) x h) j
theorem C0_La_16 {x : Nat} (h : isLa x) (j : Nat) : C0 (x + 16) j = true := C0_list _ ((by decide +kernel : ∀ x ∈ lLa, (x + 16) ∈ scrL) x h) ((by decide +kernel : ∀ x ∈ lLa, varL.contains (x + 16) = false) x h) j
theorem C0_La_20 {x : Nat} (h : isLa x) (j : Nat) : C0 (x + 20) j = true := C0_list _ ((by decide +kernel : ∀ x ∈ lLa, (x + 20) ∈ scrL) x h) ((by decide +kernel : ∀ x ∈ lLa, varL.contains (x + 20) = false) x h) j
theorem C0_La_24 {x : Nat} (h : isLa x) (j : Nat) : C0 (x + 24) j = true := C0_list _ ((by decide +kernel : ∀ x ∈ lLa, (x + 24) ∈ scrL) x h) ((by decide +kernel : ∀ x ∈ lLa, varL.contains (x + 24) = false) x h) j
theorem C0_La_25 {x : Nat} (h : isLa x) (j : Nat) : C0 (x + 25) j = true := C0_list _ ((by decide +kernel : ∀ x ∈ lLa, (x + 25) ∈ scrL) x h) ((by decide +kernel : ∀ x ∈ lLa, varL.contains (x + 25) = false) x h) j
theorem C0_La_0f {x : Nat} (h : isLa x) {j : Nat} : C0 (x) j = false := C0_f ((by decide +kernel : ∀ x ∈ lLa, scrL.contains (x) = false) x h)
theorem C1_La_0f {x : Nat} (h : isLa x) {j : Nat} : C1 (x) j = false := C1_f ((by decide +kernel : ∀ x ∈ lLa, scrL.contains (x) = false) x h) ((by decide +kernel : ∀ x ∈ lLa, x < 71) x h)
theorem C0_La_1f {x : Nat} (h : isLa x) {j : Nat} : C0 (x + 1) j = false := C0_f ((by decide +kernel : ∀ x ∈ lLa, scrL.contains (x + 1) = false) x h)
theorem C1_La_1f {x : Nat} (h : isLa x) {j : Nat} : C1 (x + 1) j = false := C1_f ((by decide +kernel : ∀ x ∈ lLa, scrL.contains (x + 1) = false) x h) ((by decide +kernel : ∀ x ∈ lLa, x + 1 < 71) x h)
theorem C0_La_2f {x : Nat} (h : isLa x) {j : Nat} : C0 (x + 2) j = false := C0_f ((by decide +kernel : ∀ x ∈ lLa, scrL.contains (x + 2) = false) x h)
theorem C1_La_2f {x : Nat} (h : isLa x) {j : Nat} : C1 (x + 2) j = false := C1_f ((by decide +kernel : ∀ x ∈ lLa, scrL.contains (x + 2) = false) x h) ((by decide +kernel : ∀ x ∈ lLa, x + 2 < 71) x h)
theorem C0_La_3f {x : Nat} (h : isLa x) {j : Nat} : C0 (x + 3) j = false := C0_f ((by decide +kernel : ∀ x ∈ lLa, scrL.contains (x + 3) = false) x h)
theorem C1_La_3f {x : Nat} (h : isLa x) {j : Nat} : C1 (x + 3) j = false := C1_f ((by decide +kernel : ∀ x ∈ lLa, scrL.contains (x + 3) = false) x h) ((by decide +kernel : ∀ x ∈ lLa, x + 3 < 71) x h)
theorem C0_La_4f {x : Nat} (h : isLa x) {j : Nat} : C0 (x + 4) j = false := C0_f ((by decide +kernel : ∀ x ∈ lLa, scrL.contains (x + 4) = false) x h)
theorem C1_La_4f {x : Nat} (h : isLa x) {j : Nat} : C1 (x + 4) j = false := C1_f ((by decide +kernel : ∀ x ∈ lLa, scrL.contains (x + 4) = false) x h) ((by decide +kernel : ∀ x ∈ lLa, x + 4 < 71) x h)
theorem C0_La_5f {x : Nat} (h : isLa x) {j : Nat} : C0 (x + 5) j = false := C0_f ((by decide +kernel : ∀ x ∈ lLa, scrL.contains (x + 5) = false) x h)
theorem C1_La_5f {x : Nat} (h : isLa x) {j : Nat} : C1 (x + 5) j = false := C1_f ((by decide +kernel : ∀ x ∈ lLa, scrL.contains (x + 5) = false) x h) ((by decide +kernel : ∀ x ∈ lLa, x + 5 < 71) x h)
theorem C0_La_6f {x : Nat} (h : isLa x) {j : Nat} : C0 (x + 6) j = false := C0_f ((by decide +kernel : ∀ x ∈ lLa, scrL.contains (x + 6) = false) x h)
theorem C1_La_6f {x : Nat} (h : isLa x) {j : Nat} : C1 (x + 6) j = false := C1_f ((by decide +kernel : ∀ x ∈ lLa, scrL.contains (x + 6) = false) x h) ((by decide +kernel : ∀ x ∈ lLa, x + 6 < 71) x h)
theorem C0_La_7f {x : Nat} (h : isLa x) {j : Nat} : C0 (x + 7) j = false := C0_f ((by decide +kernel : ∀ x ∈ lLa, scrL.contains (x + 7) = false) x h)
theorem C1_La_7f {x : Nat} (h : isLa x) {j : Nat} : C1 (x + 7) j = false := C1_f ((by decide +kernel : ∀ x ∈ lLa, scrL.contains (x + 7) = false) x h) ((by decide +kernel : ∀ x ∈ lLa, x + 7 < 71) x h)
theorem C0_La_8f {x : Nat} (h : isLa x) {j : Nat} : C0 (x + 8) j = false := C0_f ((by decide +kernel : ∀ x ∈ lLa, scrL.contains (x + 8) = false) x h)
theorem C1_La_8f {x : Nat} (h : isLa x) {j : Nat} : C1 (x + 8) j = false := C1_f ((by decide +kernel : ∀ x ∈ lLa, scrL.contains (x + 8) = false) x h) ((by decide +kernel : ∀ x ∈ lLa, x + 8 < 71) x h)
theorem C0_La_9f {x : Nat} (h : isLa x) {j : Nat} : C0 (x + 9) j = false := C0_f ((by decide +kernel : ∀ x ∈ lLa, scrL.contains (x + 9) = false) x h)
theorem C1_La_9f {x : Nat} (h : isLa x) {j : Nat} : C1 (x + 9) j = false := C1_f ((by decide +kernel : ∀ x ∈ lLa, scrL.contains (x + 9) = false) x h) ((by decide +kernel : ∀ x ∈ lLa, x + 9 < 71) x h)
theorem C0_La_10f {x : Nat} (h : isLa x) {j : Nat} : C0 (x + 10) j = false := C0_f ((by decide +kernel : ∀ x ∈ lLa, scrL.contains (x + 10) = false) x h)
theorem C1_La_10f {x : Nat} (h : isLa x) {j : Nat} : C1 (x + 10) j = false := C1_f ((by decide +kernel : ∀ x ∈ lLa, scrL.contains (x + 10) = false) x h) ((by decide +kernel : ∀ x ∈ lLa, x + 10 < 71) x h)
theorem C0_La_13f {x : Nat} (h : isLa x) {j : Nat} : C0 (x + 13) j = false := C0_f ((by decide +kernel : ∀ x ∈ lLa, scrL.contains (x + 13) = false) x h)
theorem C1_La_13f {x : Nat} (h : isLa x) {j : Nat} : C1 (x + 13) j = false := C1_f ((by decide +kernel : ∀ x ∈ lLa, scrL.contains (x + 13) = false) x h) ((by decide +kernel : ∀ x ∈ lLa, x + 13 < 71) x h)
theorem C0_La_14f {x : Nat} (h : isLa x) {j : Nat} : C0 (x + 14) j = false := C0_f ((by decide +kernel : ∀ x ∈ lLa, scrL.contains (x + 14) = false) x h)
theorem C1_La_14f {x : Nat} (h : isLa x) {j : Nat} : C1 (x + 14) j = false := C1_f ((by decide +kernel : ∀ x ∈ lLa, scrL.contains (x + 14) = false) x h) ((by decide +kernel : ∀ x ∈ lLa, x + 14 < 71) x h)
theorem C0_La_17f {x : Nat} (h : isLa x) {j : Nat} : C0 (x + 17) j = false := C0_f ((by decide +kernel : ∀ x ∈ lLa, scrL.contains (x + 17) = false) x h)
theorem C1_La_17f {x : Nat} (h : isLa x) {j : Nat} : C1 (x + 17) j = false := C1_f ((by decide +kernel : ∀ x ∈ lLa, scrL.contains (x + 17) = false) x h) ((by decide +kernel : ∀ x ∈ lLa, x + 17 < 71) x h)
theorem C0_La_18f {x : Nat} (h : isLa x) {j : Nat} : C0 (x + 18) j = false := C0_f ((by decide +kernel : ∀ x ∈ lLa, scrL.contains (x + 18) = false) x h)
theorem C1_La_18f {x : Nat} (h : isLa x) {j : Nat} : C1 (x + 18) j = false := C1_f ((by decide +kernel : ∀ x ∈ lLa, scrL.contains (x + 18) = false) x h) ((by decide +kernel : ∀ x ∈ lLa, x + 18 < 71) x h)
theorem C0_La_21f {x : Nat} (h : isLa x) {j : Nat} : C0 (x + 21) j = false := C0_f ((by decide +kernel : ∀ x ∈ lLa, scrL.contains (x + 21) = false) x h)
theorem C1_La_21f {x : Nat} (h : isLa x) {j : Nat} : C1 (x + 21) j = false := C1_f ((by decide +kernel : ∀ x ∈ lLa, scrL.contains (x + 21) = false) x h) ((by decide +kernel : ∀ x ∈ lLa, x + 21 < 71) x h)
theorem C0_La_22f {x : Nat} (h : isLa x) {j : Nat} : C0 (x + 22) j = false := C0_f ((by decide +kernel : ∀ x ∈ lLa, scrL.contains (x + 22) = false) x h)
theorem C1_La_22f {x : Nat} (h : isLa x) {j : Nat} : C1 (x + 22) j = false := C1_f ((by decide +kernel : ∀ x ∈ lLa, scrL.contains (x + 22) = false) x h) ((by decide +kernel : ∀ x ∈ lLa, x + 22 < 71) x h)
theorem C0_Lw_3 {x : Nat} (h : isLw x) (j : Nat) : C0 (x + 3) j = true := C0_list _ ((by decide +kernel : ∀ x ∈ lLw, (x + 3) ∈ scrL) x h) ((by decide +kernel : ∀ x ∈ lLw, varL.contains (x + 3) = false) x h) j
theorem C0_Lw_0f {x : Nat} (h : isLw x) {j : Nat} : C0 (x) j = false := C0_f ((by decide +kernel : ∀ x ∈ lLw, scrL.contains (x) = false) x h)
theorem C1_Lw_0f {x : Nat} (h : isLw x) {j : Nat} : C1 (x) j = false := C1_f ((by decide +kernel : ∀ x ∈ lLw, scrL.contains (x) = false) x h) ((by decide +kernel : ∀ x ∈ lLw, x < 71) x h)
theorem C0_Lw_1f {x : Nat} (h : isLw x) {j : Nat} : C0 (x + 1) j = false := C0_f ((by decide +kernel : ∀ x ∈ lLw, scrL.contains (x + 1) = false) x h)
theorem C1_Lw_1f {x : Nat} (h : isLw x) {j : Nat} : C1 (x + 1) j = false := C1_f ((by decide +kernel : ∀ x ∈ lLw, scrL.contains (x + 1) = false) x h) ((by decide +kernel : ∀ x ∈ lLw, x + 1 < 71) x h)
theorem md_upe {x x' y : Int32} {f : Nat} (h : ¬ y < x) (hy : y.toInt < 2147483647) (e : x' = x + 1) (hm : (y.toInt + 1 - x.toInt).toNat < f + 1) : (y.toInt + 1 - x'.toInt).toNat < f := by
  have h1 : x.toInt ≤ y.toInt := by rw [i_lt] at h; omega
  have h2 : (x + 1).toInt = x.toInt + 1 := by
    have h3 := i_b x
    rw [Int32.toInt_add]
    have e : (1 : Int32).toInt = 1 := by decide
    rw [e, Int.bmod_eq_of_le (by omega) (by omega)]
  rw [e, h2]
  omega
theorem nn_up {x x' y : Int32} (h : ¬ y ≤ x) (e : x' = x + 1) (h0 : ¬ x < 0) : ¬ x' < 0 := by
  have h1 : x < y := by rw [i_lt]; rw [i_le] at h; omega
  have h2 := i_add1 h1
  rw [i_lt, Int32.toInt_zero] at h0 ⊢
  rw [e, h2]; omega
theorem nn_upe {x x' y : Int32} (h : ¬ y < x) (hy : y.toInt < 2147483647) (e : x' = x + 1) (h0 : ¬ x < 0) : ¬ x' < 0 := by
  have h1 : x.toInt ≤ y.toInt := by rw [i_lt] at h; omega
  have h2 : (x + 1).toInt = x.toInt + 1 := by
    have h3 := i_b x
    rw [Int32.toInt_add]
    have e : (1 : Int32).toInt = 1 := by decide
    rw [e, Int.bmod_eq_of_le (by omega) (by omega)]
  rw [i_lt, Int32.toInt_zero] at h0 ⊢
  rw [e, h2]; omega
theorem md_dn8 {x x' : Int32} {f : Nat} (h : ¬ x < 0) (e : x' = x + (-8)) (hm : (x.toInt + 8).toNat < f + 1) : (x'.toInt + 8).toNat < f := by
  have h1 := mt i_lt.mpr h
  rw [Int32.toInt_zero] at h1
  have h3 := i_b x
  have h2 : (x + (-8)).toInt = x.toInt - 8 := by
    rw [Int32.toInt_add]
    have e : (-8 : Int32).toInt = -8 := by decide
    rw [e, Int.bmod_eq_of_le (by omega) (by omega)]
    omega
  rw [e, h2]
  omega
end MG7x3
