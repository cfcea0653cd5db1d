/-! between two tells -/
section PAR9
variable {b : Nat → Nat} {n m : Nat}
def Cnts (ld sd nf nd ng ne : Nat) (M N : gM) : Prop := (M ld 0 = nI nf ∧ N 411 sd = nI nf ∧ nf ≤ 6) ∧ (M ld 1 = nI nd ∧ N 415 sd = nI nd ∧ nd ≤ 5) ∧ (M ld 2 = nI ng ∧ N 418 sd = nI ng ∧ ng ≤ 4) ∧ (M ld 3 = nI ne ∧ N 420 sd = nI ne ∧ ne ≤ 6)
def Mcnt (sd : Nat) (N : gM) : Prop := (∃ k, N 411 sd = nI k ∧ k ≤ 6) ∧ (∃ k, N 415 sd = nI k ∧ k ≤ 5) ∧ (∃ k, N 418 sd = nI k ∧ k ≤ 4) ∧ (∃ k, N 420 sd = nI k ∧ k ≤ 6)
def DFo (ld sd nf : Nat) (M N : gM) : Prop := ∀ k, k < nf → (∃ x, x ≤ 99 ∧ M (ld + 1) k = nI x ∧ N 412 (6 * sd + k) = nI x) ∧ (∃ x, x ≤ 9 ∧ M (ld + 2) k = nI x ∧ N 413 (6 * sd + k) = nI x) ∧ ∀ j, j < 3 → ∃ x, x ≤ 9 ∧ M (ld + 3) (3 * k + j) = nI x ∧ N 414 (3 * (6 * sd + k) + j) = nI x
def DDi (ld sd nd nf : Nat) (M N : gM) : Prop := (∀ k, k < nd → (∃ x, x ≤ 9 ∧ M (ld + 4) k = nI x ∧ N 416 (5 * sd + k) = nI x) ∧ ∃ A : Nat → Nat, (∀ f, f < 6 → M (ld + 5) (6 * k + f) = nI (A f) ∧ N 417 (6 * (5 * sd + k) + f) = nI (A f) ∧ (0 < A f → f < nf)) ∧ 1 ≤ A 0 + A 1 + A 2 + A 3 + A 4 + A 5 ∧ A 0 + A 1 + A 2 + A 3 + A 4 + A 5 ≤ 6) ∧ ∀ j, 6 * nd ≤ j → j < 30 → M (ld + 5) j = 0
def DGu (ld sd ng : Nat) (M N : gM) : Prop := ∀ k, k < ng → ∃ x, x ≤ 9 ∧ M (ld + 6) k = nI x ∧ N 419 (4 * sd + k) = nI x
def DDe (ld sd ne : Nat) (M N : gM) : Prop := ∀ k, k < ne → (∃ x, x ≤ 2 ∧ M (ld + 7) k = nI x ∧ N 421 (6 * sd + k) = nI x) ∧ ∃ x, x ≤ 99 ∧ M (ld + 8) k = nI x ∧ N 422 (6 * sd + k) = nI x
def DSe (ld sd : Nat) (M N : gM) : Prop := ∃ x, x ≤ 9999 ∧ M ld 4 = nI x ∧ N 423 sd = nI x
theorem DFo.keep {ld sd nf : Nat} {M N M' N' : gM} (h : DFo ld sd nf M N) (h1 : ∀ c j, ld + 1 ≤ c → c ≤ ld + 3 → M' c j = M c j) (h2 : ∀ c j, 412 ≤ c → c ≤ 414 → N' c j = N c j) : DFo ld sd nf M' N' := fun k hk => by
  rw [h1 _ _ (by omega) (by omega), h1 _ _ (by omega) (by omega), h2 _ _ (by omega) (by omega), h2 _ _ (by omega) (by omega)]
  refine ⟨(h k hk).1, (h k hk).2.1, fun j hj => ?_⟩
  rw [h1 _ _ (by omega) (by omega), h2 _ _ (by omega) (by omega)]
  exact (h k hk).2.2 j hj
theorem DDi.keep {ld sd nd nf nf' : Nat} {M N M' N' : gM} (h : DDi ld sd nd nf M N) (hf : nf ≤ nf') (h1 : ∀ c j, ld + 4 ≤ c → c ≤ ld + 5 → M' c j = M c j) (h2 : ∀ c j, 416 ≤ c → c ≤ 417 → N' c j = N c j) : DDi ld sd nd nf' M' N' := by
  refine ⟨fun k hk => ?_, fun j hj hj2 => by rw [h1 _ _ (by omega) (by omega)]; exact h.2 j hj hj2⟩
  obtain ⟨a1, A, a2, a3, a4⟩ := h.1 k hk
  rw [h1 _ _ (by omega) (by omega), h2 _ _ (by omega) (by omega)]
  refine ⟨a1, A, fun f hf6 => ?_, a3, a4⟩
  rw [h1 _ _ (by omega) (by omega), h2 _ _ (by omega) (by omega)]
  exact ⟨(a2 f hf6).1, (a2 f hf6).2.1, fun q => Nat.lt_of_lt_of_le ((a2 f hf6).2.2 q) hf⟩
theorem DGu.keep {ld sd ng : Nat} {M N M' N' : gM} (h : DGu ld sd ng M N) (h1 : ∀ j, M' (ld + 6) j = M (ld + 6) j) (h2 : ∀ j, N' 419 j = N 419 j) : DGu ld sd ng M' N' := fun k hk => by rw [h1, h2]; exact h k hk
theorem DDe.keep {ld sd ne : Nat} {M N M' N' : gM} (h : DDe ld sd ne M N) (h1 : ∀ c j, ld + 7 ≤ c → c ≤ ld + 8 → M' c j = M c j) (h2 : ∀ c j, 421 ≤ c → c ≤ 422 → N' c j = N c j) : DDe ld sd ne M' N' := fun k hk => by
  rw [h1 _ _ (by omega) (by omega), h1 _ _ (by omega) (by omega), h2 _ _ (by omega) (by omega), h2 _ _ (by omega) (by omega)]
  exact h k hk
theorem DSe.keep {ld sd : Nat} {M N M' N' : gM} (h : DSe ld sd M N) (h1 : M' ld 4 = M ld 4) (h2 : N' 423 sd = N 423 sd) : DSe ld sd M' N' := by unfold DSe; rw [h1, h2]; exact h
def Dat (ld sd nf nd ng ne : Nat) (M N : gM) : Prop := DFo ld sd nf M N ∧ DDi ld sd nd nf M N ∧ DGu ld sd ng M N ∧ DDe ld sd ne M N ∧ DSe ld sd M N
def LawU (W sd w c i : Nat) (M N : gM) : Prop := (M W 1 = nI 0 ∧ N 424 (4 * sd + w) = nI 0 ∧ N 425 (4 * sd + w) = nI 0) ∨ LawR W sd w c i M N
def Lws (ld sd c i : Nat) (M N : gM) : Prop := ∀ w, w < 4 → LawU (ld + 9 + 4 * w) sd w c i M N
theorem Lws.keep {ld sd c i : Nat} {M N M' N' : gM} (h : Lws ld sd c i M N) (h1 : ∀ cc j, ld + 9 ≤ cc → cc ≤ ld + 25 → M' cc j = M cc j) (h2 : ∀ cc j, 424 ≤ cc → cc ≤ 432 → N' cc j = N cc j) : Lws ld sd c i M' N' := fun w hw => by
  rcases h w hw with ⟨a1, a2, a3⟩ | h
  · exact Or.inl ⟨by rw [h1 _ _ (by omega) (by omega)]; exact a1, by rw [h2 _ _ (by omega) (by omega)]; exact a2, by rw [h2 _ _ (by omega) (by omega)]; exact a3⟩
  · exact Or.inr (h.keep (Nat.le_refl _) (Nat.le_refl _) (h1 _ _ (by omega) (by omega)) (fun j => h1 _ _ (by omega) (by omega)) (fun j _ _ => ⟨h2 _ _ (by omega) (by omega), h2 _ _ (by omega) (by omega)⟩) (fun cc j x y _ _ => h2 _ _ (by omega) (by omega)) (h2 _ _ (by omega) (by omega)) (h2 _ _ (by omega) (by omega)))
def RS (b : Nat → Nat) (n m ld sd t nf nd ng ne : Nat) (l : Nat → List Nat) (a : Nat → Int32) (c i : Nat) (M : gM) (L : gL) (N : gM) (K : gL) : Prop := IS b n m t M L N K ∧ (N 401 19 = nI sd ∧ N 401 12 = 0 ∧ N 401 44 = nI c ∧ N 401 38 = nI i ∧ (420 * sd ≤ c ∧ c ≤ t + 420 * sd) ∧ (130 * sd ≤ i ∧ 4 * i ≤ t + 520 * sd)) ∧ Cnts ld sd nf nd ng ne M N ∧ Mn (nf + nd + ng + ne) l a N K ∧ Av nf (nf + nd + ng + ne) a ∧ (M 3 4 = 0 → Cn (nf + nd + ng + ne) l a M L ∧ Un (nf + nd + ng + ne) l ∧ Dat ld sd nf nd ng ne M N) ∧ Lws ld sd c i M N
/-- what the model's tells may change -/
def mT (sd c j : Nat) : Prop := (c = 401 ∧ ((11 ≤ j ∧ j ≤ 16) ∨ j = 20 ∨ j = 38 ∨ j = 44 ∨ j = 48)) ∨ c = 410 ∨ c = 433 ∨ ((c = 411 ∨ c = 415 ∨ c = 418 ∨ c = 420 ∨ c = 423) ∧ j = sd) ∨ ((c = 412 ∨ c = 413 ∨ c = 421 ∨ c = 422) ∧ 6 * sd ≤ j ∧ j < 6 * sd + 6) ∨ (c = 414 ∧ 18 * sd ≤ j ∧ j < 18 * sd + 18) ∨ (c = 416 ∧ 5 * sd ≤ j ∧ j < 5 * sd + 5) ∨ (c = 417 ∧ 30 * sd ≤ j ∧ j < 30 * sd + 30) ∨ ((c = 419 ∨ c = 424 ∨ c = 425) ∧ 4 * sd ≤ j ∧ j < 4 * sd + 4) ∨ ((426 ≤ c ∧ c ≤ 430) ∧ 130 * sd ≤ j ∧ j < 130 * sd + 130) ∨ ((c = 431 ∨ c = 432) ∧ 420 * sd ≤ j ∧ j < 420 * sd + 420)
theorem mS_mT {sd : Nat} : ∀ c j, mS c j → mT sd c j := fun c j h => Or.inl ⟨h.1, by have := h.2; omega⟩
theorem mI_mT {sd : Nat} : ∀ c j, mI c j → mT sd c j := fun c j h => Or.inl ⟨h.1, by have := h.2; omega⟩
def ItO (b : Nat → Nat) (n m ld sd t : Nat) (N : gM) (K : gL) (M' : gM) (L' : gL) (N' : gM) (K' : gL) : Prop := ((∃ t' nf nd ng ne l a c i, t + 1 ≤ t' ∧ RS b n m ld sd t' nf nd ng ne l a c i M' L' N' K') ∨ (Dd b n m M' N' ∧ Mcnt sd N')) ∧ Eo (mT sd) N N' ∧ (∀ c j, c ≠ 409 → K' c j = K c j)
theorem Mcnt.keep {sd : Nat} {N N' : gM} (h : Mcnt sd N) (h1 : ∀ c, c = 411 ∨ c = 415 ∨ c = 418 ∨ c = 420 → N' c sd = N c sd) : Mcnt sd N' := by
  unfold Mcnt
  rw [h1 411 (by omega), h1 415 (by omega), h1 418 (by omega), h1 420 (by omega)]
  exact h
theorem Cnts.mc {ld sd nf nd ng ne : Nat} {M N : gM} (h : Cnts ld sd nf nd ng ne M N) : Mcnt sd N := ⟨⟨_, h.1.2.1, h.1.2.2⟩, ⟨_, h.2.1.2.1, h.2.1.2.2⟩, ⟨_, h.2.2.1.2.1, h.2.2.1.2.2⟩, ⟨_, h.2.2.2.2.1, h.2.2.2.2.2⟩⟩
theorem Cn.keep {nc : Nat} {l : Nat → List Nat} {a : Nat → Int32} {M M' : gM} {L L' : gL} (h : Cn nc l a M L) (h1 : M' 3 8 = M 3 8) (h2 : ∀ j, M' 10 j = M 10 j) (h3 : ∀ j, L' 9 j = L 9 j) : Cn nc l a M' L' := ⟨h1.trans h.1, fun k hk => ⟨(h.2 k hk).1, (h3 k).trans (h.2 k hk).2.1, (h2 k).trans (h.2 k hk).2.2⟩⟩
theorem Mn.keep {nc : Nat} {l : Nat → List Nat} {a : Nat → Int32} {N N' : gM} {K : gL} (h : Mn nc l a N K) (h1 : N' 401 20 = N 401 20) (h2 : ∀ j, N' 410 j = N 410 j) : Mn nc l a N' K := ⟨h1.trans h.1, fun k hk => ⟨(h.2 k hk).1, (h.2 k hk).2.1, (h2 k).trans (h.2 k hk).2.2⟩⟩
theorem Un.add {nc : Nat} {l : Nat → List Nat} {w : List Nat} (h : Un nc l) (hw : ∀ k, k < nc → l k ≠ w) : Un (nc + 1) (fun k => if k = nc then w else l k) := by
  intro i j hi hj e
  dsimp only at e
  by_cases h1 : i = nc
  · by_cases h2 : j = nc
    · rw [h1, h2]
    · rw [if_pos h1, if_neg h2] at e
      exact absurd e.symm (hw j (by omega))
  · by_cases h2 : j = nc
    · rw [if_neg h1, if_pos h2] at e
      exact absurd e (hw i (by omega))
    · rw [if_neg h1, if_neg h2] at e
      exact h i j (by omega) (by omega) e
theorem Av.add {nf nf' nc : Nat} {a : Nat → Int32} {x : Int32} (h : Av nf nc a) (hf : nf ≤ nf') (hx : x = -1 ∨ ∃ f, f < nf' ∧ x = nI f) : Av nf' (nc + 1) (fun k => if k = nc then x else a k) := by
  intro k hk
  dsimp only
  by_cases h1 : k = nc
  · rw [if_pos h1]; exact hx
  · rw [if_neg h1]
    rcases h k (by omega) with q | ⟨f, q1, q2⟩
    · exact Or.inl q
    · exact Or.inr ⟨f, by omega, q2⟩
theorem q_room {k c0 t : Nat} {N : gM} {x y : Int32} (hx : x = nI k) (hy : y = nI c0) (hk : k < 2 ^ 31) (hc : c0 < 2 ^ 31) (hf : N 401 13 = 0) : F_Mod_roomFor x y N = if k = c0 then bI (F_Mod_fail 2 N) (fun M6 => J_Mod_roomFor_10 M6) else bI (F_Mod_goesOn N) (fun M4 => some M4) := by
  unfold F_Mod_roomFor
  rw [hx, hy]
  by_cases h : k = c0
  · rw [if_pos (by rw [h]), if_pos h]
  · rw [if_neg (fun q => h ((nI_eq hk hc).mp q)), if_neg h]
    unfold J_Mod_roomFor_10
    rw [hf, if_pos rfl]
/-- the model's part of tells whose room is out -/
theorem q_roomD {N1 : gM} {k : Nat} (hf : N1 401 13 = nI k) (hk : k = 1 ∨ k = 2) : J_Mod_roomFor_10 N1 = some N1 := by
  unfold J_Mod_roomFor_10
  rw [if_neg (by rw [hf]; exact nI_ne0 (by omega) (by omega))]
end PAR9
