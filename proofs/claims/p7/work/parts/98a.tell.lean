/-! one tell, all tells -/
section PAR15
variable {b : Nat → Nat} {n m : Nat}
theorem Lw_of {ld w : Nat} (h : isLa ld) (hw : w < 4) : isLw (ld + 9 + 4 * w) := (by decide +kernel : ∀ x ∈ lLa, ∀ w, w < 4 → (x + 9 + 4 * w) ∈ lLw) ld h w hw
theorem mW2_mT {sd w i c : Nat} (hw : w < 4) (h1 : 420 * sd ≤ c) (h2 : 130 * sd ≤ i) : ∀ cc j, mW2 sd w i c cc j → (mT sd cc j ∨ (cc = 401 ∧ j = 12)) := fun cc j q => by
  rcases q with q | q | q | q
  · rcases q with q | q | q
    · rcases q.2 with e | e | e | e | e | e
      · exact Or.inl (Or.inl ⟨q.1, Or.inl (by omega)⟩)
      · exact Or.inr ⟨q.1, e⟩
      · exact Or.inl (Or.inl ⟨q.1, Or.inl (by omega)⟩)
      · exact Or.inl (Or.inl ⟨q.1, Or.inl (by omega)⟩)
      · exact Or.inl (Or.inl ⟨q.1, by omega⟩)
      · exact Or.inl (Or.inl ⟨q.1, by omega⟩)
    · exact Or.inl (Or.inr (Or.inr (Or.inl q)))
    · refine Or.inl ?_
      unfold mT; right; right; right; right; right; right; right; right; right; right; omega
  · refine Or.inl ?_
    unfold mT; right; right; right; right; right; right; right; right; right; left; omega
  · exact Or.inl (Or.inl ⟨q.1, by omega⟩)
  · refine Or.inl ?_
    unfold mT; right; right; right; right; right; right; right; right; left; omega
theorem m_tellL {k t : Nat} {N : gM} {K : gL} (h11 : N 401 11 = nI t) (ht : t ≤ 400) (h404 : N 404 t = nI (phi k)) (hk : 132 ≤ k ∧ k ≤ 135) (hf : N 401 13 = 0) : F_Mod_tellOne N K = bI (bI (F_Mod_goesOn N) (fun M74 => F_Mod_tellLaw (nI (k - 132)) M74)) (fun M76 => some (M76, K)) := by
  have e380 : ∀ x : Int32, J_Mod_tellOne_380 x N K = bI (bI (F_Mod_goesOn N) (fun M74 => F_Mod_tellLaw x M74)) (fun M76 => some (M76, K)) := by
    intro x
    unfold J_Mod_tellOne_380
    rw [hf, if_pos (by decide)]
    cases F_Mod_goesOn N <;> rfl
  have hg : ¬ (nI t < 0 ∨ 403 ≤ t) := nI_inc (by omega) (by omega)
  unfold F_Mod_tellOne
  rw [h11, nI_clamp (by omega), if_neg hg, h404]
  rcases (show k = 132 ∨ k = 133 ∨ k = 134 ∨ k = 135 by omega) with e | e | e | e <;> subst e
  · rw [if_neg (show ¬ nI (phi 132) = 20 by decide), if_neg (show ¬ nI (phi 132) = 21 by decide), if_neg (show ¬ nI (phi 132) = 22 by decide), if_neg (show ¬ nI (phi 132) = 23 by decide), if_pos (show nI (phi 132) = 24 by decide), if_neg hg, nmI_e, if_neg (show ¬ nI (phi 132) - 24 < 0 by decide), if_neg hg, if_pos (show nI (phi 132) ≤ 27 by decide), e380]
    rfl
  · rw [if_neg (show ¬ nI (phi 133) = 20 by decide), if_neg (show ¬ nI (phi 133) = 21 by decide), if_neg (show ¬ nI (phi 133) = 22 by decide), if_neg (show ¬ nI (phi 133) = 23 by decide), if_neg (show ¬ nI (phi 133) = 24 by decide), if_pos (show nI (phi 133) = 25 by decide), if_neg hg, nmI_e, if_neg (show ¬ nI (phi 133) - 24 < 0 by decide), if_neg hg, if_pos (show nI (phi 133) ≤ 27 by decide), e380]
    rfl
  · rw [if_neg (show ¬ nI (phi 134) = 20 by decide), if_neg (show ¬ nI (phi 134) = 21 by decide), if_neg (show ¬ nI (phi 134) = 22 by decide), if_neg (show ¬ nI (phi 134) = 23 by decide), if_neg (show ¬ nI (phi 134) = 24 by decide), if_neg (show ¬ nI (phi 134) = 25 by decide), if_pos (show nI (phi 134) = 26 by decide), if_neg hg, nmI_e, if_neg (show ¬ nI (phi 134) - 24 < 0 by decide), if_neg hg, if_pos (show nI (phi 134) ≤ 27 by decide), e380]
    rfl
  · rw [if_neg (show ¬ nI (phi 135) = 20 by decide), if_neg (show ¬ nI (phi 135) = 21 by decide), if_neg (show ¬ nI (phi 135) = 22 by decide), if_neg (show ¬ nI (phi 135) = 23 by decide), if_neg (show ¬ nI (phi 135) = 24 by decide), if_neg (show ¬ nI (phi 135) = 25 by decide), if_neg (show ¬ nI (phi 135) = 26 by decide), if_pos (show nI (phi 135) = 27 by decide), if_neg hg, nmI_e, if_neg (show ¬ nI (phi 135) - 24 < 0 by decide), if_neg hg, if_pos (show nI (phi 135) ≤ 27 by decide), e380]
    rfl
/-- all the other tokens -/
def othK (k : Nat) : Bool := decide (k < 128) || decide (136 < k)
theorem m_tellX {k t : Nat} {N : gM} {K : gL} (h11 : N 401 11 = nI t) (ht : t ≤ 400) (h404 : N 404 t = nI (phi k)) (hk : othK k = true) (hd : kdom k) : F_Mod_tellOne N K = bI (F_Mod_fail 1 N) (fun M71 => J_Mod_tellOne_380 (nI (phi k) - 24) M71 K) := by
  have hg : ¬ (nI t < 0 ∨ 403 ≤ t) := nI_inc (by omega) (by omega)
  have a1 := (by decide +kernel : ∀ k, k < 149 → kdomB k = true → othK k = true → ¬ nI (phi k) = 20) k (by have := kdom_le hd; omega) (kdomB_iff.mpr hd) hk
  have a2 := (by decide +kernel : ∀ k, k < 149 → kdomB k = true → othK k = true → ¬ nI (phi k) = 21) k (by have := kdom_le hd; omega) (kdomB_iff.mpr hd) hk
  have a3 := (by decide +kernel : ∀ k, k < 149 → kdomB k = true → othK k = true → ¬ nI (phi k) = 22) k (by have := kdom_le hd; omega) (kdomB_iff.mpr hd) hk
  have a4 := (by decide +kernel : ∀ k, k < 149 → kdomB k = true → othK k = true → ¬ nI (phi k) = 23) k (by have := kdom_le hd; omega) (kdomB_iff.mpr hd) hk
  have a5 := (by decide +kernel : ∀ k, k < 149 → kdomB k = true → othK k = true → ¬ nI (phi k) = 24) k (by have := kdom_le hd; omega) (kdomB_iff.mpr hd) hk
  have a6 := (by decide +kernel : ∀ k, k < 149 → kdomB k = true → othK k = true → ¬ nI (phi k) = 25) k (by have := kdom_le hd; omega) (kdomB_iff.mpr hd) hk
  have a7 := (by decide +kernel : ∀ k, k < 149 → kdomB k = true → othK k = true → ¬ nI (phi k) = 26) k (by have := kdom_le hd; omega) (kdomB_iff.mpr hd) hk
  have a8 := (by decide +kernel : ∀ k, k < 149 → kdomB k = true → othK k = true → ¬ nI (phi k) = 27) k (by have := kdom_le hd; omega) (kdomB_iff.mpr hd) hk
  have a9 := (by decide +kernel : ∀ k, k < 149 → kdomB k = true → othK k = true → ¬ nI (phi k) = 28) k (by have := kdom_le hd; omega) (kdomB_iff.mpr hd) hk
  have a10 := (by decide +kernel : ∀ k, k < 149 → kdomB k = true → othK k = true → (nI (phi k) - 24 < 0 ∨ ¬ nI (phi k) ≤ 27)) k (by have := kdom_le hd; omega) (kdomB_iff.mpr hd) hk
  unfold F_Mod_tellOne
  rw [h11, nI_clamp (by omega), if_neg hg, h404, if_neg a1, if_neg a2, if_neg a3, if_neg a4, if_neg a5, if_neg a6, if_neg a7, if_neg a8, if_neg a9, if_neg hg, nmI_e]
  unfold J_Mod_tellOne_375
  by_cases h0 : nI (phi k) - 24 < 0
  · rw [if_pos h0]
  · rw [if_neg h0, if_neg hg, if_neg (a10.resolve_left h0)]
theorem t_law {ld sd t nf nd ng ne c i w : Nat} {l : Nat → List Nat} {a : Nat → Int32} {M N : gM} {L K : gL} (hld : isLa ld) (hsd : sd ≤ 1) (hR : RS b n m ld sd t nf nd ng ne l a c i M L N K) (hw : w < 4) (hk : tkK b n t = 132 + w) :
    ∃ M' N', F_Reader_takeLaw (ld + 9 + 4 * w) M L = some M' ∧ F_Mod_tellOne N K = some (N', K) ∧ (((∃ t' nf nd ng ne l a c i, t + 1 ≤ t' ∧ RS b n m ld sd t' nf nd ng ne l a c i M' L N' K) ∨ (Dd b n m M' N' ∧ Mcnt sd N')) ∧ Eo (fun c j => mT sd c j ∨ (c = 401 ∧ j = 12)) N N') := by
  have h12 := La_12 hld
  have hW := Lw_of hld hw
  obtain ⟨hI, ⟨h19, h12', h44, h38, hc, hi⟩, hCt, hMn, hAv, hDat, hLw⟩ := id hR
  have hm := hI.1.m400
  have htm := hI.2.1.2.2.2.2
  rw [m_tellL (k := 132 + w) hI.2.1.2.2.1 (by omega) (by rw [(hI.1.2.2.1 t (by omega)).1, hk]) (by omega) hI.2.1.2.2.2.1, show 132 + w - 132 = w by omega]
  obtain ⟨M', N', g1, g2, g3, g4⟩ := p_law hW hsd hw hI.1 hI.2.1 h44 h12' h38 h19 hc.2 hi.2 hc.1 hi.1 (by omega) (by omega)
  rw [g2, bI_s]
  refine ⟨M', N', g1, rfl, ?_, g4.mono (mW2_mT hw hc.1 hi.1)⟩
  have hNN : ∀ cc, 411 ≤ cc → cc ≤ 423 → ∀ j, N' cc j = N cc j := fun cc h1 h2 j => g4 cc j (by unfold mW2 mE; omega)
  rcases g3 with ⟨t', c', i', y1, y2, y3, y4, y5, y6, y7, y8, y9, y10, y11, y12⟩ | g3
  · have hMM : ∀ cc j, 12 ≤ cc → ¬ (ld + 9 + 4 * w ≤ cc ∧ cc ≤ ld + 10 + 4 * w) → M' cc j = M cc j := fun cc j x1 x2 => y12 cc j (by unfold cE; omega)
    obtain ⟨lf, hL⟩ := hI.2.2
    obtain ⟨⟨cf1, cf2, cf3⟩, ⟨cd1, cd2, cd3⟩, ⟨cg1, cg2, cg3⟩, ⟨ce1, ce2, ce3⟩⟩ := id hCt
    refine Or.inl ⟨t', nf, nd, ng, ne, l, a, c', i', by omega, ⟨y2, y3, lf, hL.up (by omega) (y12 3 4 (by unfold cE; omega)) (y12 3 5 (by unfold cE; omega)) (g4 401 15 (by unfold mW2 mE; omega)) (g4 401 16 (by unfold mW2 mE; omega))⟩, ⟨?_, y5, y4, y6, by omega, by omega⟩, ⟨⟨?_, ?_, cf3⟩, ⟨?_, ?_, cd3⟩, ⟨?_, ?_, cg3⟩, ⟨?_, ?_, ce3⟩⟩, hMn.keep (g4 401 20 (by unfold mW2 mE; omega)) (fun j => g4 410 j (by unfold mW2 mE; omega)), hAv, fun q => ?_, fun w' hw' => ?_⟩
    · rw [g4 401 19 (by unfold mW2 mE; omega)]; exact h19
    · rw [hMM ld 0 (by omega) (by omega)]; exact cf1
    · rw [hNN 411 (by omega) (by omega)]; exact cf2
    · rw [hMM ld 1 (by omega) (by omega)]; exact cd1
    · rw [hNN 415 (by omega) (by omega)]; exact cd2
    · rw [hMM ld 2 (by omega) (by omega)]; exact cg1
    · rw [hNN 418 (by omega) (by omega)]; exact cg2
    · rw [hMM ld 3 (by omega) (by omega)]; exact ce1
    · rw [hNN 420 (by omega) (by omega)]; exact ce2
    · rw [y12 3 4 (by unfold cE; omega)] at q
      obtain ⟨d1, d2, d3, d4, d5, d6, d7⟩ := hDat q
      exact ⟨d1.keep (y12 3 8 (by unfold cE; omega)) (fun j => y12 10 j (by unfold cE; omega)) (fun _ => rfl), d2, d3.keep (fun cc j x1 x2 => hMM cc j (by omega) (by omega)) (fun cc j x1 x2 => hNN cc (by omega) (by omega) j), d4.keep (Nat.le_refl _) (fun cc j x1 x2 => hMM cc j (by omega) (by omega)) (fun cc j x1 x2 => hNN cc (by omega) (by omega) j), d5.keep (fun j => hMM _ j (by omega) (by omega)) (fun j => hNN _ (by omega) (by omega) j), d6.keep (fun cc j x1 x2 => hMM cc j (by omega) (by omega)) (fun cc j x1 x2 => hNN cc (by omega) (by omega) j), d7.keep (hMM ld 4 (by omega) (by omega)) (hNN 423 (by omega) (by omega) sd)⟩
    · by_cases e : w' = w
      · subst e; exact Or.inr y11
      · rcases hLw w' hw' with ⟨z1, z2, z3⟩ | z
        · exact Or.inl ⟨by rw [hMM _ _ (by omega) (by omega)]; exact z1, by rw [g4 424 _ (by unfold mW2 mE; omega)]; exact z2, by rw [g4 425 _ (by unfold mW2 mE; omega)]; exact z3⟩
        · exact Or.inr (z.keep y7 y8 (hMM _ _ (by omega) (by omega)) (fun j => hMM _ _ (by omega) (by omega)) (fun j _ hj => ⟨g4 431 j (by unfold mW2 mE; omega), g4 432 j (by unfold mW2 mE; omega)⟩) (fun cc j x1 x2 _ x3 => g4 cc j (by unfold mW2 mE; omega)) (g4 424 _ (by unfold mW2 mE; omega)) (g4 425 _ (by unfold mW2 mE; omega)))
  · exact Or.inr ⟨g3, hCt.mc.keep (fun cc hcc => hNN cc (by omega) (by omega) sd)⟩
end PAR15
