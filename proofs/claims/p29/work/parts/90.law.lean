section MG12x0
/-! laws in both parsers -/
section PAR6
variable {b : Nat → Nat} {n m z : Nat}
def Sg (W q c l : Nat) (M N : gM) : Prop := 0 < l ∧ Cs W q c l M N ∧ vdp N c l = some 1 ∧ (∀ k d, k ≤ l → vdp N c k = some d → d ≤ 16)
theorem Sg.keep {W q c l : Nat} {M N M' N' : gM} (h : Sg W q c l M N) (h1 : ∀ j, q ≤ j → j < q + l → M' (W + 1) j = M (W + 1) j) (h2 : ∀ j, c ≤ j → j < c + l → N' 431 j = N 431 j) (h3 : ∀ j, c ≤ j → j < c + l → N' 432 j = N 432 j) : Sg W q c l M' N' := by
  refine ⟨h.1, fun k hk => ?_, ?_, fun k d hk hv => h.2.2.2 k d hk ?_⟩
  · rw [h1 _ (by omega) (by omega), h2 _ (by omega) (by omega), h3 _ (by omega) (by omega)]
    exact h.2.1 k hk
  · rw [vdp_upto l h2]; exact h.2.2.1
  · rw [vdp_upto k (fun j a1 a2 => h2 j a1 (by omega))] at hv; exact hv
def CH (b : Nat → Nat) (n m W t q c : Nat) (M : gM) (L : gL) (N : gM) (K : gL) : Prop := Tk b n m M L N K ∧ Lv m t M N ∧ M W 1 = nI q ∧ N 401 44 = nI c ∧ N 401 12 = 0
theorem Dd.nf {M N : gM} (h : Dd b n m M N) : N 401 13 ≠ 0 ∧ M 3 2 ≠ 0 := by
  obtain ⟨k, ft, u', a1, a2, a3, a4, a5, a6, a7, a8⟩ := h
  exact ⟨by rw [a5]; exact nI_ne0 (by omega) (by omega), by rw [a3]; exact nI_ne0 (by omega) (by omega)⟩
theorem Dd.cl {S : Nat → Nat → Bool} {M M' N : gM} {L L' : gL} (h : Dd b n m M N) (g : Kq S M L M' L') : Dd b n m M' N := by
  have h2 := g.2.2 h.nf.2
  obtain ⟨k, ft, u', a1, a2, a3, a4, a5, a6, a7, a8⟩ := h
  exact ⟨k, ft, u', a1, a2, by rw [h2.1]; exact a3, by rw [h2.2]; exact a4, a5, a6, a7, a8⟩
theorem Dd.mo {M N N' : gM} (h : Dd b n m M N) (f1 : N' 401 13 = N 401 13) (f2 : N' 401 14 = N 401 14) (f3 : N' 401 11 = N 401 11) : Dd b n m M N' := by
  obtain ⟨k, ft, u', a1, a2, a3, a4, a5, a6, a7, a8⟩ := h
  exact ⟨k, ft, u', a1, a2, a3, a4, by rw [f1]; exact a5, by rw [f2]; exact a6, a7, by rw [f3]; exact a8⟩
theorem q_exprD {k : Nat} {N : gM} (hf : N 401 13 = nI k) (hk : k = 1 ∨ k = 2) : F_Mod_expression N = some (uM N 401 48 0) := by
  unfold F_Mod_expression
  rw [nmM_e, nmI_e]
  obtain ⟨g, hg⟩ := FU_k 1 (by decide)
  rw [hg]
  exact m_12D (k := k) (by rw [uM_diff (by omega)]; exact hf) hk g
/-- one sum -/
theorem h_sum (hz : 2 ≤ z) {W B0 t q c : Nat} {M N : gM} {L K : gL} (hW : isLw W) (hB : B0 ≤ 420) (h : (CH b n m W t q c M L N K ∧ q + z ≤ t ∧ c + 2 ≤ t + B0) ∨ Dd b n m M N) :
    ∃ M' N', F_Reader_takeSum W M L = some M' ∧ F_Mod_expression N = some N' ∧ ((∃ t' l, t + 1 ≤ t' ∧ CH b n m W t' (q + l) (c + l) M' L N' K ∧ q + l + z ≤ t' ∧ c + l + 2 ≤ t' + B0 ∧ Sg W q c l M' N' ∧ Eo (cE W q) M M' ∧ CH b n m W t q c M L N K) ∨ Dd b n m M' N') ∧ Eo (mE c (B0 + 420)) N N' := by
  have h12 := Lw_12 hW
  rcases h with ⟨hC, s1, s2⟩ | hd
  · obtain ⟨hT, hl, x1, x2, x3⟩ := id hC
    have hm := hT.m400
    have htm := hl.2.2.2.2
    have hX : XS b n m z W q c B0 t 0 [] 0 (uM (uM M 3 11 0) 3 10 0) L (uM N 401 48 0) K := by
      refine ⟨hT.keep (fun j => by rw [uM_diff (by omega), uM_diff (by omega)]) (fun j => by rw [uM_diff (by omega), uM_diff (by omega)]) (fun _ => rfl) (fun j => uM_diff (by omega)) (fun j => uM_diff (by omega)) (fun j => uM_diff (by omega)) (fun _ => rfl), hl.at (by rw [uM_diff (by omega), uM_diff (by omega)]) (by rw [uM_diff (by omega), uM_diff (by omega)]) (uM_diff (by omega)) (uM_diff (by omega)), ⟨by rw [uM_diff (by omega), uM_diff (by omega)]; exact x1, by rw [uM_diff (by omega)]; exact x2, fun k hk => absurd hk (Nat.not_lt_zero _), rfl, fun k d hk hv => ?_, uM_same, uM_same, trivial, trivial⟩, by rw [uM_diff (by omega), uM_same]; rfl, by rw [uM_diff (by omega), x3]; rfl, Nat.zero_le _, by simp only [List.length_nil]; omega, by simp only [List.length_nil]; omega⟩
      have hk0 : k = 0 := by omega
      subst hk0
      have : some 0 = some d := hv
      have := Option.some.inj this
      omega
    obtain ⟨g, hg⟩ := FU_k 1 (by decide)
    have hS := (p_sumL (b := b) (n := n) (m := m) (z := z) (L := L) (K := K) (c0 := c) (b0 := q) hz hW hB (401 - t) t rfl).1 [] 0 0 FU g FU _ _ hX (by omega) (by unfold FU; omega) (by unfold FU at hg; omega) (by unfold FU; omega)
    have hS2 : SumR b n m z W q c B0 (t + 1) M L N K (F_Reader_takeSum W M L) (F_Mod_expression N) := by
      have e1 : F_Reader_takeSum W M L = H_Reader_takeSum_14 W L FU 1 (nI 0) (uM (uM M 3 11 0) 3 10 0) := by unfold F_Reader_takeSum; rw [nmM_e, nmM_e]; rfl
      have e2 : F_Mod_expression N = H_Mod_expression_23 (H_Mod_expression_12 0 g) 0 FU (uM N 401 48 0) := by
        unfold F_Mod_expression
        rw [nmM_e, nmI_e, uM_diff (by omega), x3, hg]
        show B_Mod_expression_12 0 (H_Mod_expression_12 0 g) 1 (uM N 401 48 0) = _
        unfold B_Mod_expression_12
        rw [if_neg (by decide), uM_diff (by omega), hl.2.2.2.1, if_pos rfl, hg]
      rw [e1, e2]
      exact hS.from (Nat.le_refl _) ((Eo.rf.u (by unfold cE; omega)).u (by unfold cE; omega)) (Eo.rf.u (by unfold mE; omega))
    obtain ⟨M', N', g1, g2, g3, g4⟩ := hS2
    refine ⟨M', N', g1, g2, ?_, g4⟩
    rcases g3 with ⟨t', l, a1, a2, a3⟩ | g3
    · obtain ⟨y1, y2, y3, y4, y5, y6, y7, y8⟩ := a2
      simp only [List.length_nil] at y7 y8
      refine Or.inl ⟨t', l, a1, ⟨y1, y2, y3.hl, y3.hc, y5⟩, by omega, by omega, ⟨?_, y3.cs, y3.vd, y3.dp⟩, a3, hC⟩
      rcases Nat.eq_zero_or_pos l with w | w
      · subst w
        have := y3.vd
        have : some 0 = some 1 := this
        cases this
      · exact w
    · exact Or.inr g3
  · obtain ⟨k2, ft, u, a1, a2, a3, a4, a5, a6, a7, a8⟩ := id hd
    obtain ⟨M', e1, e2⟩ := tq_Reader_takeSum (Wl1 := W) (M := M) (L := L) hW
    exact ⟨M', uM N 401 48 0, e1, q_exprD a5 a1, Or.inr ((hd.cl e2).mo (uM_diff (by omega)) (uM_diff (by omega)) (uM_diff (by omega))), Eo.rf.u (by unfold mE; omega)⟩
/-- one sum, left out by the model behind a fault -/
theorem h_sum2 (hz : 2 ≤ z) {W B0 t q c : Nat} {M N : gM} {L K : gL} (hW : isLw W) (hB : B0 ≤ 420) (h : (CH b n m W t q c M L N K ∧ q + z ≤ t ∧ c + 2 ≤ t + B0) ∨ Dd b n m M N) :
    ∃ M' N', F_Reader_takeSum W M L = some M' ∧ (if N 401 13 = 0 then F_Mod_expression N else some N) = some N' ∧ ((∃ t' l, t + 1 ≤ t' ∧ CH b n m W t' (q + l) (c + l) M' L N' K ∧ q + l + z ≤ t' ∧ c + l + 2 ≤ t' + B0 ∧ Sg W q c l M' N' ∧ Eo (cE W q) M M' ∧ CH b n m W t q c M L N K) ∨ Dd b n m M' N') ∧ Eo (mE c (B0 + 420)) N N' := by
  rcases h with h | hd
  · rw [if_pos h.1.2.1.2.2.2.1]
    exact h_sum hz hW hB (Or.inl h)
  · rw [if_neg hd.nf.1]
    obtain ⟨M', e1, e2⟩ := tq_Reader_takeSum (Wl1 := W) (M := M) (L := L) hW
    exact ⟨M', N, e1, rfl, Or.inr (hd.cl e2), Eo.rf⟩
theorem CH.need {W t t' q c : Nat} {M N M' N' : gM} {L K : gL} (h : CH b n m W t q c M L N K) (hW : 12 ≤ W) (hl : Lv m t' M' N') (h1 : Eo cS M M') (h2 : Eo mS N N') : CH b n m W t' q c M' L N' K :=
  ⟨h.1.eo (h1.mono cS_cI) (h2.mono mS_mI), hl, by rw [h1 W 1 (by unfold cS; omega)]; exact h.2.2.1, by rw [h2 401 44 (by unfold mS; omega)]; exact h.2.2.2.1, by rw [h2 401 12 (by unfold mS; omega)]; exact h.2.2.2.2⟩
/-- need and must, between sums -/
theorem h_need {W t q c k : Nat} {kk kq : Int32} {M N : gM} {L K : gL} (hW : 12 ≤ W) (hkk : kk = nI k) (hkq : kq = nI (phi k)) (hk : kdom k) (h2 : 2 ≤ k) (h : CH b n m W t q c M L N K ∨ Dd b n m M N) :
    ∃ M' N', F_Reader_need kk M = some M' ∧ F_Mod_must kq N = some N' ∧ ((CH b n m W (t + 1) q c M' L N' K ∧ Eo cS M M' ∧ CH b n m W t q c M L N K) ∨ Dd b n m M' N') ∧ Eo mS N N' := by
  obtain ⟨M', N', g1, g2, g3, g4⟩ := p_need (b := b) (n := n) (m := m) (M := M) (N := N) (L := L) (K := K) (t := t) hkk hkq hk h2 (h.imp (fun q => ⟨q.1, q.2.1⟩) id)
  refine ⟨M', N', g1, g2, ?_, g4⟩
  rcases g3 with ⟨a1, a2, a3, a4⟩ | g3
  · rcases h with h | h
    · exact Or.inl ⟨h.need hW a1 a4 g4, a4, h⟩
    · exact absurd h a2.nd
  · exact Or.inr g3
/-- an IF of the class's code and of the model's rows -/
def Br (B0 W i q q' c' : Nat) (M N : gM) : Prop := ∃ c1 l1 l2 l3, N 426 i = 1 ∧ N 427 i = nI c1 ∧ N 428 i = nI (c1 + l1) ∧ N 429 i = nI (c1 + l1 + l2) ∧ N 430 i = nI (c1 + l1 + l2 + l3) ∧ Sg W q c1 l1 M N ∧ Sg W (q + l1) (c1 + l1) l2 M N ∧ M (W + 1) (q + l1 + l2) = nI 20060 ∧ M (W + 1) (q + l1 + l2 + 1) = nI (q + l1 + l2 + l3 + 3) ∧ Sg W (q + l1 + l2 + 2) (c1 + l1 + l2) l3 M N ∧ M (W + 1) (q + l1 + l2 + l3 + 2) = nI 20059 ∧ q' = q + l1 + l2 + l3 + 3 ∧ c1 + l1 + l2 + l3 ≤ c' ∧ B0 ≤ c1
/-- its end -/
def Ls (B0 W i q q' c' : Nat) (M N : gM) : Prop := ∃ c1 l, N 426 i = 0 ∧ N 429 i = nI c1 ∧ N 430 i = nI (c1 + l) ∧ Sg W q c1 l M N ∧ q' = q + l ∧ c1 + l ≤ c' ∧ B0 ≤ c1
theorem Br.keep {B0 W i q q' c' c'' : Nat} {M N M' N' : gM} (h : Br B0 W i q q' c' M N) (hc : c' ≤ c'') (h1 : ∀ j, j < q' → M' (W + 1) j = M (W + 1) j) (h2 : ∀ j, B0 ≤ j → j < c' → N' 431 j = N 431 j ∧ N' 432 j = N 432 j) (h3 : ∀ c, 426 ≤ c → c ≤ 430 → N' c i = N c i) : Br B0 W i q q' c'' M' N' := by
  obtain ⟨c1, l1, l2, l3, a1, a2, a3, a4, a5, a6, a7, a8, a9, a10, a11, rfl, a12, a13⟩ := h
  refine ⟨c1, l1, l2, l3, by rw [h3 426 (by omega) (by omega)]; exact a1, by rw [h3 427 (by omega) (by omega)]; exact a2, by rw [h3 428 (by omega) (by omega)]; exact a3, by rw [h3 429 (by omega) (by omega)]; exact a4, by rw [h3 430 (by omega) (by omega)]; exact a5, a6.keep (fun j _ _ => h1 j (by omega)) (fun j _ _ => (h2 j (by omega) (by omega)).1) (fun j _ _ => (h2 j (by omega) (by omega)).2), a7.keep (fun j _ _ => h1 j (by omega)) (fun j _ _ => (h2 j (by omega) (by omega)).1) (fun j _ _ => (h2 j (by omega) (by omega)).2), by rw [h1 _ (by omega)]; exact a8, by rw [h1 _ (by omega)]; exact a9, a10.keep (fun j _ _ => h1 j (by omega)) (fun j _ _ => (h2 j (by omega) (by omega)).1) (fun j _ _ => (h2 j (by omega) (by omega)).2), by rw [h1 _ (by omega)]; exact a11, rfl, by omega, a13⟩
theorem Ls.keep {B0 W i q q' c' c'' : Nat} {M N M' N' : gM} (h : Ls B0 W i q q' c' M N) (hc : c' ≤ c'') (h1 : ∀ j, j < q' → M' (W + 1) j = M (W + 1) j) (h2 : ∀ j, B0 ≤ j → j < c' → N' 431 j = N 431 j ∧ N' 432 j = N 432 j) (h3 : ∀ c, 426 ≤ c → c ≤ 430 → N' c i = N c i) : Ls B0 W i q q' c'' M' N' := by
  obtain ⟨c1, l, a1, a2, a3, a4, rfl, a5, a6⟩ := h
  exact ⟨c1, l, by rw [h3 426 (by omega) (by omega)]; exact a1, by rw [h3 429 (by omega) (by omega)]; exact a2, by rw [h3 430 (by omega) (by omega)]; exact a3, a4.keep (fun j _ _ => h1 j (by omega)) (fun j _ _ => (h2 j (by omega) (by omega)).1) (fun j _ _ => (h2 j (by omega) (by omega)).2), rfl, by omega, a6⟩
/-- what an IF or an end may change of the model's rows -/
def mF (i c B : Nat) (cc j : Nat) : Prop := mE c B cc j ∨ ((426 ≤ cc ∧ cc ≤ 430) ∧ j = i) ∨ (cc = 401 ∧ j = 38)
theorem mE_mF {i c B : Nat} : ∀ cc j, mE c B cc j → mF i c B cc j := fun _ _ h => Or.inl h
theorem mE_mono {c c' B : Nat} (h : c ≤ c') : ∀ cc j, mE c' B cc j → mE c B cc j := fun cc j q => by unfold mE at q ⊢; omega
theorem cE_mono {W q q' : Nat} (h : q ≤ q') : ∀ cc j, cE W q' cc j → cE W q cc j := fun cc j g => by unfold cE at g ⊢; omega
theorem bI_ite {α β : Type} {p : Prop} [Decidable p] (x y : Option α) (f : α → Option β) : bI (if p then x else y) f = if p then bI x f else bI y f := by split <;> rfl
theorem CH.mo {W t q c : Nat} {M N N' : gM} {L K : gL} (h : CH b n m W t q c M L N K) (f : Eo (fun cc j => (426 ≤ cc ∧ cc ≤ 430) ∨ (cc = 401 ∧ j = 38)) N N') : CH b n m W t q c M L N' K :=
  ⟨h.1.keep (fun _ => rfl) (fun _ => rfl) (fun _ => rfl) (fun j => f 404 j (by omega)) (fun j => f 405 j (by omega)) (fun j => f 406 j (by omega)) (fun _ => rfl), h.2.1.at rfl rfl (f 401 11 (by omega)) (f 401 13 (by omega)), h.2.2.1, by rw [f 401 44 (by omega)]; exact h.2.2.2.1, by rw [f 401 12 (by omega)]; exact h.2.2.2.2⟩
theorem Dd.mo2 {M N N' : gM} (h : Dd b n m M N) (f : Eo (fun cc j => (426 ≤ cc ∧ cc ≤ 430) ∨ (cc = 401 ∧ j = 38)) N N') : Dd b n m M N' := h.mo (f 401 13 (by omega)) (f 401 14 (by omega)) (f 401 11 (by omega))
theorem c_openIf {W q : Nat} {M : gM} (h : M W 1 = nI q) (hq : q + 1 < 400) : F_Law_openIf W M = some (nI (q + 1), uM (uM (uM (uM M (W + 1) q (nI 20060)) W 1 (nI (q + 1))) (W + 1) (q + 1) (nI 0)) W 1 (nI (q + 2))) := by
  unfold F_Law_openIf
  rw [show (20060 : Int32) = nI 20060 from rfl, c_add h (by omega), bI_s, c_add (q := q + 1) uM_same hq, bI_s, uM_same, show (1 : Int32) = nI 1 from rfl, nI_sub (by omega)]
  rfl
theorem c_closeIf {W q g : Nat} {M : gM} (h : M W 1 = nI q) (hq : q < 400) (hg : g < 400) : F_Law_closeIf W (nI g) M = some (uM (uM (uM M (W + 1) q (nI 20059)) W 1 (nI (q + 1))) (W + 1) g (nI (q + 1))) := by
  unfold F_Law_closeIf
  rw [show (20059 : Int32) = nI 20059 from rfl, c_add h hq, bI_s, uM_same, s_put hg (by decide), bI_s]
theorem bI_ite2 {α β : Type} {p : Prop} [Decidable p] (x : Option α) (a : α) (f : α → Option β) : (if p then bI x f else f a) = bI (if p then x else some a) f := by split <;> rfl
/-- one IF -/
theorem h_if {W B0 t q c i : Nat} {M N : gM} {L K : gL} (hW : isLw W) (hB : B0 ≤ 420) (hC : CH b n m W t q c M L N K) (s1 : q + 2 ≤ t) (s2 : c + 2 ≤ t + B0) (s3 : B0 ≤ c) (h38 : N 401 38 = nI i) (hi : i < 260) (hk : tkK b n t = 137) (v1 v2 v3 : Int32) (K12 : Int32 → gM → Option gM) (K16 : gM → Option gM) :
    ∃ M' N', bI (F_Reader_take M) (fun M18 => bI (F_Reader_takeSum W M18 L) (fun M20 => bI (F_Reader_need 60 M20) (fun M22 => bI (F_Reader_takeSum W M22 L) (fun M24 => bI (F_Reader_need 138 M24) (fun M26 => bI2 (F_Law_openIf W M26) (fun r28 M29 => bI (F_Reader_takeSum W M29 L) (fun M31 => bI (F_Reader_need 139 M31) (fun M33 => bI (F_Law_closeIf W r28 M33) (fun M35 => K16 M35))))))))) = K16 M' ∧ J_Mod_tellLaw_38 K12 v1 v2 v3 N = K12 (v3 + 1) N' ∧
    ((∃ t' q' c', t + 4 ≤ t' ∧ CH b n m W t' q' c' M' L N' K ∧ q' + 2 ≤ t' ∧ c ≤ c' ∧ q ≤ q' ∧ c' + 2 ≤ t' + B0 ∧ Br B0 W i q q' c' M' N' ∧ Eo (cE W q) M M') ∨ Dd b n m M' N') ∧ N' 401 38 = nI (i + 1) ∧ Eo (mF i c (B0 + 420)) N N' := by
  have h12 := Lw_12 hW
  obtain ⟨hT, hl, x1, x2, x3⟩ := id hC
  have hm := hT.m400
  have htm := hl.2.2.2.2
  unfold J_Mod_tellLaw_38
  rw [hl.2.2.2.1, if_pos (by decide), nmI_e]
  -- IF
  obtain ⟨M1, N1, g1, g2, g3, g4⟩ := p_take hT hl (by omega) (by omega)
  have n38 : N1 401 38 = nI i := by rw [g4 401 38 (by unfold mS; omega)]; exact h38
  have hgi : ¬ (nI i < 0 ∨ 260 ≤ i) := nI_inc hi (by omega)
  have hvp : vp_nar .boolean 1 = 1 := by decide
  rw [g1, bI_s, g2, bI_s, n38, nI_clamp (by omega), if_neg hgi, nmM_e, uM_diff (by omega), n38, nI_clamp (by omega), if_neg hgi, nmM_e, uM_diff (by omega), hvp]
  generalize hN1' : uM (uM N1 426 i 1) 427 i (N1 401 44) = N1'
  have f1 : Eo (fun cc j => (cc = 426 ∨ cc = 427) ∧ j = i) N1 N1' := by
    rw [← hN1']; exact (Eo.rf.u ⟨Or.inl rfl, rfl⟩).u ⟨Or.inr rfl, rfl⟩
  have f1' := f1.mono (S' := fun cc j => (426 ≤ cc ∧ cc ≤ 430) ∨ (cc = 401 ∧ j = 38)) (fun cc j q => by omega)
  have O1 : (CH b n m W (t + 1) q c M1 L N1' K ∧ q + 3 ≤ t + 1 ∧ c + 2 ≤ t + 1 + B0) ∨ Dd b n m M1 N1' := by
    rcases g3 with ⟨a1, a2⟩ | g3
    · exact Or.inl ⟨(hC.need h12 a1 a2 g4).mo f1', by omega, by omega⟩
    · exact Or.inr (g3.mo2 f1')
  have z1 : CH b n m W (t + 1) q c M1 L N1' K → N1' 427 i = nI c ∧ N1' 426 i = 1 ∧ Eo cS M M1 := by
    intro hc1
    rcases g3 with ⟨a1, a2⟩ | g3
    · refine ⟨?_, ?_, a2⟩
      · rw [← hN1', uM_same, g4 401 44 (by unfold mS; omega)]; exact x2
      · rw [← hN1', uM_diff (by omega), uM_same]
    · exact absurd (g3.mo2 f1') hc1.2.1.nd
  -- the first sum
  obtain ⟨M2, N2, g5, g6, g7, g8⟩ := h_sum (z := 3) (by decide) hW hB O1
  rw [g5, bI_s, g6, bI_s]
  have hO2 : ∃ t' q2 c2, (CH b n m W t' q2 c2 M2 L N2 K ∨ Dd b n m M2 N2) ∧ ((∃ l, t + 2 ≤ t' ∧ q2 = q + l ∧ c2 = c + l ∧ q2 + 3 ≤ t' ∧ c2 + 2 ≤ t' + B0 ∧ Sg W q c l M2 N2 ∧ Eo (cE W q) M M2 ∧ N2 427 i = nI c ∧ N2 426 i = 1) ∨ (c2 = c ∧ Dd b n m M2 N2)) := by
    rcases g7 with ⟨t', l, a1, a2, a3, a4, a5, a6, a7⟩ | g7
    · obtain ⟨z2, z3, z4⟩ := z1 a7
      exact ⟨t', q + l, c + l, Or.inl a2, Or.inl ⟨l, by omega, rfl, rfl, a3, a4, a5, (z4.mono cS_cE).tr a6, by rw [g8 427 i (by unfold mE; omega)]; exact z2, by rw [g8 426 i (by unfold mE; omega)]; exact z3⟩⟩
    · exact ⟨t, q, c, Or.inr g7, Or.inr ⟨rfl, g7⟩⟩
  obtain ⟨t2, q2, c2, P2, Q2⟩ := hO2
  have hcc2 : c ≤ c2 := by rcases Q2 with ⟨l, _, _, e, _⟩ | ⟨e, _⟩ <;> omega
  -- <
  obtain ⟨M3, N3, g9, g10, g11, g12⟩ := h_need (k := 60) (kk := 60) (kq := 13) h12 rfl rfl (Or.inr (Or.inl rfl)) (by decide) P2
  rw [g9, bI_s, g10, bI_s]
  have n38c : N3 401 38 = nI i := by rw [g12 401 38 (by unfold mS; omega), g8 401 38 (by unfold mE; omega), f1 401 38 (by omega)]; exact n38
  rw [n38c, nI_clamp (by omega), if_neg hgi, nmM_e]
  generalize hN3' : uM N3 428 i (N3 401 44) = N3'
  have f3 : Eo (fun cc j => cc = 428 ∧ j = i) N3 N3' := by rw [← hN3']; exact Eo.rf.u ⟨rfl, rfl⟩
  have f3' := f3.mono (S' := fun cc j => (426 ≤ cc ∧ cc ≤ 430) ∨ (cc = 401 ∧ j = 38)) (fun cc j q => by omega)
  have O3 : (CH b n m W (t2 + 1) q2 c2 M3 L N3' K ∧ q2 + 4 ≤ t2 + 1 ∧ c2 + 2 ≤ t2 + 1 + B0) ∨ Dd b n m M3 N3' := by
    rcases g11 with ⟨a1, a2, a3⟩ | g11
    · rcases Q2 with ⟨l, b1, b2, b3, b4, b5, b6⟩ | ⟨_, Q2⟩
      · exact Or.inl ⟨a1.mo f3', by omega, by omega⟩
      · exact absurd Q2 a3.2.1.nd
    · exact Or.inr (g11.mo2 f3')
  have z3 : CH b n m W (t2 + 1) q2 c2 M3 L N3' K → ∃ l1, t + 2 ≤ t2 ∧ q2 = q + l1 ∧ c2 = c + l1 ∧ Sg W q c l1 M3 N3' ∧ Eo (cE W q) M M3 ∧ N3' 427 i = nI c ∧ N3' 426 i = 1 ∧ N3' 428 i = nI c2 := by
    intro hc
    rcases g11 with ⟨a1, a2, a3⟩ | g11
    · rcases Q2 with ⟨l, b1, b2, b3, b4, b5, b6, b7, b8, b9⟩ | ⟨_, Q2⟩
      · refine ⟨l, b1, b2, b3, b6.keep (fun j _ _ => a2 (W + 1) j (by unfold cS; omega)) (fun j _ _ => by rw [f3 431 j (by omega), g12 431 j (by unfold mS; omega)]) (fun j _ _ => by rw [f3 432 j (by omega), g12 432 j (by unfold mS; omega)]), b7.tr (a2.mono cS_cE), by rw [f3 427 i (by omega), g12 427 i (by unfold mS; omega)]; exact b8, by rw [f3 426 i (by omega), g12 426 i (by unfold mS; omega)]; exact b9, ?_⟩
        rw [← hN3', uM_same]; exact a1.2.2.2.1
      · exact absurd Q2 a3.2.1.nd
    · exact absurd (g11.mo2 f3') hc.2.1.nd
  -- the second sum
  obtain ⟨M4, N4, g13, g14, g15, g16⟩ := h_sum2 (z := 4) (by decide) hW hB O3
  rw [g13, bI_s, bI_ite2, g14, bI_s]
  unfold J_Mod_tellLaw_110 F_Mod_term J_Mod_term_24
  have hO4 : ∃ t' q4 c4, (CH b n m W t' q4 c4 M4 L N4 K ∨ Dd b n m M4 N4) ∧ ((∃ l1 l2, t + 4 ≤ t' ∧ q4 = q + l1 + l2 ∧ c4 = c + l1 + l2 ∧ q4 + 4 ≤ t' ∧ c4 + 2 ≤ t' + B0 ∧ Sg W q c l1 M4 N4 ∧ Sg W (q + l1) (c + l1) l2 M4 N4 ∧ Eo (cE W q) M M4 ∧ N4 427 i = nI c ∧ N4 426 i = 1 ∧ N4 428 i = nI (c + l1)) ∨ (c4 = c ∧ Dd b n m M4 N4)) := by
    rcases g15 with ⟨t', l, a1, a2, a3, a4, a5, a6, a7⟩ | g7
    · obtain ⟨l1, y1, y2, y3, y4, y5, y6, y7, y8⟩ := z3 a7
      subst y2 y3
      exact ⟨t', q + l1 + l, c + l1 + l, Or.inl a2, Or.inl ⟨l1, l, by omega, rfl, rfl, a3, a4, y4.keep (fun j _ _ => a6 (W + 1) j (by unfold cE; omega)) (fun j _ _ => g16 431 j (by unfold mE; omega)) (fun j _ _ => g16 432 j (by unfold mE; omega)), a5, y5.tr (a6.mono (cE_mono (by omega))), by rw [g16 427 i (by unfold mE; omega)]; exact y6, by rw [g16 426 i (by unfold mE; omega)]; exact y7, by rw [g16 428 i (by unfold mE; omega)]; exact y8⟩⟩
    · exact ⟨t, q, c, Or.inr g7, Or.inr ⟨rfl, g7⟩⟩
  obtain ⟨t4, q4, c4, P4, Q4⟩ := hO4
  have hcc4 : c ≤ c4 := by rcases Q4 with ⟨l, l2, _, _, e, _⟩ | ⟨e, _⟩ <;> omega
  -- THEN
  obtain ⟨M5, N5, g17, g18, g19, g20⟩ := h_need (k := 138) (kk := 138) (kq := 30) h12 rfl rfl (Or.inr (Or.inr ⟨by decide, by decide⟩)) (by decide) P4
  rw [g17, bI_s, g18, bI_s]
  have n38d : N5 401 38 = nI i := by rw [g20 401 38 (by unfold mS; omega), g16 401 38 (by unfold mE; omega), f3 401 38 (by omega)]; exact n38c
  rw [n38d, nI_clamp (by omega), if_neg hgi, nmM_e]
  generalize hN5' : uM N5 429 i (N5 401 44) = N5'
  have f5 : Eo (fun cc j => cc = 429 ∧ j = i) N5 N5' := by rw [← hN5']; exact Eo.rf.u ⟨rfl, rfl⟩
  have f5' := f5.mono (S' := fun cc j => (426 ≤ cc ∧ cc ≤ 430) ∨ (cc = 401 ∧ j = 38)) (fun cc j q => by omega)
  obtain ⟨r28, M5', hop, hopL⟩ : ∃ r28 M5', F_Law_openIf W M5 = some (r28, M5') ∧ ((∃ l1 l2, t + 4 ≤ t4 ∧ q4 = q + l1 + l2 ∧ c4 = c + l1 + l2 ∧ q4 + 4 ≤ t4 ∧ c4 + 2 ≤ t4 + B0 ∧ r28 = nI (q4 + 1) ∧ CH b n m W (t4 + 1) (q4 + 2) c4 M5' L N5' K ∧ Sg W q c l1 M5' N5' ∧ Sg W (q + l1) (c + l1) l2 M5' N5' ∧ M5' (W + 1) q4 = nI 20060 ∧ Eo (cE W q) M M5' ∧ N5' 427 i = nI c ∧ N5' 426 i = 1 ∧ N5' 428 i = nI (c + l1) ∧ N5' 429 i = nI c4) ∨ Dd b n m M5' N5') := by
    rcases g19 with ⟨a1, a2, a3⟩ | g19
    · rcases Q4 with ⟨l1, l2, b1, b2, b3, b4, b5, b6, b7, b8, b9, b10, b11⟩ | ⟨_, Q4⟩
      · have hd := a1.2.1.2.2.2.2
        refine ⟨_, _, c_openIf a1.2.2.1 (by omega), Or.inl ⟨l1, l2, b1, b2, b3, b4, b5, rfl, ?_, ?_, ?_, ?_, ?_, ?_, ?_, ?_, ?_⟩⟩
        · have a1' := a1.mo f5'
          refine ⟨a1'.1.keep (fun j => ?_) (fun j => ?_) (fun _ => rfl) (fun _ => rfl) (fun _ => rfl) (fun _ => rfl) (fun _ => rfl), a1'.2.1.at ?_ ?_ rfl rfl, uM_same, a1'.2.2.2.1, a1'.2.2.2.2⟩ <;> rw [uM_diff (by omega), uM_diff (by omega), uM_diff (by omega), uM_diff (by omega)]
        · exact b6.keep (fun j _ _ => by rw [uM_diff (by omega), uM_diff (by omega), uM_diff (by omega), uM_diff (by omega)]; exact a2 (W + 1) j (by unfold cS; omega)) (fun j _ _ => by rw [f5 431 j (by omega), g20 431 j (by unfold mS; omega)]) (fun j _ _ => by rw [f5 432 j (by omega), g20 432 j (by unfold mS; omega)])
        · exact b7.keep (fun j _ _ => by rw [uM_diff (by omega), uM_diff (by omega), uM_diff (by omega), uM_diff (by omega)]; exact a2 (W + 1) j (by unfold cS; omega)) (fun j _ _ => by rw [f5 431 j (by omega), g20 431 j (by unfold mS; omega)]) (fun j _ _ => by rw [f5 432 j (by omega), g20 432 j (by unfold mS; omega)])
        · rw [uM_diff (by omega), uM_diff (by omega), uM_diff (by omega), uM_same]
        · refine (b8.tr (a2.mono cS_cE)).tr ?_
          refine (((Eo.rf.u ?_).u ?_).u ?_).u ?_ <;> unfold cE <;> omega
        · rw [f5 427 i (by omega), g20 427 i (by unfold mS; omega)]; exact b9
        · rw [f5 426 i (by omega), g20 426 i (by unfold mS; omega)]; exact b10
        · rw [f5 428 i (by omega), g20 428 i (by unfold mS; omega)]; exact b11
        · rw [← hN5', uM_same]; exact a1.2.2.2.1
      · exact absurd Q4 a3.2.1.nd
    · obtain ⟨r, M', e1, -, e2⟩ := tq_Law_openIf (Wl0 := W) (M := M5) (L := L) hW
      exact ⟨r, M', e1, Or.inr ((g19.cl e2).mo2 f5')⟩
  rw [hop, bI2_s]
  have O5 : (CH b n m W (t4 + 1) (q4 + 2) c4 M5' L N5' K ∧ q4 + 2 + 3 ≤ t4 + 1 ∧ c4 + 2 ≤ t4 + 1 + B0) ∨ Dd b n m M5' N5' := by
    rcases hopL with ⟨l1, l2, b1, b2, b3, b4, b5, b6, b7, _⟩ | h
    · exact Or.inl ⟨b7, by omega, by omega⟩
    · exact Or.inr h
  -- the third sum
  obtain ⟨M6, N6, g21, g22, g23, g24⟩ := h_sum2 (z := 3) (by decide) hW hB O5
  have n38e : N6 401 38 = nI i := by rw [g24 401 38 (by unfold mE; omega), f5 401 38 (by omega)]; exact n38d
  rw [g21, bI_s, bI_ite2, g22, bI_s, n38e, nI_clamp (by omega), if_neg hgi, nmM_e, nmM_e, uM_diff (by omega), n38e, nI_1, bI_s]
  generalize hN6' : uM (uM N6 430 i (N6 401 44)) 401 38 (nI (i + 1)) = N6'
  have f6 : Eo (fun cc j => (cc = 430 ∧ j = i) ∨ (cc = 401 ∧ j = 38)) N6 N6' := by rw [← hN6']; exact (Eo.rf.u (Or.inl ⟨rfl, rfl⟩)).u (Or.inr ⟨rfl, rfl⟩)
  have f6' := f6.mono (S' := fun cc j => (426 ≤ cc ∧ cc ≤ 430) ∨ (cc = 401 ∧ j = 38)) (fun cc j q => by omega)
  have hO6 : ∃ t' q6 c6, (CH b n m W t' q6 c6 M6 L N6' K ∨ Dd b n m M6 N6') ∧ ((∃ l1 l2 l3, t + 4 ≤ t' ∧ q6 = q + l1 + l2 + 2 + l3 ∧ c6 = c + l1 + l2 + l3 ∧ q6 + 3 ≤ t' ∧ c6 + 2 ≤ t' + B0 ∧ r28 = nI (q + l1 + l2 + 1) ∧ Sg W q c l1 M6 N6' ∧ Sg W (q + l1) (c + l1) l2 M6 N6' ∧ M6 (W + 1) (q + l1 + l2) = nI 20060 ∧ Sg W (q + l1 + l2 + 2) (c + l1 + l2) l3 M6 N6' ∧ Eo (cE W q) M M6 ∧ N6' 427 i = nI c ∧ N6' 426 i = 1 ∧ N6' 428 i = nI (c + l1) ∧ N6' 429 i = nI (c + l1 + l2) ∧ N6' 430 i = nI (c + l1 + l2 + l3)) ∨ (c6 = c ∧ Dd b n m M6 N6')) := by
    rcases g23 with ⟨t', l3, a1, a2, a3, a4, a5, a6, a7⟩ | g7
    · rcases hopL with ⟨l1, l2, b1, b2, b3, b4, b5, b6, b7, b8, b9, b10, b11, b12, b13, b14, b15⟩ | h
      · subst b2 b3
        have k1 : ∀ j, N6' 431 j = N6 431 j := fun j => f6 431 j (by omega)
        have k2 : ∀ j, N6' 432 j = N6 432 j := fun j => f6 432 j (by omega)
        refine ⟨t', q + l1 + l2 + 2 + l3, c + l1 + l2 + l3, Or.inl (a2.mo f6'), Or.inl ⟨l1, l2, l3, by omega, rfl, rfl, a3, a4, b6, ?_, ?_, ?_, ?_, b11.tr (a6.mono (cE_mono (by omega))), ?_, ?_, ?_, ?_, ?_⟩⟩
        · exact b8.keep (fun j _ _ => a6 (W + 1) j (by unfold cE; omega)) (fun j _ _ => by rw [k1]; exact g24 431 j (by unfold mE; omega)) (fun j _ _ => by rw [k2]; exact g24 432 j (by unfold mE; omega))
        · exact b9.keep (fun j _ _ => a6 (W + 1) j (by unfold cE; omega)) (fun j _ _ => by rw [k1]; exact g24 431 j (by unfold mE; omega)) (fun j _ _ => by rw [k2]; exact g24 432 j (by unfold mE; omega))
        · rw [a6 (W + 1) _ (by unfold cE; omega)]; exact b10
        · exact a5.keep (fun _ _ _ => rfl) (fun j _ _ => k1 j) (fun j _ _ => k2 j)
        · rw [f6 427 i (by omega), g24 427 i (by unfold mE; omega)]; exact b12
        · rw [f6 426 i (by omega), g24 426 i (by unfold mE; omega)]; exact b13
        · rw [f6 428 i (by omega), g24 428 i (by unfold mE; omega)]; exact b14
        · rw [f6 429 i (by omega), g24 429 i (by unfold mE; omega)]; exact b15
        · rw [← hN6', uM_diff (by omega), uM_same]; exact a2.2.2.2.1
      · exact absurd h a7.2.1.nd
    · exact ⟨t, q, c, Or.inr (g7.mo2 f6'), Or.inr ⟨rfl, g7.mo2 f6'⟩⟩
  obtain ⟨t6, q6, c6, P6, Q6⟩ := hO6
  -- ELSE
  obtain ⟨M7, N7, g25, g26, g27, g28⟩ := h_need (k := 139) (kk := 139) (kq := 31) h12 rfl rfl (Or.inr (Or.inr ⟨by decide, by decide⟩)) (by decide) P6
  rw [g25, bI_s, g26, bI_s]
  have hN38 : N7 401 38 = nI (i + 1) := by rw [g28 401 38 (by unfold mS; omega), ← hN6', uM_same]
  have hmF : Eo (mF i c (B0 + 420)) N N7 := by
    have e1 : Eo (mF i c (B0 + 420)) N N1 := g4.mono (fun cc j q => mE_mF _ _ (mS_mE _ _ q))
    have e2 : Eo (mF i c (B0 + 420)) N1 N1' := f1.mono (fun cc j q => Or.inr (Or.inl (by omega)))
    have e3 : Eo (mF i c (B0 + 420)) N1' N2 := g8.mono mE_mF
    have e4 : Eo (mF i c (B0 + 420)) N2 N3 := g12.mono (fun cc j q => mE_mF _ _ (mS_mE _ _ q))
    have e5 : Eo (mF i c (B0 + 420)) N3 N3' := f3.mono (fun cc j q => Or.inr (Or.inl (by omega)))
    have e6 : Eo (mF i c (B0 + 420)) N3' N4 := g16.mono (fun cc j q => mE_mF _ _ (mE_mono hcc2 _ _ q))
    have e7 : Eo (mF i c (B0 + 420)) N4 N5 := g20.mono (fun cc j q => mE_mF _ _ (mS_mE _ _ q))
    have e8 : Eo (mF i c (B0 + 420)) N5 N5' := f5.mono (fun cc j q => Or.inr (Or.inl (by omega)))
    have e9 : Eo (mF i c (B0 + 420)) N5' N6 := g24.mono (fun cc j q => mE_mF _ _ (mE_mono hcc4 _ _ q))
    have e10 : Eo (mF i c (B0 + 420)) N6 N6' := f6.mono (fun cc j q => by rcases q with q | q; exact Or.inr (Or.inl (by omega)); exact Or.inr (Or.inr q))
    have e11 : Eo (mF i c (B0 + 420)) N6' N7 := g28.mono (fun cc j q => mE_mF _ _ (mS_mE _ _ q))
    exact (((((((((e1.tr e2).tr e3).tr e4).tr e5).tr e6).tr e7).tr e8).tr e9).tr e10).tr e11
  rcases g27 with ⟨a1, a2, a3⟩ | g27
  · rcases Q6 with ⟨l1, l2, l3, b1, b2, b3, b4, b5, b6, b7, b8, b9, b10, b11, b12, b13, b14, b15, b16⟩ | ⟨_, Q6⟩
    · have hd := a1.2.1.2.2.2.2
      subst b2 b3 b6
      rw [c_closeIf a1.2.2.1 (by omega) (by omega), bI_s]
      refine ⟨_, N7, rfl, rfl, Or.inl ⟨t6 + 1, q + l1 + l2 + l3 + 3, c + l1 + l2 + l3, by omega, ?_, by omega, by omega, by omega, by omega, ⟨c, l1, l2, l3, ?_, ?_, ?_, ?_, ?_, ?_, ?_, ?_, ?_, ?_, ?_, rfl, Nat.le_refl _, s3⟩, ?_⟩, hN38, hmF⟩
      · refine ⟨a1.1.keep (fun j => ?_) (fun j => ?_) (fun _ => rfl) (fun _ => rfl) (fun _ => rfl) (fun _ => rfl) (fun _ => rfl), a1.2.1.at ?_ ?_ rfl rfl, ?_, a1.2.2.2.1, a1.2.2.2.2⟩
        · rw [uM_diff (by omega), uM_diff (by omega), uM_diff (by omega)]
        · rw [uM_diff (by omega), uM_diff (by omega), uM_diff (by omega)]
        · rw [uM_diff (by omega), uM_diff (by omega), uM_diff (by omega)]
        · rw [uM_diff (by omega), uM_diff (by omega), uM_diff (by omega)]
        · rw [uM_diff (by omega), uM_same, show q + l1 + l2 + 2 + l3 + 1 = q + l1 + l2 + l3 + 3 by omega]
      · rw [g28 426 i (by unfold mS; omega)]; exact b13
      · rw [g28 427 i (by unfold mS; omega)]; exact b12
      · rw [g28 428 i (by unfold mS; omega)]; exact b14
      · rw [g28 429 i (by unfold mS; omega)]; exact b15
      · rw [g28 430 i (by unfold mS; omega)]; exact b16
      · exact b7.keep (fun j _ _ => by rw [uM_diff (by omega), uM_diff (by omega), uM_diff (by omega)]; exact a2 (W + 1) j (by unfold cS; omega)) (fun j _ _ => g28 431 j (by unfold mS; omega)) (fun j _ _ => g28 432 j (by unfold mS; omega))
      · exact b8.keep (fun j _ _ => by rw [uM_diff (by omega), uM_diff (by omega), uM_diff (by omega)]; exact a2 (W + 1) j (by unfold cS; omega)) (fun j _ _ => g28 431 j (by unfold mS; omega)) (fun j _ _ => g28 432 j (by unfold mS; omega))
      · rw [uM_diff (by omega), uM_diff (by omega), uM_diff (by omega), a2 (W + 1) _ (by unfold cS; omega)]; exact b9
      · rw [uM_same, show q + l1 + l2 + 2 + l3 + 1 = q + l1 + l2 + l3 + 3 by omega]
      · exact b10.keep (fun j _ _ => by rw [uM_diff (by omega), uM_diff (by omega), uM_diff (by omega)]; exact a2 (W + 1) j (by unfold cS; omega)) (fun j _ _ => g28 431 j (by unfold mS; omega)) (fun j _ _ => g28 432 j (by unfold mS; omega))
      · rw [uM_diff (by omega), uM_diff (by omega), show q + l1 + l2 + l3 + 2 = q + l1 + l2 + 2 + l3 by omega, uM_same]
      · refine (b11.tr (a2.mono cS_cE)).tr ?_
        refine ((Eo.rf.u ?_).u ?_).u ?_ <;> unfold cE <;> omega
    · exact absurd Q6 a3.2.1.nd
  · obtain ⟨M', e1, e2⟩ := tq_Law_closeIf (Wl0 := W) (p1 := r28) (M := M7) (L := L) hW
    rw [e1, bI_s]
    exact ⟨M', N7, rfl, rfl, Or.inr (g27.cl e2), hN38, hmF⟩
end PAR6
end MG12x0
section MG12x1
/-! a whole law in both parsers -/
section PAR7
variable {b : Nat → Nat} {n m : Nat}
def LawR (W sd w c' i' : Nat) (M N : gM) : Prop := ∃ fi k len, ∃ Q : Nat → Nat, N 424 (4 * sd + w) = nI fi ∧ N 425 (4 * sd + w) = nI (fi + k + 1) ∧ k ≤ 4 ∧ fi + k + 1 ≤ i' ∧ 130 * sd ≤ fi ∧ Q 0 = 0 ∧ (∀ j, j < k → Br (420 * sd) W (fi + j) (Q j) (Q (j + 1)) c' M N ∧ Q (j + 1) ≤ len) ∧ Ls (420 * sd) W (fi + k) (Q k) len c' M N ∧ M W 1 = nI len ∧ len ≤ 400
theorem LawR.keep {W sd w c' c'' i' i'' : Nat} {M N M' N' : gM} (h : LawR W sd w c' i' M N) (hc : c' ≤ c'') (hi : i' ≤ i'') (e1 : M' W 1 = M W 1) (h1 : ∀ j, M' (W + 1) j = M (W + 1) j) (h2 : ∀ j, 420 * sd ≤ j → j < c' → N' 431 j = N 431 j ∧ N' 432 j = N 432 j) (h3 : ∀ c j, 426 ≤ c → c ≤ 430 → 130 * sd ≤ j → j < i' → N' c j = N c j) (h4 : N' 424 (4 * sd + w) = N 424 (4 * sd + w)) (h5 : N' 425 (4 * sd + w) = N 425 (4 * sd + w)) : LawR W sd w c'' i'' M' N' := by
  obtain ⟨fi, k, len, Q, a1, a2, a3, a4, b4, a5, a6, a7, a8, a9⟩ := h
  exact ⟨fi, k, len, Q, by rw [h4]; exact a1, by rw [h5]; exact a2, a3, by omega, b4, a5, fun j hj => ⟨(a6 j hj).1.keep hc (fun j _ => h1 j) h2 (fun c x y => h3 c _ x y (by omega) (by omega)), (a6 j hj).2⟩, a7.keep hc (fun j _ => h1 j) h2 (fun c x y => h3 c _ x y (by omega) (by omega)), by rw [e1]; exact a8, a9⟩
/-- what a law may change of the model -/
def mW2 (sd w i c : Nat) (cc j : Nat) : Prop := mE c (420 * sd + 420) cc j ∨ ((426 ≤ cc ∧ cc ≤ 430) ∧ i ≤ j ∧ j < 130 * sd + 130) ∨ (cc = 401 ∧ j = 38) ∨ ((cc = 424 ∨ cc = 425) ∧ j = 4 * sd + w)
theorem mF_mW2 {sd w i i2 c c2 : Nat} (h1 : i ≤ i2) (h2 : c ≤ c2) (h3 : i2 < 130 * sd + 130) : ∀ cc j, mF i2 c2 (420 * sd + 420) cc j → mW2 sd w i c cc j := fun cc j q => by
  rcases q with q | q | q
  · exact Or.inl (mE_mono h2 cc j q)
  · exact Or.inr (Or.inl (by omega))
  · exact Or.inr (Or.inr (Or.inl q))
theorem mW2_mono {sd w i i2 c c2 : Nat} (h1 : i ≤ i2) (h2 : c ≤ c2) : ∀ cc j, mW2 sd w i2 c2 cc j → mW2 sd w i c cc j := fun cc j q => by
  rcases q with q | q | q | q
  · exact Or.inl (mE_mono h2 cc j q)
  · exact Or.inr (Or.inl (by omega))
  · exact Or.inr (Or.inr (Or.inl q))
  · exact Or.inr (Or.inr (Or.inr q))
theorem c_106D {W : Nat} {M N : gM} {L : gL} (hW : isLw W) (hd : Dd b n m M N) : ∃ M', J_Reader_takeLaw_106 W M L = some M' ∧ Dd b n m M' N := by
  unfold J_Reader_takeLaw_106
  obtain ⟨M1, e1, h1⟩ := tq_Reader_takeSum (Wl1 := W) (M := M) (L := L) hW
  obtain ⟨M2, e2, h2⟩ := tq_Reader_need (p1 := 59) (M := M1) (L := L)
  rw [e1, bI_s, e2, bI_s]
  exact ⟨M2, rfl, (hd.cl h1).cl h2⟩
theorem c_lawD {W : Nat} {M N : gM} {L : gL} (hW : isLw W) (hd : Dd b n m M N) (f : Nat) (v2 : Int32) : ∃ M', H_Reader_takeLaw_16 W L (f + 1) v2 M = some M' ∧ Dd b n m M' N := by
  obtain ⟨M', e1, e2⟩ := c_106D (L := L) hW hd
  refine ⟨M', ?_, e2⟩
  show B_Reader_takeLaw_16 W L (H_Reader_takeLaw_16 W L f) v2 M = _
  unfold B_Reader_takeLaw_16
  by_cases h : 4 < v2
  · rw [if_pos h, e1]
  · rw [if_neg h, if_neg hd.nf.2, e1]
theorem m_129D {sd w i c : Nat} {M N : gM} {v1 v2 : Int32} (hd : Dd b n m M N) (h38 : N 401 38 = nI i) (hi : i < 130 * sd + 130) (hsd : sd ≤ 1) : ∃ N', J_Mod_tellLaw_129 v1 v2 N = some N' ∧ Dd b n m M N' ∧ Eo (mW2 sd w i c) N N' := by
  have hgi : ¬ (nI i < 0 ∨ 260 ≤ i) := nI_inc (by omega) (by omega)
  unfold J_Mod_tellLaw_129 F_Mod_term J_Mod_term_24
  rw [h38, nI_clamp (by omega), if_neg hgi, nmM_e, uM_diff (by omega), h38, nI_clamp (by omega), if_neg hgi, nmM_e, if_neg (by rw [uM_diff (by omega), uM_diff (by omega)]; exact hd.nf.1), uM_diff (by omega), uM_diff (by omega), h38, nI_clamp (by omega), if_neg hgi, nmM_e, nmM_e, bI_s]
  have fin : ∀ N1, Eo (fun cc j => ((426 ≤ cc ∧ cc ≤ 430) ∧ j = i) ∨ (cc = 401 ∧ j = 38)) N N1 → ∀ F : gM → Option gM, ∃ N', bI (F_Mod_must 4 N1) (fun M10 => if M10 401 13 ≤ 0 then F M10 else some M10) = some N' ∧ Dd b n m M N' ∧ Eo (mW2 sd w i c) N N' := by
    intro N1 f1 F
    have hd1 : Dd b n m M N1 := hd.mo2 (f1.mono (fun cc j q => by omega))
    obtain ⟨k2, ft, u, a1, a2, a3, a4, a5, a6, a7, a8⟩ := id hd1
    rw [q_mustD a5 a1, bI_s, if_neg (by rw [a5]; exact nI_nle (by omega) (by omega))]
    exact ⟨N1, rfl, hd1, f1.mono (fun cc j q => by rcases q with q | q; exact Or.inr (Or.inl (by omega)); exact Or.inr (Or.inr (Or.inl q)))⟩
  refine fin _ ?_ _
  refine (((Eo.rf.u ?_).u ?_).u ?_).u ?_ <;> omega
theorem m_lawD {sd w i c : Nat} {M N : gM} {v1 v2 v3 : Int32} (hd : Dd b n m M N) (h38 : N 401 38 = nI i) (hi : i < 130 * sd + 130) (hsd : sd ≤ 1) (g : Nat) : ∃ N', H_Mod_tellLaw_12 v1 v2 (g + 1) v3 N = some N' ∧ Dd b n m M N' ∧ Eo (mW2 sd w i c) N N' := by
  obtain ⟨N', e1, e2, e3⟩ := m_129D (w := w) (c := c) (v1 := v1) (v2 := v2) hd h38 hi hsd
  refine ⟨N', ?_, e2, e3⟩
  show B_Mod_tellLaw_12 v1 v2 (H_Mod_tellLaw_12 v1 v2 g) v3 N = _
  unfold B_Mod_tellLaw_12
  rw [if_neg hd.nf.1, e1]
/-- what a law comes to -/
def LawO (b : Nat → Nat) (n m W sd w c i t : Nat) (M : gM) (L : gL) (N : gM) (K : gL) (M' N' : gM) : Prop := ((∃ t' c' i', t ≤ t' ∧ Tk b n m M' L N' K ∧ Lv m t' M' N' ∧ N' 401 44 = nI c' ∧ N' 401 12 = 0 ∧ N' 401 38 = nI i' ∧ c ≤ c' ∧ i ≤ i' ∧ c' ≤ t' + 420 * sd ∧ 4 * i' ≤ t' + 520 * sd ∧ LawR W sd w c' i' M' N' ∧ Eo (cE W 0) M M') ∨ Dd b n m M' N') ∧ Eo (mW2 sd w i c) N N'
theorem h_end {W sd w fi k t q c : Nat} {L K : gL} {Q : Nat → Nat} {M N : gM} (hW : isLw W) (hsd : sd ≤ 1) (hw : w < 4) (hk4 : k ≤ 4) (hC : CH b n m W t q c M L N K) (s1 : q + 2 ≤ t) (s2 : c + 2 ≤ t + 420 * sd) (s3 : 420 * sd ≤ c) (s4 : 130 * sd ≤ fi) (h38 : N 401 38 = nI (fi + k)) (hi : 4 * (fi + k) + 2 ≤ t + 520 * sd) (h19 : N 401 19 = nI sd) (hQ0 : Q 0 = 0) (hQk : Q k = q) (hQ : ∀ j, j < k → Br (420 * sd) W (fi + j) (Q j) (Q (j + 1)) c M N ∧ Q (j + 1) ≤ q) :
    ∃ M' N', J_Reader_takeLaw_106 W M L = some M' ∧ J_Mod_tellLaw_129 (nI w) (nI fi) N = some N' ∧ LawO b n m W sd w c (fi + k) t M L N K M' N' := by
  have h12 := Lw_12 hW
  obtain ⟨hT, hl, x1, x2, x3⟩ := id hC
  have hm := hT.m400
  have htm := hl.2.2.2.2
  generalize hgi0 : fi + k = i at h38 hi ⊢
  have hgi : ¬ (nI i < 0 ∨ 260 ≤ i) := nI_inc (by omega) (by omega)
  have hvp : vp_nar .boolean 0 = 0 := by decide
  unfold J_Reader_takeLaw_106 J_Mod_tellLaw_129 F_Mod_term J_Mod_term_24
  rw [h38, nI_clamp (by omega), if_neg hgi, nmM_e, uM_diff (by omega), h38, nI_clamp (by omega), if_neg hgi, nmM_e, hvp, bI_ite2]
  generalize hN1 : uM (uM N 426 i 0) 429 i (N 401 44) = N1
  rw [show uM (uM N 426 i 0) 429 i (uM N 426 i 0 401 44) = N1 by rw [uM_diff (by omega)]; exact hN1]
  have f1 : Eo (fun cc j => (cc = 426 ∨ cc = 429) ∧ j = i) N N1 := by
    rw [← hN1]; exact (Eo.rf.u ⟨Or.inl rfl, rfl⟩).u ⟨Or.inr rfl, rfl⟩
  have hC1 := hC.mo (f1.mono (fun cc j q => by omega))
  obtain ⟨M2, N2, g1, g2, g3, g4⟩ := h_sum2 (z := 2) (by decide) hW (B0 := 420 * sd) (by omega) (Or.inl ⟨hC1, s1, s2⟩)
  have n38 : N2 401 38 = nI i := by rw [g4 401 38 (by unfold mE; omega), f1 401 38 (by omega)]; exact h38
  rw [g1, bI_s, g2, bI_s, n38, nI_clamp (by omega), if_neg hgi, nmM_e, nmM_e, uM_diff (by omega), n38, nI_1, bI_s]
  generalize hN2 : uM (uM N2 430 i (N2 401 44)) 401 38 (nI (i + 1)) = N2'
  have f2 : Eo (fun cc j => (cc = 430 ∧ j = i) ∨ (cc = 401 ∧ j = 38)) N2 N2' := by rw [← hN2]; exact (Eo.rf.u (Or.inl ⟨rfl, rfl⟩)).u (Or.inr ⟨rfl, rfl⟩)
  have f2' := f2.mono (S' := fun cc j => (426 ≤ cc ∧ cc ≤ 430) ∨ (cc = 401 ∧ j = 38)) (fun cc j q => by omega)
  have hO : ∃ t2 q2 c2, (CH b n m W t2 q2 c2 M2 L N2' K ∨ Dd b n m M2 N2') ∧ ((∃ l, t + 1 ≤ t2 ∧ q2 = q + l ∧ c2 = c + l ∧ q2 + 2 ≤ t2 ∧ c2 + 2 ≤ t2 + 420 * sd ∧ Sg W q c l M2 N2' ∧ Eo (cE W q) M M2 ∧ N2' 426 i = 0 ∧ N2' 429 i = nI c ∧ N2' 430 i = nI c2) ∨ Dd b n m M2 N2') := by
    rcases g3 with ⟨t', l, a1, a2, a3, a4, a5, a6, a7⟩ | g3
    · refine ⟨t', q + l, c + l, Or.inl (a2.mo f2'), Or.inl ⟨l, a1, rfl, rfl, a3, a4, a5.keep (fun _ _ _ => rfl) (fun j _ _ => f2 431 j (by omega)) (fun j _ _ => f2 432 j (by omega)), a6, ?_, ?_, ?_⟩⟩
      · rw [f2 426 i (by omega), g4 426 i (by unfold mE; omega), ← hN1, uM_diff (by omega), uM_same]
      · rw [f2 429 i (by omega), g4 429 i (by unfold mE; omega), ← hN1, uM_same]; exact x2
      · rw [← hN2, uM_diff (by omega), uM_same]; exact a2.2.2.2.1
    · exact ⟨t, q, c, Or.inr (g3.mo2 f2'), Or.inr (g3.mo2 f2')⟩
  obtain ⟨t2, q2, c2, P2, Q2⟩ := hO
  obtain ⟨M3, N3, g9, g10, g11, g12⟩ := h_need (k := 59) (kk := 59) (kq := 4) h12 rfl rfl (Or.inr (Or.inl rfl)) (by decide) P2
  rw [g9, bI_s, g10, bI_s]
  have hEo : Eo (mW2 sd w i c) N N3 := by
    have e1 : Eo (mW2 sd w i c) N N1 := f1.mono (fun cc j q => Or.inr (Or.inl (by omega)))
    have e2 : Eo (mW2 sd w i c) N1 N2 := g4.mono (fun cc j q => Or.inl q)
    have e3 : Eo (mW2 sd w i c) N2 N2' := f2.mono (fun cc j q => by rcases q with q | q; exact Or.inr (Or.inl (by omega)); exact Or.inr (Or.inr (Or.inl q)))
    have e4 : Eo (mW2 sd w i c) N2' N3 := g12.mono (fun cc j q => Or.inl (mS_mE _ _ q))
    exact ((e1.tr e2).tr e3).tr e4
  rcases g11 with ⟨a1, a2, a3⟩ | g11
  · rcases Q2 with ⟨l, b1, b2, b3, b4, b5, b6, b7, b8, b9, b10⟩ | Q2
    · have hd := a1.2.1.2.2.2.2
      subst b2 b3
      have n19 : N3 401 19 = nI sd := by rw [g12 401 19 (by unfold mS; omega), f2 401 19 (by omega), g4 401 19 (by unfold mE; omega), f1 401 19 (by omega)]; exact h19
      have n38b : N3 401 38 = nI (i + 1) := by rw [g12 401 38 (by unfold mS; omega), ← hN2, uM_same]
      have ew : (4 : Int32) * nI sd + nI w = nI (4 * sd + w) := by rw [show (4 : Int32) = nI 4 from rfl, nI_mul, nI_add]
      have hgw : ¬ (nI (4 * sd + w) < 0 ∨ 8 ≤ 4 * sd + w) := nI_inc (by omega) (by omega)
      rw [if_pos (by rw [a1.2.1.2.2.2.1]; decide), n19, ew, nI_clamp (by omega), if_neg hgw, nmM_e, uM_diff (by omega), n19, ew, nI_clamp (by omega), if_neg hgw, nmM_e, uM_diff (by omega), n38b]
      have f3 : Eo (fun cc j => (cc = 424 ∨ cc = 425) ∧ j = 4 * sd + w) N3 (uM (uM N3 424 (4 * sd + w) (nI fi)) 425 (4 * sd + w) (nI (i + 1))) := (Eo.rf.u ⟨Or.inl rfl, rfl⟩).u ⟨Or.inr rfl, rfl⟩
      refine ⟨M3, _, rfl, rfl, Or.inl ⟨t2 + 1, c + l, i + 1, by omega, ?_, ?_, ?_, ?_, ?_, by omega, by omega, by omega, by omega, ?_, (b7.tr (a2.mono cS_cE)).mono (cE_mono (Nat.zero_le _))⟩, hEo.tr (f3.mono (fun cc j q => Or.inr (Or.inr (Or.inr q))))⟩
      · exact a1.1.keep (fun _ => rfl) (fun _ => rfl) (fun _ => rfl) (fun j => f3 404 j (by omega)) (fun j => f3 405 j (by omega)) (fun j => f3 406 j (by omega)) (fun _ => rfl)
      · exact a1.2.1.at rfl rfl (f3 401 11 (by omega)) (f3 401 13 (by omega))
      · rw [f3 401 44 (by omega)]; exact a1.2.2.2.1
      · rw [f3 401 12 (by omega)]; exact a1.2.2.2.2
      · rw [f3 401 38 (by omega)]; exact n38b
      · refine ⟨fi, k, q + l, Q, by rw [uM_diff (by omega), uM_same], by rw [uM_same, hgi0], hk4, by omega, s4, hQ0, fun j hj => ⟨(hQ j hj).1.keep (by omega) (fun x hx => ?_) (fun x _ hx => ?_) (fun cc y1 y2 => ?_), by have := (hQ j hj).2; omega⟩, ?_, a1.2.2.1, by omega⟩
        · have := (hQ j hj).2
          rw [a2 (W + 1) x (by unfold cS; omega), b7 (W + 1) x (by unfold cE; omega)]
        · constructor
          · rw [f3 431 x (by omega), g12 431 x (by unfold mS; omega), f2 431 x (by omega), g4 431 x (by unfold mE; omega), f1 431 x (by omega)]
          · rw [f3 432 x (by omega), g12 432 x (by unfold mS; omega), f2 432 x (by omega), g4 432 x (by unfold mE; omega), f1 432 x (by omega)]
        · rw [f3 cc _ (by omega), g12 cc _ (by unfold mS; omega), f2 cc _ (by omega), g4 cc _ (by unfold mE; omega), f1 cc _ (by omega)]
        · rw [hgi0, hQk]
          refine ⟨c, l, ?_, ?_, ?_, b6.keep (fun j _ _ => a2 (W + 1) j (by unfold cS; omega)) (fun j _ _ => ?_) (fun j _ _ => ?_), rfl, Nat.le_refl _, s3⟩
          · rw [f3 426 i (by omega), g12 426 i (by unfold mS; omega)]; exact b8
          · rw [f3 429 i (by omega), g12 429 i (by unfold mS; omega)]; exact b9
          · rw [f3 430 i (by omega), g12 430 i (by unfold mS; omega)]; exact b10
          · rw [f3 431 j (by omega), g12 431 j (by unfold mS; omega)]
          · rw [f3 432 j (by omega), g12 432 j (by unfold mS; omega)]
    · exact absurd Q2 a3.2.1.nd
  · rw [if_neg (by obtain ⟨k2, ft, u, a1, a2, a3, a4, a5, a6, a7, a8⟩ := id g11; rw [a5]; exact nI_nle (by omega) (by omega))]
    exact ⟨M3, N3, rfl, rfl, Or.inr g11, hEo⟩
theorem h_loop {W sd w fi : Nat} {L K : gL} (hW : isLw W) (hsd : sd ≤ 1) (hw : w < 4) (s4 : 130 * sd ≤ fi) : ∀ (d k f g t q c : Nat) (Q : Nat → Nat) (M N : gM), k + d = 4 → d < f → d < g → CH b n m W t q c M L N K → q + 2 ≤ t → c + 2 ≤ t + 420 * sd → 420 * sd ≤ c → N 401 38 = nI (fi + k) → 4 * (fi + k) + 2 ≤ t + 520 * sd → N 401 19 = nI sd → Q 0 = 0 → Q k = q → (∀ j, j < k → Br (420 * sd) W (fi + j) (Q j) (Q (j + 1)) c M N ∧ Q (j + 1) ≤ q) →
    ∃ M' N', H_Reader_takeLaw_16 W L f (nI k) M = some M' ∧ H_Mod_tellLaw_12 (nI w) (nI fi) g (nI k) N = some N' ∧ LawO b n m W sd w c (fi + k) t M L N K M' N' := by
  have h12 := Lw_12 hW
  intro d
  induction d with
  | zero =>
    intro k f g t q c Q M N hkd hf hg hC s1 s2 s3 h38 hi h19 hQ0 hQk hQ
    obtain ⟨f, rfl⟩ : ∃ x, f = x + 1 := ⟨f - 1, by omega⟩
    obtain ⟨g, rfl⟩ : ∃ x, g = x + 1 := ⟨g - 1, by omega⟩
    obtain ⟨M', N', e1, e2, e3⟩ := h_end hW hsd hw (by omega) hC s1 s2 s3 s4 h38 hi h19 hQ0 hQk hQ
    obtain ⟨hT, hl, x1, x2, x3⟩ := id hC
    obtain rfl : k = 4 := by omega
    have hm := hT.m400
    have htm := hl.2.2.2.2
    have c1 : H_Reader_takeLaw_16 W L (f + 1) (nI 4) M = if tkK b n t = 137 then J_Reader_takeLaw_43 W M L else J_Reader_takeLaw_106 W M L := by
      show B_Reader_takeLaw_16 W L (H_Reader_takeLaw_16 W L f) (nI 4) M = _
      unfold B_Reader_takeLaw_16
      rw [if_neg (by decide), hl.2.1, if_pos rfl, r_is hT (k := 137) (kk := 137) rfl hl.1 htm (by decide), bI_s]
      by_cases e : tkK b n t = 137
      · rw [if_pos e, if_neg (show ¬ (1 : Int32) = 0 by decide), if_pos (show nI 4 = 4 from rfl), if_pos e]
      · rw [if_neg e, if_pos (show (0 : Int32) = 0 from rfl), if_neg e]
    have c2 : H_Mod_tellLaw_12 (nI w) (nI fi) (g + 1) (nI 4) N = if tkK b n t = 137 then bI (F_Mod_fail 2 N) (fun M44 => J_Mod_tellLaw_38 (H_Mod_tellLaw_12 (nI w) (nI fi) g) (nI w) (nI fi) (nI 4) M44) else J_Mod_tellLaw_129 (nI w) (nI fi) N := by
      show B_Mod_tellLaw_12 (nI w) (nI fi) (H_Mod_tellLaw_12 (nI w) (nI fi) g) (nI 4) N = _
      unfold B_Mod_tellLaw_12
      rw [hl.2.2.2.1, if_pos rfl, q_is hT (k := 137) (kk := 29) rfl (Or.inr (Or.inr ⟨by decide, by decide⟩)) hl.2.2.1 hl.2.2.2.1 htm, bI_s]
      by_cases e : tkK b n t = 137
      · rw [if_pos e, if_neg (show ¬ (1 : Int32) = 0 by decide), if_pos (show nI 4 = 4 from rfl), if_pos e]
      · rw [if_neg e, if_pos (show (0 : Int32) = 0 from rfl), if_neg e]
    rw [c1, c2]
    by_cases e : tkK b n t = 137
    · rw [if_pos e, if_pos e]
      unfold J_Reader_takeLaw_43 J_Mod_tellLaw_38
      obtain ⟨M1, N1, q1, q2, q3, q4⟩ := p_fail (k := 2) (kk := 2) rfl (Or.inr rfl) (Or.inl ⟨hT, hl⟩)
      obtain ⟨M2, y1, y2⟩ := c_106D (L := L) hW q3
      obtain ⟨k2, ft, u, a1, a2, a3, a4, a5, a6, a7, a8⟩ := id q3
      rw [q1, bI_s, q2, bI_s, if_neg (by rw [a5]; exact nI_nle (by omega) (by omega)), y1]
      exact ⟨M2, N1, rfl, rfl, Or.inr y2, q4.mono (fun cc j q => Or.inl (mS_mE _ _ q))⟩
    · rw [if_neg e, if_neg e]
      exact ⟨M', N', e1, e2, e3⟩
  | succ d ih =>
    intro k f g t q c Q M N hkd hf hg hC s1 s2 s3 h38 hi h19 hQ0 hQk hQ
    obtain ⟨f, rfl⟩ : ∃ x, f = x + 1 := ⟨f - 1, by omega⟩
    obtain ⟨g, rfl⟩ : ∃ x, g = x + 1 := ⟨g - 1, by omega⟩
    obtain ⟨hT, hl, x1, x2, x3⟩ := id hC
    have hm := hT.m400
    have htm := hl.2.2.2.2
    show ∃ M' N', B_Reader_takeLaw_16 W L (H_Reader_takeLaw_16 W L f) (nI k) M = some M' ∧ B_Mod_tellLaw_12 (nI w) (nI fi) (H_Mod_tellLaw_12 (nI w) (nI fi) g) (nI k) N = some N' ∧ _
    unfold B_Reader_takeLaw_16 B_Mod_tellLaw_12
    have hk4 : ¬ nI k = 4 := fun (q : nI k = (4 : Int32)) => by have := (nI_eq (a := k) (b := 4) (by omega) (by omega)).mp q; omega
    rw [if_neg (by rw [show (4 : Int32) = nI 4 from rfl, nI_ltI (by omega) (by omega)]; omega), hl.2.1, if_pos rfl, r_is hT (k := 137) (kk := 137) rfl hl.1 htm (by decide), bI_s, hl.2.2.2.1, if_pos rfl, q_is hT (k := 137) (kk := 29) rfl (Or.inr (Or.inr ⟨by decide, by decide⟩)) hl.2.2.1 hl.2.2.2.1 htm, bI_s]
    by_cases e : tkK b n t = 137
    · rw [if_pos e, if_neg (show ¬ (1 : Int32) = 0 by decide), if_neg (show ¬ (1 : Int32) = 0 by decide), if_neg hk4, if_neg hk4]
      obtain ⟨M1, N1, g1, g2, g3, g4, g5⟩ := h_if (B0 := 420 * sd) hW (by omega) hC s1 s2 s3 h38 (by omega) e (nI w) (nI fi) (nI k) (H_Mod_tellLaw_12 (nI w) (nI fi) g) (fun M35 => nmI (nI k + 1) (fun x36 => H_Reader_takeLaw_16 W L f x36 M35))
      rw [g1, g2, nmI_e, nI_1]
      have hfr : Eo (mW2 sd w (fi + k) c) N N1 := g5.mono (mF_mW2 (Nat.le_refl _) (Nat.le_refl _) (by omega))
      rcases g3 with ⟨t', q', c', a1, a2, a3, a4, a5, a6, a7, a8⟩ | g3
      · obtain ⟨M', N', y1, y2, y3, y4⟩ := ih (k + 1) f g t' q' c' (fun j => if j ≤ k then Q j else q') M1 N1 (by omega) (by omega) (by omega) a2 a3 a6 (by omega) g4 (by omega) (by rw [g5 401 19 (by unfold mF mE; omega)]; exact h19) (by rw [if_pos (Nat.zero_le _)]; exact hQ0) (by rw [if_neg (by omega)]) (fun j hj => by
          by_cases hjk : j = k
          · subst hjk
            rw [if_pos (Nat.le_refl _), if_neg (by omega), hQk]
            exact ⟨a7, Nat.le_refl _⟩
          · rw [if_pos (by omega), if_pos (by omega)]
            have h2 := (hQ j (by omega)).2
            refine ⟨(hQ j (by omega)).1.keep a4 (fun x hx => a8 (W + 1) x (by unfold cE; omega)) (fun x _ hx => ⟨g5 431 x (by unfold mF mE; omega), g5 432 x (by unfold mF mE; omega)⟩) (fun cc z1 z2 => g5 cc _ (by unfold mF mE; omega)), by omega⟩)
        refine ⟨M', N', y1, y2, ?_, hfr.tr (y4.mono (mW2_mono (by omega) a4))⟩
        rcases y3 with ⟨t2, c2, i2, z1, z2, z3, z4, z5, z6, z7, z8, z9, z10, z11, z12⟩ | y3
        · exact Or.inl ⟨t2, c2, i2, by omega, z2, z3, z4, z5, z6, by omega, by omega, z9, z10, z11, (a8.mono (cE_mono (Nat.zero_le _))).tr z12⟩
        · exact Or.inr y3
      · obtain ⟨f, rfl⟩ : ∃ x, f = x + 1 := ⟨f - 1, by omega⟩
        obtain ⟨g, rfl⟩ : ∃ x, g = x + 1 := ⟨g - 1, by omega⟩
        obtain ⟨N2, y1, y2, y3⟩ := m_lawD (w := w) (c := c) (v1 := nI w) (v2 := nI fi) (v3 := nI (k + 1)) g3 g4 (by omega) hsd g
        obtain ⟨M2, y4, y5⟩ := c_lawD (L := L) hW y2 f (nI (k + 1))
        exact ⟨M2, N2, y4, y1, Or.inr y5, hfr.tr (y3.mono (mW2_mono (by omega) (Nat.le_refl _)))⟩
    · rw [if_neg e, if_pos (show (0 : Int32) = 0 from rfl), if_pos (show (0 : Int32) = 0 from rfl)]
      exact h_end hW hsd hw (by omega) hC s1 s2 s3 s4 h38 hi h19 hQ0 hQk hQ
/-- a law, from its first token on -/
theorem p_law {W sd w i t c : Nat} {M N : gM} {L K : gL} (hW : isLw W) (hsd : sd ≤ 1) (hw : w < 4) (hT : Tk b n m M L N K) (hl : Lv m t M N) (h44 : N 401 44 = nI c) (h12' : N 401 12 = 0) (h38 : N 401 38 = nI i) (h19 : N 401 19 = nI sd) (hc : c ≤ t + 420 * sd) (hi : 4 * i ≤ t + 520 * sd) (hc0 : 420 * sd ≤ c) (hi0 : 130 * sd ≤ i) (h0 : tkK b n t ≠ 0) (h1 : tkK b n t ≠ 1) :
    ∃ M' N', F_Reader_takeLaw W M L = some M' ∧ bI (F_Mod_goesOn N) (fun M74 => F_Mod_tellLaw (nI w) M74) = some N' ∧ LawO b n m W sd w c i (t + 1) M L N K M' N' := by
  have h12 := Lw_12 hW
  have hm := hT.m400
  have htm := hl.2.2.2.2
  unfold F_Reader_takeLaw F_Mod_tellLaw F_Law_clear
  rw [nmM_e, bI_s]
  have hT0 : Tk b n m (uM M W 1 0) L N K := hT.keep (fun j => uM_diff (by omega)) (fun j => uM_diff (by omega)) (fun _ => rfl) (fun _ => rfl) (fun _ => rfl) (fun _ => rfl) (fun _ => rfl)
  have hl0 : Lv m t (uM M W 1 0) N := hl.at (uM_diff (by omega)) (uM_diff (by omega)) rfl rfl
  obtain ⟨M1, N1, g1, g2, g3, g4⟩ := p_take hT0 hl0 h0 h1
  rw [g1, bI_s, g2, bI_s]
  have hC0 : CH b n m W t 0 c (uM M W 1 0) L N K := ⟨hT0, hl0, uM_same, h44, h12'⟩
  have P1 : CH b n m W (t + 1) 0 c M1 L N1 K ∨ Dd b n m M1 N1 := by
    rcases g3 with ⟨a1, a2⟩ | g3
    · exact Or.inl (hC0.need h12 a1 a2 g4)
    · exact Or.inr g3
  have z1 : CH b n m W (t + 1) 0 c M1 L N1 K → Eo (cE W 0) M M1 := by
    intro hc
    rcases g3 with ⟨a1, a2⟩ | g3
    · exact Eo.tr (Eo.rf.u (by unfold cE; omega)) (a2.mono cS_cE)
    · exact absurd g3 hc.2.1.nd
  obtain ⟨M3, N3, g9, g10, g11, g12⟩ := h_need (k := 61) (kk := 61) (kq := 5) h12 rfl rfl (Or.inr (Or.inl rfl)) (by decide) P1
  have n38 : N3 401 38 = nI i := by rw [g12 401 38 (by unfold mS; omega), g4 401 38 (by unfold mS; omega)]; exact h38
  have n19 : N3 401 19 = nI sd := by rw [g12 401 19 (by unfold mS; omega), g4 401 19 (by unfold mS; omega)]; exact h19
  rw [g9, bI_s, g10, bI_s, nmI_e, n38]
  have hEo : Eo (mW2 sd w i c) N N3 := Eo.tr (g4.mono (fun cc j q => Or.inl (mS_mE _ _ q))) (g12.mono (fun cc j q => Or.inl (mS_mE _ _ q)))
  rcases g11 with ⟨a1, a2, a3⟩ | g11
  · obtain ⟨M', N', y1, y2, y3, y4⟩ := h_loop (fi := i) hW hsd hw hi0 4 0 FU FU (t + 1 + 1) 0 c (fun _ => 0) M3 N3 rfl (by unfold FU; omega) (by unfold FU; omega) a1 (by omega) (by omega) hc0 n38 (by omega) n19 rfl rfl (fun j hj => absurd hj (Nat.not_lt_zero _))
    refine ⟨M', N', y1, y2, ?_, hEo.tr y4⟩
    rcases y3 with ⟨t2, c2, i2, q1, q2, q3, q4, q5, q6, q7, q8, q9, q10, q11, q12⟩ | y3
    · exact Or.inl ⟨t2, c2, i2, by omega, q2, q3, q4, q5, q6, q7, q8, q9, q10, q11, ((z1 a3).tr (a2.mono cS_cE)).tr q12⟩
    · exact Or.inr y3
  · obtain ⟨g, hg⟩ := FU_k 1 (by decide)
    rw [hg]
    obtain ⟨N2, y1, y2, y3⟩ := m_lawD (w := w) (c := c) (v1 := nI w) (v2 := nI i) (v3 := 0) g11 n38 (by omega) hsd g
    obtain ⟨M2, y4, y5⟩ := c_lawD (L := L) hW y2 g 0
    exact ⟨M2, N2, y4, y1, Or.inr y5, hEo.tr y3⟩
end PAR7
end MG12x1
section MG12x2
/-! the steps of an item -/
section PAR8
variable {b : Nat → Nat} {n m : Nat}
/-- live, at the token t -/
def IS (b : Nat → Nat) (n m t : Nat) (M : gM) (L : gL) (N : gM) (K : gL) : Prop := Tk b n m M L N K ∧ Lv m t M N ∧ ∃ lf, Lt b n t lf M N
theorem IS.lf0 {t lf : Nat} {M N : gM} (h : Lt b n t lf M N) : M 3 4 = 0 ↔ lf = 0 := by
  rw [h.1]
  exact ⟨fun (q : nI lf = nI 0) => (nI_eq (by have := h.2.2.1; omega) (by decide)).mp q, fun q => by rw [q]; rfl⟩
theorem IS.nd {t : Nat} {M N : gM} {L K : gL} (h : IS b n m t M L N K) : ¬ Dd b n m M N := h.2.1.nd
/-- rows of both are written -/
theorem IS.put {t a p q p' : Nat} {x y : Int32} {M N : gM} {L K : gL} (h : IS b n m t M L N K) (ha : 12 ≤ a) (hq : 408 ≤ q) : IS b n m t (uM M a p x) L (uM N q p' y) K := by
  obtain ⟨h1, h2, lf, h3⟩ := h
  exact ⟨h1.keep (fun j => uM_diff (by omega)) (fun j => uM_diff (by omega)) (fun _ => rfl) (fun j => uM_diff (by omega)) (fun j => uM_diff (by omega)) (fun j => uM_diff (by omega)) (fun _ => rfl), h2.at (uM_diff (by omega)) (uM_diff (by omega)) (uM_diff (by omega)) (uM_diff (by omega)), lf, h3.up (Nat.le_refl _) (uM_diff (by omega)) (uM_diff (by omega)) (uM_diff (by omega)) (uM_diff (by omega))⟩
theorem Dd.put {a p q p' : Nat} {x y : Int32} {M N : gM} (h : Dd b n m M N) (ha : 12 ≤ a) (hq : 408 ≤ q) : Dd b n m (uM M a p x) (uM N q p' y) := by
  obtain ⟨k, ft, u, a1, a2, a3, a4, a5, a6, a7, a8⟩ := h
  exact ⟨k, ft, u, a1, a2, by rw [uM_diff (by omega)]; exact a3, by rw [uM_diff (by omega)]; exact a4, by rw [uM_diff (by omega)]; exact a5, by rw [uM_diff (by omega)]; exact a6, a7, by rw [uM_diff (by omega)]; exact a8⟩
theorem Dd.put1 {a p : Nat} {x : Int32} {M N : gM} (h : Dd b n m M N) (ha : 12 ≤ a) : Dd b n m (uM M a p x) N := by
  obtain ⟨k, ft, u, a1, a2, a3, a4, a5, a6, a7, a8⟩ := h
  exact ⟨k, ft, u, a1, a2, by rw [uM_diff (by omega)]; exact a3, by rw [uM_diff (by omega)]; exact a4, a5, a6, a7, a8⟩
theorem O_put {t a p q p' : Nat} {x y : Int32} {M N : gM} {L K : gL} (h : IS b n m t M L N K ∨ Dd b n m M N) (ha : 12 ≤ a) (hq : 408 ≤ q) : IS b n m t (uM M a p x) L (uM N q p' y) K ∨ Dd b n m (uM M a p x) (uM N q p' y) := h.imp (fun h => h.put ha hq) (fun h => h.put ha hq)
theorem i_take {t : Nat} {M N : gM} {L K : gL} (h : IS b n m t M L N K) (h0 : tkK b n t ≠ 0) (h1 : tkK b n t ≠ 1) : ∃ M' N', F_Reader_take M = some M' ∧ F_Mod_goesOn N = some N' ∧ ((IS b n m (t + 1) M' L N' K ∧ Eo cS M M') ∨ Dd b n m M' N') ∧ Eo mS N N' := by
  obtain ⟨a1, a2, lf, a3⟩ := h
  obtain ⟨M', N', g1, g2, g3, g4⟩ := p_take a1 a2 h0 h1
  refine ⟨M', N', g1, g2, ?_, g4⟩
  rcases g3 with ⟨x1, x2⟩ | g3
  · exact Or.inl ⟨⟨a1.eo (x2.mono cS_cI) (g4.mono mS_mI), x1, lf, a3.keep (by omega) x2 g4⟩, x2⟩
  · exact Or.inr g3
theorem i_int {t mo : Nat} {kk : Int32} {M N : gM} {L K : gL} (hkk : kk = nI mo) (hmo : mo ≤ 9999) (h : IS b n m t M L N K ∨ Dd b n m M N) : ∃ r M' r' N', F_Reader_takeInt kk M L = some (r, M') ∧ F_Mod_bounded 0 kk N = some (r', N') ∧
    ((IS b n m (t + 1) M' L N' K ∧ IS b n m t M L N K ∧ (∃ v, r = nI v ∧ r' = nI v ∧ (M' 3 4 = 0 → M 3 4 = 0 ∧ v ≤ mo)) ∧ Eo cI M M') ∨ Dd b n m M' N') ∧ Eo mI N N' := by
  rcases h with h | hd
  · obtain ⟨a1, a2, lf, a3⟩ := id h
    obtain ⟨r, M', r', N', g1, g2, g3, g4⟩ := p_int (lf := lf) hkk hmo (Or.inl ⟨a1, a2, a3⟩)
    refine ⟨r, M', r', N', g1, g2, ?_, g4⟩
    rcases g3 with ⟨x1, x2, x3, x4, ⟨lf', x5, x6⟩, x7⟩ | g3
    · refine Or.inl ⟨⟨a1.eo x7 g4, x1, lf', x5⟩, h, ⟨_, x3, x4, fun q => ?_⟩, x7⟩
      obtain ⟨y1, y2⟩ := x6 ((IS.lf0 x5).mp q)
      exact ⟨(IS.lf0 a3).mpr y1, y2⟩
    · exact Or.inr g3
  · obtain ⟨r, M', r', N', g1, g2, g3, g4⟩ := p_int (b := b) (n := n) (m := m) (M := M) (N := N) (L := L) (K := K) (t := t) (lf := 0) hkk hmo (Or.inr hd)
    refine ⟨r, M', r', N', g1, g2, ?_, g4⟩
    rcases g3 with ⟨x1, x2, x3, x4, x5, x7⟩ | g3
    · exfalso
      obtain ⟨r2, M2, e1, -, e2⟩ := tq_Reader_takeInt (p1 := kk) (M := M) (L := L)
      have e3 : M2 = M' := by have := e1.symm.trans g1; injection this with q; injection q
      have e4 := e2.2.2 hd.nf.2
      rw [e3] at e4
      exact hd.nf.2 (by rw [← e4.1]; exact x1.2.1)
    · exact Or.inr g3
theorem i_need {t k : Nat} {kk kq : Int32} {M N : gM} {L K : gL} (hkk : kk = nI k) (hkq : kq = nI (phi k)) (hk : kdom k) (h2 : 2 ≤ k) (h : IS b n m t M L N K ∨ Dd b n m M N) : ∃ M' N', F_Reader_need kk M = some M' ∧ F_Mod_must kq N = some N' ∧ ((IS b n m (t + 1) M' L N' K ∧ IS b n m t M L N K ∧ Eo cS M M') ∨ Dd b n m M' N') ∧ Eo mS N N' := by
  rcases h with h | hd
  · obtain ⟨a1, a2, lf, a3⟩ := id h
    obtain ⟨M', N', g1, g2, g3, g4⟩ := p_need (t := t) hkk hkq hk h2 (Or.inl ⟨a1, a2⟩)
    refine ⟨M', N', g1, g2, ?_, g4⟩
    rcases g3 with ⟨x1, x2, x3, x4⟩ | g3
    · exact Or.inl ⟨⟨a1.eo (x4.mono cS_cI) (g4.mono mS_mI), x1, lf, a3.keep (by omega) x4 g4⟩, h, x4⟩
    · exact Or.inr g3
  · obtain ⟨M', N', g1, g2, g3, g4⟩ := p_need (b := b) (n := n) (m := m) (M := M) (N := N) (L := L) (K := K) (t := t) hkk hkq hk h2 (Or.inr hd)
    refine ⟨M', N', g1, g2, ?_, g4⟩
    rcases g3 with ⟨x1, x2, x3, x4⟩ | g3
    · exact absurd hd x2.nd
    · exact Or.inr g3
theorem i_name {t nc : Nat} {l : Nat → List Nat} {a : Nat → Int32} {fc : Int32} {M N : gM} {L K : gL} (hn : nc ≤ 20) (h : (IS b n m t M L N K ∧ Mn nc l a N K ∧ (M 3 4 = 0 → Cn nc l a M L)) ∨ Dd b n m M N) :
    ∃ M' L' r' N', F_Reader_takeNewName fc M L = some (M', L') ∧ F_Mod_named N K = some (r', N') ∧
    ((IS b n m (t + 1) M' L' N' K ∧ IS b n m t M L N K ∧ tkK b n t = 2 ∧ r' = nI t ∧ (M' 3 4 = 0 → M 3 4 = 0 ∧ (∀ k, k < nc → l k ≠ tokL b n (tkF b n t)) ∧ Cn (nc + 1) (fun k => if k = nc then tokL b n (tkF b n t) else l k) (fun k => if k = nc then fc else a k) M' L') ∧ Eo cN M M' ∧ (∀ c j, c ≠ 9 → L' c j = L c j)) ∨ Dd b n m M' N') ∧ Eo mI N N' := by
  rcases h with ⟨h, hM, hC⟩ | hd
  · obtain ⟨a1, a2, lf, a3⟩ := id h
    obtain ⟨M', L', r', N', g1, g2, g3, g4⟩ := p_name (lf := lf) (fc := fc) hn (Or.inl ⟨a1, a2, a3, hM, fun q => hC ((IS.lf0 a3).mpr q)⟩)
    refine ⟨M', L', r', N', g1, g2, ?_, g4⟩
    rcases g3 with ⟨x1, x2, x3, ⟨lf', x5, x6⟩, x7, x8⟩ | g3
    · refine Or.inl ⟨⟨a1.keep (fun j => x7 6 j (by unfold cN; omega)) (fun j => x7 7 j (by unfold cN; omega)) (fun j => x8 8 j (by decide)) (fun j => g4 404 j (by unfold mI; omega)) (fun j => g4 405 j (by unfold mI; omega)) (fun j => g4 406 j (by unfold mI; omega)) (fun _ => rfl), x1, lf', x5⟩, h, x2, x3, fun q => ?_, x7, x8⟩
      obtain ⟨y1, y2, y3⟩ := x6 ((IS.lf0 x5).mp q)
      exact ⟨(IS.lf0 a3).mpr y1, y2, y3⟩
    · exact Or.inr g3
  · obtain ⟨M', L', r', N', g1, g2, g3, g4⟩ := p_name (b := b) (n := n) (m := m) (M := M) (N := N) (L := L) (K := K) (t := t) (lf := 0) (l := l) (a := a) (fc := fc) hn (Or.inr hd)
    refine ⟨M', L', r', N', g1, g2, ?_, g4⟩
    rcases g3 with ⟨x1, x2, x3, x5, x7, x8⟩ | g3
    · exfalso
      obtain ⟨M2, L2, e1, e2⟩ := tq_Reader_takeNewName (p1 := fc) (M := M) (L := L)
      have e3 : M2 = M' := by have := e1.symm.trans g1; injection this with q; injection q
      have e4 := e2.2.2 hd.nf.2
      rw [e3] at e4
      exact hd.nf.2 (by rw [← e4.1]; exact x1.2.1)
    · exact Or.inr g3
/-- need ';' and ends -/
theorem i_ends {t t0 nc : Nat} {l : Nat → List Nat} {a : Nat → Int32} {fc r0 : Int32} {M N : gM} {L K : gL} (hn : nc ≤ 20) (hr : IS b n m t M L N K → r0 = nI t0 ∧ t0 ≤ 400 ∧ tkK b n t0 = 2 ∧ okN (tokL b n (tkF b n t0)) ∧ K 407 t0 = lN (enc 27 (tokL b n (tkF b n t0))) ∧ Mn nc l a N K) (h : IS b n m t M L N K ∨ Dd b n m M N) :
    ∃ M' N' K', F_Reader_need 59 M = some M' ∧ F_Mod_ends r0 fc N K = some (N', K') ∧ ((IS b n m (t + 1) M' L N' K' ∧ IS b n m t M L N K ∧ Eo cS M M' ∧ Mn (nc + 1) (fun k => if k = nc then tokL b n (tkF b n t0) else l k) (fun k => if k = nc then fc else a k) N' K') ∨ (Dd b n m M' N' ∧ K' = K)) ∧ Eo (fun c j => mS c j ∨ c = 410 ∨ (c = 401 ∧ j = 20)) N N' ∧ (∀ c j, c ≠ 409 → K' c j = K c j) := by
  obtain ⟨M', N1, g1, g2, g3, g4⟩ := i_need (k := 59) (kk := 59) (kq := 4) rfl rfl (Or.inr (Or.inl rfl)) (by decide) h
  unfold F_Mod_ends
  rw [g1, g2, bI_s]
  have g4' : Eo (fun c j => mS c j ∨ c = 410 ∨ (c = 401 ∧ j = 20)) N N1 := g4.mono (fun c j q => Or.inl q)
  rcases g3 with ⟨x1, x2, x3⟩ | g3
  · obtain ⟨y1, y2, y3, y4, y5, y6⟩ := hr x2
    have n20 : N1 401 20 = nI nc := by rw [g4 401 20 (by unfold mS; omega)]; exact y6.1
    rw [if_pos (by rw [x1.2.1.2.2.2.1]; decide), y1, nI_clamp (by omega), if_neg (nI_inc (by omega) (by omega)), n20, nI_clamp (by omega), if_neg (nI_inc (by omega) (by omega)), nmL_e, if_neg (nI_inc (by omega) (by omega)), nmM_e, nmM_e, uM_diff (by omega), n20, nI_1]
    have f1 : Eo (fun c j => c = 410 ∨ (c = 401 ∧ j = 20)) N1 (uM (uM N1 410 nc fc) 401 20 (nI (nc + 1))) := (Eo.rf.u (Or.inl rfl)).u (Or.inr ⟨rfl, rfl⟩)
    refine ⟨M', _, _, rfl, rfl, Or.inl ⟨⟨x1.1.keep (fun _ => rfl) (fun _ => rfl) (fun _ => rfl) (fun j => f1 404 j (by omega)) (fun j => f1 405 j (by omega)) (fun j => f1 406 j (by omega)) (fun j => by rw [uL_ne _ _ _ (by decide)]), x1.2.1.at rfl rfl (f1 401 11 (by omega)) (f1 401 13 (by omega)), ?_⟩, x2, x3, ?_⟩, g4'.tr (f1.mono (fun c j q => Or.inr q)), fun c j q => by rw [uL_ne _ _ _ q]⟩
    · obtain ⟨lf, x4⟩ := x1.2.2
      exact ⟨lf, x4.up (Nat.le_refl _) rfl rfl (f1 401 15 (by omega)) (f1 401 16 (by omega))⟩
    · refine ⟨uM_same, fun k hk => ?_⟩
      by_cases e : k = nc
      · subst e
        dsimp only
        rw [if_pos rfl, if_pos rfl]
        exact ⟨y4, by rw [uL_at, if_pos ⟨rfl, rfl⟩]; exact y5, by rw [uM_diff (by omega), uM_same]⟩
      · obtain ⟨z1, z2, z3⟩ := y6.2 k (by omega)
        dsimp only
        rw [if_neg e, if_neg e]
        exact ⟨z1, by rw [uL_at, if_neg (fun q => e q.2)]; exact z2, by rw [uM_diff (by omega), uM_diff (by omega), g4 410 k (by unfold mS; omega)]; exact z3⟩
  · rw [if_neg (by obtain ⟨k2, ft, u, a1, a2, a3, a4, a5, a6, a7, a8⟩ := id g3; rw [a5]; exact nI_nle (by omega) (by omega))]
    exact ⟨M', N1, K, rfl, rfl, Or.inr ⟨g3, rfl⟩, g4', fun _ _ _ => rfl⟩
end PAR8
end MG12x2
section MG12x3
/-! between two tells -/
section PAR9
variable {b : Nat → Nat} {n m : Nat}
def Cnts (ld sd nf nd ng ne : Nat) (M N : gM) : Prop := (M ld 0 = nI nf ∧ N 411 sd = nI nf ∧ nf ≤ 6) ∧ (M ld 1 = nI nd ∧ N 415 sd = nI nd ∧ nd ≤ 5) ∧ (M ld 2 = nI ng ∧ N 418 sd = nI ng ∧ ng ≤ 4) ∧ (M ld 3 = nI ne ∧ N 420 sd = nI ne ∧ ne ≤ 6)
def Mcnt (sd : Nat) (N : gM) : Prop := (∃ k, N 411 sd = nI k ∧ k ≤ 6) ∧ (∃ k, N 415 sd = nI k ∧ k ≤ 5) ∧ (∃ k, N 418 sd = nI k ∧ k ≤ 4) ∧ (∃ k, N 420 sd = nI k ∧ k ≤ 6)
def DFo (ld sd nf : Nat) (M N : gM) : Prop := ∀ k, k < nf → (∃ x, x ≤ 99 ∧ M (ld + 1) k = nI x ∧ N 412 (6 * sd + k) = nI x) ∧ (∃ x, x ≤ 9 ∧ M (ld + 2) k = nI x ∧ N 413 (6 * sd + k) = nI x) ∧ ∀ j, j < 3 → ∃ x, x ≤ 9 ∧ M (ld + 3) (3 * k + j) = nI x ∧ N 414 (3 * (6 * sd + k) + j) = nI x
def DDi (ld sd nd nf : Nat) (M N : gM) : Prop := (∀ k, k < nd → (∃ x, x ≤ 9 ∧ M (ld + 4) k = nI x ∧ N 416 (5 * sd + k) = nI x) ∧ ∃ A : Nat → Nat, (∀ f, f < 6 → M (ld + 5) (6 * k + f) = nI (A f) ∧ N 417 (6 * (5 * sd + k) + f) = nI (A f) ∧ (0 < A f → f < nf)) ∧ 1 ≤ A 0 + A 1 + A 2 + A 3 + A 4 + A 5 ∧ A 0 + A 1 + A 2 + A 3 + A 4 + A 5 ≤ 6) ∧ ∀ j, 6 * nd ≤ j → j < 30 → M (ld + 5) j = 0
def DGu (ld sd ng : Nat) (M N : gM) : Prop := ∀ k, k < ng → ∃ x, x ≤ 9 ∧ M (ld + 6) k = nI x ∧ N 419 (4 * sd + k) = nI x
def DDe (ld sd ne : Nat) (M N : gM) : Prop := ∀ k, k < ne → (∃ x, x ≤ 2 ∧ M (ld + 7) k = nI x ∧ N 421 (6 * sd + k) = nI x) ∧ ∃ x, x ≤ 99 ∧ M (ld + 8) k = nI x ∧ N 422 (6 * sd + k) = nI x
def DSe (ld sd : Nat) (M N : gM) : Prop := ∃ x, x ≤ 9999 ∧ M ld 4 = nI x ∧ N 423 sd = nI x
theorem DFo.keep {ld sd nf : Nat} {M N M' N' : gM} (h : DFo ld sd nf M N) (h1 : ∀ c j, ld + 1 ≤ c → c ≤ ld + 3 → M' c j = M c j) (h2 : ∀ c j, 412 ≤ c → c ≤ 414 → N' c j = N c j) : DFo ld sd nf M' N' := fun k hk => by
  rw [h1 _ _ (by omega) (by omega), h1 _ _ (by omega) (by omega), h2 _ _ (by omega) (by omega), h2 _ _ (by omega) (by omega)]
  refine ⟨(h k hk).1, (h k hk).2.1, fun j hj => ?_⟩
  rw [h1 _ _ (by omega) (by omega), h2 _ _ (by omega) (by omega)]
  exact (h k hk).2.2 j hj
theorem DDi.keep {ld sd nd nf nf' : Nat} {M N M' N' : gM} (h : DDi ld sd nd nf M N) (hf : nf ≤ nf') (h1 : ∀ c j, ld + 4 ≤ c → c ≤ ld + 5 → M' c j = M c j) (h2 : ∀ c j, 416 ≤ c → c ≤ 417 → N' c j = N c j) : DDi ld sd nd nf' M' N' := by
  refine ⟨fun k hk => ?_, fun j hj hj2 => by rw [h1 _ _ (by omega) (by omega)]; exact h.2 j hj hj2⟩
  obtain ⟨a1, A, a2, a3, a4⟩ := h.1 k hk
  rw [h1 _ _ (by omega) (by omega), h2 _ _ (by omega) (by omega)]
  refine ⟨a1, A, fun f hf6 => ?_, a3, a4⟩
  rw [h1 _ _ (by omega) (by omega), h2 _ _ (by omega) (by omega)]
  exact ⟨(a2 f hf6).1, (a2 f hf6).2.1, fun q => Nat.lt_of_lt_of_le ((a2 f hf6).2.2 q) hf⟩
theorem DGu.keep {ld sd ng : Nat} {M N M' N' : gM} (h : DGu ld sd ng M N) (h1 : ∀ j, M' (ld + 6) j = M (ld + 6) j) (h2 : ∀ j, N' 419 j = N 419 j) : DGu ld sd ng M' N' := fun k hk => by rw [h1, h2]; exact h k hk
theorem DDe.keep {ld sd ne : Nat} {M N M' N' : gM} (h : DDe ld sd ne M N) (h1 : ∀ c j, ld + 7 ≤ c → c ≤ ld + 8 → M' c j = M c j) (h2 : ∀ c j, 421 ≤ c → c ≤ 422 → N' c j = N c j) : DDe ld sd ne M' N' := fun k hk => by
  rw [h1 _ _ (by omega) (by omega), h1 _ _ (by omega) (by omega), h2 _ _ (by omega) (by omega), h2 _ _ (by omega) (by omega)]
  exact h k hk
theorem DSe.keep {ld sd : Nat} {M N M' N' : gM} (h : DSe ld sd M N) (h1 : M' ld 4 = M ld 4) (h2 : N' 423 sd = N 423 sd) : DSe ld sd M' N' := by unfold DSe; rw [h1, h2]; exact h
def Dat (ld sd nf nd ng ne : Nat) (M N : gM) : Prop := DFo ld sd nf M N ∧ DDi ld sd nd nf M N ∧ DGu ld sd ng M N ∧ DDe ld sd ne M N ∧ DSe ld sd M N
def LawU (W sd w c i : Nat) (M N : gM) : Prop := (M W 1 = nI 0 ∧ N 424 (4 * sd + w) = nI 0 ∧ N 425 (4 * sd + w) = nI 0) ∨ LawR W sd w c i M N
def Lws (ld sd c i : Nat) (M N : gM) : Prop := ∀ w, w < 4 → LawU (ld + 9 + 4 * w) sd w c i M N
theorem Lws.keep {ld sd c i : Nat} {M N M' N' : gM} (h : Lws ld sd c i M N) (h1 : ∀ cc j, ld + 9 ≤ cc → cc ≤ ld + 25 → M' cc j = M cc j) (h2 : ∀ cc j, 424 ≤ cc → cc ≤ 432 → N' cc j = N cc j) : Lws ld sd c i M' N' := fun w hw => by
  rcases h w hw with ⟨a1, a2, a3⟩ | h
  · exact Or.inl ⟨by rw [h1 _ _ (by omega) (by omega)]; exact a1, by rw [h2 _ _ (by omega) (by omega)]; exact a2, by rw [h2 _ _ (by omega) (by omega)]; exact a3⟩
  · exact Or.inr (h.keep (Nat.le_refl _) (Nat.le_refl _) (h1 _ _ (by omega) (by omega)) (fun j => h1 _ _ (by omega) (by omega)) (fun j _ _ => ⟨h2 _ _ (by omega) (by omega), h2 _ _ (by omega) (by omega)⟩) (fun cc j x y _ _ => h2 _ _ (by omega) (by omega)) (h2 _ _ (by omega) (by omega)) (h2 _ _ (by omega) (by omega)))
def RS (b : Nat → Nat) (n m ld sd t nf nd ng ne : Nat) (l : Nat → List Nat) (a : Nat → Int32) (c i : Nat) (M : gM) (L : gL) (N : gM) (K : gL) : Prop := IS b n m t M L N K ∧ (N 401 19 = nI sd ∧ N 401 12 = 0 ∧ N 401 44 = nI c ∧ N 401 38 = nI i ∧ (420 * sd ≤ c ∧ c ≤ t + 420 * sd) ∧ (130 * sd ≤ i ∧ 4 * i ≤ t + 520 * sd)) ∧ Cnts ld sd nf nd ng ne M N ∧ Mn (nf + nd + ng + ne) l a N K ∧ Av nf (nf + nd + ng + ne) a ∧ (M 3 4 = 0 → Cn (nf + nd + ng + ne) l a M L ∧ Un (nf + nd + ng + ne) l ∧ Dat ld sd nf nd ng ne M N) ∧ Lws ld sd c i M N
/-- what the model's tells may change -/
def mT (sd c j : Nat) : Prop := (c = 401 ∧ ((11 ≤ j ∧ j ≤ 16) ∨ j = 20 ∨ j = 38 ∨ j = 44 ∨ j = 48)) ∨ c = 410 ∨ c = 433 ∨ ((c = 411 ∨ c = 415 ∨ c = 418 ∨ c = 420 ∨ c = 423) ∧ j = sd) ∨ ((c = 412 ∨ c = 413 ∨ c = 421 ∨ c = 422) ∧ 6 * sd ≤ j ∧ j < 6 * sd + 6) ∨ (c = 414 ∧ 18 * sd ≤ j ∧ j < 18 * sd + 18) ∨ (c = 416 ∧ 5 * sd ≤ j ∧ j < 5 * sd + 5) ∨ (c = 417 ∧ 30 * sd ≤ j ∧ j < 30 * sd + 30) ∨ ((c = 419 ∨ c = 424 ∨ c = 425) ∧ 4 * sd ≤ j ∧ j < 4 * sd + 4) ∨ ((426 ≤ c ∧ c ≤ 430) ∧ 130 * sd ≤ j ∧ j < 130 * sd + 130) ∨ ((c = 431 ∨ c = 432) ∧ 420 * sd ≤ j ∧ j < 420 * sd + 420)
theorem mS_mT {sd : Nat} : ∀ c j, mS c j → mT sd c j := fun c j h => Or.inl ⟨h.1, by have := h.2; omega⟩
theorem mI_mT {sd : Nat} : ∀ c j, mI c j → mT sd c j := fun c j h => Or.inl ⟨h.1, by have := h.2; omega⟩
def ItO (b : Nat → Nat) (n m ld sd t : Nat) (N : gM) (K : gL) (M' : gM) (L' : gL) (N' : gM) (K' : gL) : Prop := ((∃ t' nf nd ng ne l a c i, t + 1 ≤ t' ∧ RS b n m ld sd t' nf nd ng ne l a c i M' L' N' K') ∨ (Dd b n m M' N' ∧ Mcnt sd N')) ∧ Eo (mT sd) N N' ∧ (∀ c j, c ≠ 409 → K' c j = K c j)
theorem Mcnt.keep {sd : Nat} {N N' : gM} (h : Mcnt sd N) (h1 : ∀ c, c = 411 ∨ c = 415 ∨ c = 418 ∨ c = 420 → N' c sd = N c sd) : Mcnt sd N' := by
  unfold Mcnt
  rw [h1 411 (by omega), h1 415 (by omega), h1 418 (by omega), h1 420 (by omega)]
  exact h
theorem Cnts.mc {ld sd nf nd ng ne : Nat} {M N : gM} (h : Cnts ld sd nf nd ng ne M N) : Mcnt sd N := ⟨⟨_, h.1.2.1, h.1.2.2⟩, ⟨_, h.2.1.2.1, h.2.1.2.2⟩, ⟨_, h.2.2.1.2.1, h.2.2.1.2.2⟩, ⟨_, h.2.2.2.2.1, h.2.2.2.2.2⟩⟩
theorem Cn.keep {nc : Nat} {l : Nat → List Nat} {a : Nat → Int32} {M M' : gM} {L L' : gL} (h : Cn nc l a M L) (h1 : M' 3 8 = M 3 8) (h2 : ∀ j, M' 10 j = M 10 j) (h3 : ∀ j, L' 9 j = L 9 j) : Cn nc l a M' L' := ⟨h1.trans h.1, fun k hk => ⟨(h.2 k hk).1, (h3 k).trans (h.2 k hk).2.1, (h2 k).trans (h.2 k hk).2.2⟩⟩
theorem Mn.keep {nc : Nat} {l : Nat → List Nat} {a : Nat → Int32} {N N' : gM} {K : gL} (h : Mn nc l a N K) (h1 : N' 401 20 = N 401 20) (h2 : ∀ j, N' 410 j = N 410 j) : Mn nc l a N' K := ⟨h1.trans h.1, fun k hk => ⟨(h.2 k hk).1, (h.2 k hk).2.1, (h2 k).trans (h.2 k hk).2.2⟩⟩
theorem Un.add {nc : Nat} {l : Nat → List Nat} {w : List Nat} (h : Un nc l) (hw : ∀ k, k < nc → l k ≠ w) : Un (nc + 1) (fun k => if k = nc then w else l k) := by
  intro i j hi hj e
  dsimp only at e
  by_cases h1 : i = nc
  · by_cases h2 : j = nc
    · rw [h1, h2]
    · rw [if_pos h1, if_neg h2] at e
      exact absurd e.symm (hw j (by omega))
  · by_cases h2 : j = nc
    · rw [if_neg h1, if_pos h2] at e
      exact absurd e (hw i (by omega))
    · rw [if_neg h1, if_neg h2] at e
      exact h i j (by omega) (by omega) e
theorem Av.add {nf nf' nc : Nat} {a : Nat → Int32} {x : Int32} (h : Av nf nc a) (hf : nf ≤ nf') (hx : x = -1 ∨ ∃ f, f < nf' ∧ x = nI f) : Av nf' (nc + 1) (fun k => if k = nc then x else a k) := by
  intro k hk
  dsimp only
  by_cases h1 : k = nc
  · rw [if_pos h1]; exact hx
  · rw [if_neg h1]
    rcases h k (by omega) with q | ⟨f, q1, q2⟩
    · exact Or.inl q
    · exact Or.inr ⟨f, by omega, q2⟩
theorem q_room {k c0 t : Nat} {N : gM} {x y : Int32} (hx : x = nI k) (hy : y = nI c0) (hk : k < 2 ^ 31) (hc : c0 < 2 ^ 31) (hf : N 401 13 = 0) : F_Mod_roomFor x y N = if k = c0 then bI (F_Mod_fail 2 N) (fun M6 => J_Mod_roomFor_10 M6) else bI (F_Mod_goesOn N) (fun M4 => some M4) := by
  unfold F_Mod_roomFor
  rw [hx, hy]
  by_cases h : k = c0
  · rw [if_pos (by rw [h]), if_pos h]
  · rw [if_neg (fun q => h ((nI_eq hk hc).mp q)), if_neg h]
    unfold J_Mod_roomFor_10
    rw [hf, if_pos rfl]
/-- the model's part of tells whose room is out -/
theorem q_roomD {N1 : gM} {k : Nat} (hf : N1 401 13 = nI k) (hk : k = 1 ∨ k = 2) : J_Mod_roomFor_10 N1 = some N1 := by
  unfold J_Mod_roomFor_10
  rw [if_neg (by rw [hf]; exact nI_ne0 (by omega) (by omega))]
end PAR9
end MG12x3
section MG12x4
/-! guests, deeds, the seed -/
section PAR10
variable {b : Nat → Nat} {n m : Nat}
theorem c_guestD {ld ng : Nat} {M N : gM} {L : gL} (hld : 12 ≤ ld) (hng : ng < 4) (hd : Dd b n m M N) : ∃ M' L', (bI2 (F_Reader_takeNewName (-1) M L) (fun M6 L7 => bI2 (F_Reader_takeInt 9 M6 L7) (fun r9 M10 => bI (F_Main_put (ld + 6) 4 (nI ng) r9 M10) (fun M12 => bI (F_Reader_need 59 M12) (fun M14 => nmM (uM M14 ld 2 (nI ng + 1)) (fun M15 => some (M15, L7))))))) = some (M', L') ∧ Dd b n m M' N := by
  obtain ⟨M1, L1, e1, h1⟩ := tq_Reader_takeNewName (p1 := -1) (M := M) (L := L)
  obtain ⟨r, M2, e2, -, h2⟩ := tq_Reader_takeInt (p1 := 9) (M := M1) (L := L1)
  obtain ⟨M4, e4, h4⟩ := tq_Reader_need (p1 := 59) (M := uM M2 (ld + 6) ng r) (L := L1)
  rw [e1, bI2_s, e2, bI2_s, s_put hng (by decide), bI_s, e4, bI_s, nmM_e]
  exact ⟨_, _, rfl, ((((hd.cl h1).cl h2).put1 (by omega)).cl h4).put1 hld⟩
theorem t_guest {ld sd t nf nd ng ne c i : Nat} {l : Nat → List Nat} {a : Nat → Int32} {M N : gM} {L K : gL} (hld : isLa ld) (hsd : sd ≤ 1) (hR : RS b n m ld sd t nf nd ng ne l a c i M L N K) (hk : tkK b n t = 130) :
    ∃ M' L' N' K', F_Reader_takeGuest ld M L = some (M', L') ∧ F_Mod_tellOne N K = some (N', K') ∧ ItO b n m ld sd t N K M' L' N' K' := by
  have h12 := La_12 hld
  obtain ⟨hI, ⟨h19, h12', h44, h38, hc, hi⟩, hCt, hMn, hAv, hDat, hLw⟩ := id hR
  have hm := hI.1.m400
  have htm := hI.2.1.2.2.2.2
  obtain ⟨⟨cf1, cf2, cf3⟩, ⟨cd1, cd2, cd3⟩, ⟨cg1, cg2, cg3⟩, ⟨ce1, ce2, ce3⟩⟩ := id hCt
  unfold F_Reader_takeGuest F_Mod_tellOne
  rw [cg1, nmI_e, hI.2.1.2.2.1, if_neg (nI_in (by omega) (by decide)), nI_clamp (by omega), (hI.1.2.2.1 t (by omega)).1, hk, if_neg (show ¬ nI (phi 130) = 20 by decide), if_neg (show ¬ nI (phi 130) = 21 by decide), if_pos (show nI (phi 130) = 22 by decide), h19, if_neg (nI_in (by omega) (by decide)), nI_clamp (by omega), cg2, q_room (k := ng) (c0 := 4) (t := 0) (x := nI ng) (y := 4) rfl rfl (by omega) (by decide) hI.2.1.2.2.2.1]
  by_cases h4 : ng = 4
  · rw [if_neg (show ¬ nI ng < 4 by rw [h4]; decide), if_pos h4]
    obtain ⟨M1, N1, q1, q2, q3, q4⟩ := p_fail (k := 2) (kk := 2) rfl (Or.inr rfl) (Or.inl ⟨hI.1, hI.2.1⟩)
    obtain ⟨k2, ft, u, a1, a2, a3, a4, a5, a6, a7, a8⟩ := id q3
    rw [q1, bI_s, q2, bI_s, q_roomD a5 a1, bI_s, if_neg (by rw [a5]; exact nI_nle (by omega) (by omega))]
    exact ⟨M1, L, N1, K, rfl, rfl, Or.inr ⟨q3, hCt.mc.keep (fun c hc => q4 c sd (by unfold mS; omega))⟩, q4.mono mS_mT, fun _ _ _ => rfl⟩
  · rw [if_pos (show nI ng < 4 by rw [show (4 : Int32) = nI 4 from rfl, nI_ltI (by omega) (by omega)]; omega), if_neg h4]
    obtain ⟨M1, N1, q1, q2, q3, q4⟩ := i_take hI (by omega) (by omega)
    rw [q1, bI_s, q2, bI_s, bI_s]
    rcases q3 with ⟨b1, b2⟩ | q3
    · rw [if_pos (by rw [b1.2.1.2.2.2.1]; decide)]
      -- the name
      obtain ⟨M2, L2, r2, N2, g1, g2, g3, g4⟩ := i_name (nc := nf + nd + ng + ne) (l := l) (a := a) (fc := -1) (by omega) (Or.inl ⟨b1, hMn.keep (q4 401 20 (by unfold mS; omega)) (fun j => q4 410 j (by unfold mS; omega)), fun q => (hDat (by rw [← b2 3 4 (by unfold cS; omega)]; exact q)).1.keep (b2 3 8 (by unfold cS; omega)) (fun j => b2 10 j (by unfold cS; omega)) (fun _ => rfl)⟩)
      have n19 : N2 401 19 = nI sd := by rw [g4 401 19 (by unfold mI; omega), q4 401 19 (by unfold mS; omega)]; exact h19
      have n18 : N2 418 sd = nI ng := by rw [g4 418 sd (by unfold mI; omega), q4 418 sd (by unfold mS; omega)]; exact cg2
      have ew : (4 : Int32) * nI sd + nI ng = nI (4 * sd + ng) := by rw [show (4 : Int32) = nI 4 from rfl, nI_mul, nI_add]
      rw [g1, bI2_s, g2, bI2_s, n19, if_neg (nI_in (by omega) (by decide)), nI_clamp (by omega), n18, ew]
      -- the palate
      obtain ⟨r3, M3, r3', N3, g5, g6, g7, g8⟩ := i_int (mo := 9) (kk := 9) (t := t + 2) rfl (by decide) (g3.imp (fun q => q.1) id)
      rw [g5, bI2_s, g6, bI2_s, nI_clamp (by omega), if_neg (nI_inc (by omega) (by omega)), nmM_e, s_put (by omega) (by decide), bI_s]
      -- the end
      have n8 : Eo mI N1 N3 := g4.tr g8
      obtain ⟨M4, N4, K4, g9, g10, g11, g12, g13⟩ := i_ends (t := t + 3) (t0 := t + 1) (nc := nf + nd + ng + ne) (l := l) (a := a) (fc := -1) (r0 := r2) (M := uM M3 (ld + 6) ng r3) (N := uM N3 419 (4 * sd + ng) r3') (L := L2) (K := K) (by omega) (fun hI3 => by
        have hI3' : IS b n m (t + 3) M3 L2 N3 K := by
          rcases g7 with g7 | g7
          · exact g7.1
          · exact absurd (g7.put (by omega) (by omega)) hI3.nd
        have hI2 := (g7.resolve_right hI3'.nd).2.1
        obtain ⟨y1, y2, y3, y4, y5, y6, y7⟩ := g3.resolve_right hI2.nd
        obtain ⟨v1, v2, v3⟩ := tkV_name y3
        refine ⟨y4, by have := hI2.2.1.2.2.2.2; omega, y3, ⟨v2, v3⟩, (hI2.1.2.2.1 (t + 1) (by have := hI2.2.1.2.2.2.2; omega)).2.2.2 y3, hMn.keep ?_ (fun j => ?_)⟩
        · rw [uM_diff (by omega), n8 401 20 (by unfold mI; omega), q4 401 20 (by unfold mS; omega)]
        · rw [uM_diff (by omega), n8 410 j (by unfold mI; omega), q4 410 j (by unfold mS; omega)]) (O_put (g7.imp (fun q => q.1) id) (by omega) (by omega))
      rw [g9, bI_s, g10, bI2_s, nmM_e]
      have hNT : Eo (mT sd) N N4 := by
        have e1 : Eo (mT sd) N N1 := q4.mono mS_mT
        have e2 : Eo (mT sd) N1 N3 := n8.mono mI_mT
        have e3 : Eo (mT sd) N3 (uM N3 419 (4 * sd + ng) r3') := Eo.rf.u (by unfold mT; right; right; right; right; right; right; right; right; left; omega)
        have e4 : Eo (mT sd) (uM N3 419 (4 * sd + ng) r3') N4 := g12.mono (fun c j q => by
          rcases q with q | q | q
          · exact mS_mT c j q
          · exact Or.inr (Or.inl q)
          · exact Or.inl ⟨q.1, by omega⟩)
        exact ((e1.tr e2).tr e3).tr e4
      have n44 : ∀ c, 411 ≤ c → c ≠ 419 → ∀ j, N4 c j = N c j := fun c h1 h2 j => by
        rw [g12 c j (by unfold mS; omega), uM_diff (by omega), n8 c j (by unfold mI; omega), q4 c j (by unfold mS; omega)]
      rcases g11 with ⟨z1, z2, z3, z4⟩ | ⟨g11, g14⟩
      · have n4s : N4 401 19 = nI sd := by rw [g12 401 19 (by unfold mS; omega), uM_diff (by omega), g8 401 19 (by unfold mI; omega)]; exact n19
        rw [if_pos z1.2.1.2.2.2.1, n4s, if_neg (nI_in (by omega) (by decide)), nI_clamp (by omega), if_neg (nI_inc (by omega) (by omega)), nmM_e, n44 418 (by omega) (by omega), cg2, nI_1]
        refine ⟨_, _, _, _, rfl, rfl, Or.inl ⟨t + 4, nf, nd, ng + 1, ne, (fun k => if k = nf + nd + ng + ne then tokL b n (tkF b n (t + 1)) else l k), (fun k => if k = nf + nd + ng + ne then -1 else a k), c, i, by omega, ?_⟩, hNT.tr (Eo.rf.u (by unfold mT; right; right; right; left; omega)), g13⟩
        have hI3' : IS b n m (t + 3) M3 L2 N3 K := by
          rcases g7 with g7 | g7
          · exact g7.1
          · exact absurd (g7.put (by omega) (by omega)) z2.nd
        obtain ⟨w1, w2, ⟨v, w3, w4, w5⟩, w6⟩ := g7.resolve_right hI3'.nd
        obtain ⟨y1, y2, y3, y4, y5, y6, y7⟩ := g3.resolve_right w2.nd
        have hnc : nf + nd + (ng + 1) + ne = nf + nd + ng + ne + 1 := by omega
        have hMM : ∀ cc j, 12 ≤ cc → cc ≠ ld + 6 → ¬ (cc = ld ∧ j = 2) → uM M4 ld 2 (nI (ng + 1)) cc j = M cc j := fun cc j x1 x2 x3 => by
          rw [uM_diff x3, z3 cc j (by unfold cS; omega), uM_diff (by omega), w6 cc j (by unfold cI; omega), y6 cc j (by unfold cN; omega), b2 cc j (by unfold cS; omega)]
        have hNN : ∀ cc, 411 ≤ cc → cc ≠ 419 → ∀ j, ¬ (cc = 418 ∧ j = sd) → uM N4 418 sd (nI (ng + 1)) cc j = N cc j := fun cc x1 x2 j x3 => by rw [uM_diff x3, n44 cc x1 x2 j]
        have hN1 : ∀ j, j ≠ 11 → j ≠ 13 → j ≠ 14 → j ≠ 15 → j ≠ 16 → j ≠ 20 → N4 401 j = N 401 j := fun j a1 a2 a3 a4 a5 a6 => by
          rw [g12 401 j (by unfold mS; omega), uM_diff (by omega), n8 401 j (by unfold mI; omega), q4 401 j (by unfold mS; omega)]
        refine ⟨?_, ⟨?_, ?_, ?_, ?_, by omega, by omega⟩, ⟨⟨?_, ?_, cf3⟩, ⟨?_, ?_, cd3⟩, ⟨uM_same, uM_same, by omega⟩, ⟨?_, ?_, ce3⟩⟩, ?_, ?_, fun q => ?_, ?_⟩
        · exact z1.put (by omega) (by omega)
        · rw [uM_diff (by omega)]; exact n4s
        · rw [uM_diff (by omega), hN1 12 (by omega) (by omega) (by omega) (by omega) (by omega) (by omega)]; exact h12'
        · rw [uM_diff (by omega), hN1 44 (by omega) (by omega) (by omega) (by omega) (by omega) (by omega)]; exact h44
        · rw [uM_diff (by omega), hN1 38 (by omega) (by omega) (by omega) (by omega) (by omega) (by omega)]; exact h38
        · rw [hMM ld 0 (by omega) (by omega) (by omega)]; exact cf1
        · rw [hNN 411 (by omega) (by omega) sd (by omega)]; exact cf2
        · rw [hMM ld 1 (by omega) (by omega) (by omega)]; exact cd1
        · rw [hNN 415 (by omega) (by omega) sd (by omega)]; exact cd2
        · rw [hMM ld 3 (by omega) (by omega) (by omega)]; exact ce1
        · rw [hNN 420 (by omega) (by omega) sd (by omega)]; exact ce2
        · rw [hnc]; exact z4.keep (uM_diff (by omega)) (fun j => uM_diff (by omega))
        · rw [hnc]; exact hAv.add (Nat.le_refl _) (Or.inl rfl)
        · rw [uM_diff (by omega), z3 3 4 (by unfold cS; omega), uM_diff (by omega)] at q
          obtain ⟨u1, u2⟩ := w5 q
          obtain ⟨u3, u4, u5⟩ := y5 u1
          obtain ⟨d1, d2, d3, d4, d5, d6, d7⟩ := hDat (by rw [← b2 3 4 (by unfold cS; omega)]; exact u3)
          refine ⟨?_, ?_, d3.keep (fun cc j x1 x2 => hMM cc j (by omega) (by omega) (by omega)) (fun cc j x1 x2 => hNN cc (by omega) (by omega) j (by omega)), d4.keep (Nat.le_refl _) (fun cc j x1 x2 => hMM cc j (by omega) (by omega) (by omega)) (fun cc j x1 x2 => hNN cc (by omega) (by omega) j (by omega)), fun k hk => ?_, d6.keep (fun cc j x1 x2 => hMM cc j (by omega) (by omega) (by omega)) (fun cc j x1 x2 => hNN cc (by omega) (by omega) j (by omega)), d7.keep (hMM ld 4 (by omega) (by omega) (by omega)) (hNN 423 (by omega) (by omega) sd (by omega))⟩
          · rw [hnc]
            exact u5.keep (by rw [uM_diff (by omega), z3 3 8 (by unfold cS; omega), uM_diff (by omega), w6 3 8 (by unfold cI; omega)]) (fun j => by rw [uM_diff (by omega), z3 10 j (by unfold cS; omega), uM_diff (by omega), w6 10 j (by unfold cI; omega)]) (fun _ => rfl)
          · rw [hnc]; exact d2.add u4
          · rw [uM_diff (by omega), z3 (ld + 6) k (by unfold cS; omega), show uM N4 418 sd (nI (ng + 1)) 419 (4 * sd + k) = N4 419 (4 * sd + k) from uM_diff (by omega), g12 419 _ (by unfold mS; omega)]
            by_cases hkn : k = ng
            · rw [hkn, uM_same, uM_same]
              exact ⟨v, u2, w3, w4⟩
            · rw [uM_diff (by omega), uM_diff (by omega), w6 (ld + 6) k (by unfold cI; omega), y6 (ld + 6) k (by unfold cN; omega), b2 (ld + 6) k (by unfold cS; omega), n8 419 _ (by unfold mI; omega), q4 419 _ (by unfold mS; omega)]
              exact d5 k (by omega)
        · exact hLw.keep (fun cc j x1 x2 => hMM cc j (by omega) (by omega) (by omega)) (fun cc j x1 x2 => hNN cc (by omega) (by omega) j (by omega))
      · rw [if_neg g11.nf.1]
        exact ⟨_, _, N4, K4, rfl, rfl, Or.inr ⟨g11.put1 (by omega), hCt.mc.keep (fun c hc => n44 c (by omega) (by omega) sd)⟩, hNT, g13⟩
    · obtain ⟨k2, ft, u, a1, a2, a3, a4, a5, a6, a7, a8⟩ := id q3
      rw [if_neg (by rw [a5]; exact nI_nle (by omega) (by omega))]
      obtain ⟨M', L', e1, e2⟩ := c_guestD (L := L) (ld := ld) (ng := ng) h12 (by omega) q3
      rw [e1]
      exact ⟨M', L', N1, K, rfl, rfl, Or.inr ⟨e2, hCt.mc.keep (fun c hc => q4 c sd (by unfold mS; omega))⟩, q4.mono mS_mT, fun _ _ _ => rfl⟩
end PAR10
end MG12x4
section MG12x5
/-! deeds, the seed -/
section PAR11
variable {b : Nat → Nat} {n m : Nat}
theorem c_deedD {ld ne : Nat} {M N : gM} {L : gL} (hld : 12 ≤ ld) (hne : ne < 6) (hd : Dd b n m M N) : ∃ M' L', (bI2 (F_Reader_takeNewName (-1) M L) (fun M6 L7 => bI2 (F_Reader_takeInt 2 M6 L7) (fun r9 M10 => bI (F_Main_put (ld + 7) 6 (nI ne) r9 M10) (fun M12 => bI2 (F_Reader_takeInt 99 M12 L7) (fun r14 M15 => bI (F_Main_put (ld + 8) 6 (nI ne) r14 M15) (fun M17 => bI (F_Reader_need 59 M17) (fun M19 => nmM (uM M19 ld 3 (nI ne + 1)) (fun M20 => some (M20, L7))))))))) = some (M', L') ∧ Dd b n m M' N := by
  obtain ⟨M1, L1, e1, h1⟩ := tq_Reader_takeNewName (p1 := -1) (M := M) (L := L)
  obtain ⟨r, M2, e2, -, h2⟩ := tq_Reader_takeInt (p1 := 2) (M := M1) (L := L1)
  obtain ⟨r', M3, e3, -, h3⟩ := tq_Reader_takeInt (p1 := 99) (M := uM M2 (ld + 7) ne r) (L := L1)
  obtain ⟨M4, e4, h4⟩ := tq_Reader_need (p1 := 59) (M := uM M3 (ld + 8) ne r') (L := L1)
  rw [e1, bI2_s, e2, bI2_s, s_put hne (by decide), bI_s, e3, bI2_s, s_put hne (by decide), bI_s, e4, bI_s, nmM_e]
  exact ⟨_, _, rfl, ((((((hd.cl h1).cl h2).put1 (by omega)).cl h3).put1 (by omega)).cl h4).put1 hld⟩
theorem t_deed {ld sd t nf nd ng ne c i : Nat} {l : Nat → List Nat} {a : Nat → Int32} {M N : gM} {L K : gL} (hld : isLa ld) (hsd : sd ≤ 1) (hR : RS b n m ld sd t nf nd ng ne l a c i M L N K) (hk : tkK b n t = 131) :
    ∃ M' L' N' K', F_Reader_takeDeed ld M L = some (M', L') ∧ F_Mod_tellOne N K = some (N', K') ∧ ItO b n m ld sd t N K M' L' N' K' := by
  have h12 := La_12 hld
  obtain ⟨hI, ⟨h19, h12', h44, h38, hc, hi⟩, hCt, hMn, hAv, hDat, hLw⟩ := id hR
  have hm := hI.1.m400
  have htm := hI.2.1.2.2.2.2
  obtain ⟨⟨cf1, cf2, cf3⟩, ⟨cd1, cd2, cd3⟩, ⟨cg1, cg2, cg3⟩, ⟨ce1, ce2, ce3⟩⟩ := id hCt
  unfold F_Reader_takeDeed F_Mod_tellOne
  rw [ce1, nmI_e, hI.2.1.2.2.1, if_neg (nI_in (by omega) (by decide)), nI_clamp (by omega), (hI.1.2.2.1 t (by omega)).1, hk, if_neg (show ¬ nI (phi 131) = 20 by decide), if_neg (show ¬ nI (phi 131) = 21 by decide), if_neg (show ¬ nI (phi 131) = 22 by decide), if_pos (show nI (phi 131) = 23 by decide), h19, if_neg (nI_in (by omega) (by decide)), nI_clamp (by omega), ce2, q_room (k := ne) (c0 := 6) (t := 0) (x := nI ne) (y := 6) rfl rfl (by omega) (by decide) hI.2.1.2.2.2.1]
  by_cases h4 : ne = 6
  · rw [if_neg (show ¬ nI ne < 6 by rw [h4]; decide), if_pos h4]
    obtain ⟨M1, N1, q1, q2, q3, q4⟩ := p_fail (k := 2) (kk := 2) rfl (Or.inr rfl) (Or.inl ⟨hI.1, hI.2.1⟩)
    obtain ⟨k2, ft, u, a1, a2, a3, a4, a5, a6, a7, a8⟩ := id q3
    rw [q1, bI_s, q2, bI_s, q_roomD a5 a1, bI_s, if_neg (by rw [a5]; exact nI_nle (by omega) (by omega))]
    exact ⟨M1, L, N1, K, rfl, rfl, Or.inr ⟨q3, hCt.mc.keep (fun c hc => q4 c sd (by unfold mS; omega))⟩, q4.mono mS_mT, fun _ _ _ => rfl⟩
  · rw [if_pos (show nI ne < 6 by rw [show (6 : Int32) = nI 6 from rfl, nI_ltI (by omega) (by omega)]; omega), if_neg h4]
    obtain ⟨M1, N1, q1, q2, q3, q4⟩ := i_take hI (by omega) (by omega)
    rw [q1, bI_s, q2, bI_s, bI_s]
    rcases q3 with ⟨b1, b2⟩ | q3
    · rw [if_pos (by rw [b1.2.1.2.2.2.1]; decide)]
      -- the name
      obtain ⟨M2, L2, r2, N2, g1, g2, g3, g4⟩ := i_name (nc := nf + nd + ng + ne) (l := l) (a := a) (fc := -1) (by omega) (Or.inl ⟨b1, hMn.keep (q4 401 20 (by unfold mS; omega)) (fun j => q4 410 j (by unfold mS; omega)), fun q => (hDat (by rw [← b2 3 4 (by unfold cS; omega)]; exact q)).1.keep (b2 3 8 (by unfold cS; omega)) (fun j => b2 10 j (by unfold cS; omega)) (fun _ => rfl)⟩)
      have n19 : N2 401 19 = nI sd := by rw [g4 401 19 (by unfold mI; omega), q4 401 19 (by unfold mS; omega)]; exact h19
      have n18 : N2 420 sd = nI ne := by rw [g4 420 sd (by unfold mI; omega), q4 420 sd (by unfold mS; omega)]; exact ce2
      have ew : (6 : Int32) * nI sd + nI ne = nI (6 * sd + ne) := by rw [show (6 : Int32) = nI 6 from rfl, nI_mul, nI_add]
      rw [g1, bI2_s, g2, bI2_s, n19, if_neg (nI_in (by omega) (by decide)), nI_clamp (by omega), n18, ew]
      -- the force
      obtain ⟨r3, M3, r3', N3, g5, g6, g7, g8⟩ := i_int (mo := 2) (kk := 2) (t := t + 2) rfl (by decide) (g3.imp (fun q => q.1) id)
      rw [g5, bI2_s, g6, bI2_s, nI_clamp (by omega), if_neg (nI_inc (by omega) (by omega)), nmM_e, s_put (by omega) (by decide), bI_s]
      have n19b : uM N3 421 (6 * sd + ne) r3' 401 19 = nI sd := by rw [uM_diff (by omega), g8 401 19 (by unfold mI; omega)]; exact n19
      have n18b : uM N3 421 (6 * sd + ne) r3' 420 sd = nI ne := by rw [uM_diff (by omega), g8 420 sd (by unfold mI; omega)]; exact n18
      have hO3 := O_put (a := ld + 7) (p := ne) (x := r3) (q := 421) (p' := 6 * sd + ne) (y := r3') (g7.imp (fun q => q.1) id) (by omega) (by omega)
      -- the limit
      obtain ⟨r5, M5, r5', N5, g5b, g6b, g7b, g8b⟩ := i_int (mo := 99) (kk := 99) (t := t + 3) rfl (by decide) hO3
      rw [n19b, if_neg (nI_in (by omega) (by decide)), nI_clamp (by omega), n18b, ew, g5b, bI2_s, g6b, bI2_s, nI_clamp (by omega), if_neg (nI_inc (by omega) (by omega)), nmM_e, s_put (by omega) (by decide), bI_s]
      have hO5 := O_put (a := ld + 8) (p := ne) (x := r5) (q := 422) (p' := 6 * sd + ne) (y := r5') (g7b.imp (fun q => q.1) id) (by omega) (by omega)
      -- what is known where the last one is live
      have back : ∀ {L' : gL}, IS b n m (t + 4) (uM M5 (ld + 8) ne r5) L' (uM N5 422 (6 * sd + ne) r5') K → IS b n m (t + 4) M5 L2 N5 K ∧ IS b n m (t + 3) M3 L2 N3 K ∧ IS b n m (t + 2) M2 L2 N2 K := by
        intro L' h5
        have a1 : IS b n m (t + 4) M5 L2 N5 K := by
          rcases g7b with g | g
          · exact g.1
          · exact absurd (g.put (by omega) (by omega)) h5.nd
        have a2 := (g7b.resolve_right a1.nd).2.1
        have a3 : IS b n m (t + 3) M3 L2 N3 K := by
          rcases g7 with g | g
          · exact g.1
          · exact absurd (g.put (by omega) (by omega)) a2.nd
        exact ⟨a1, a3, (g7.resolve_right a3.nd).2.1⟩
      -- the end
      have n8 : Eo mI N1 N3 := g4.tr g8
      obtain ⟨M4, N4, K4, g9, g10, g11, g12, g13⟩ := i_ends (t := t + 4) (t0 := t + 1) (nc := nf + nd + ng + ne) (l := l) (a := a) (fc := -1) (r0 := r2) (M := uM M5 (ld + 8) ne r5) (N := uM N5 422 (6 * sd + ne) r5') (L := L2) (K := K) (by omega) (fun hI3 => by
        have hI2 := (back hI3).2.2
        obtain ⟨y1, y2, y3, y4, y5, y6, y7⟩ := g3.resolve_right hI2.nd
        obtain ⟨v1, v2, v3⟩ := tkV_name y3
        refine ⟨y4, by have := hI2.2.1.2.2.2.2; omega, y3, ⟨v2, v3⟩, (hI2.1.2.2.1 (t + 1) (by have := hI2.2.1.2.2.2.2; omega)).2.2.2 y3, hMn.keep ?_ (fun j => ?_)⟩
        · rw [uM_diff (by omega), g8b 401 20 (by unfold mI; omega), uM_diff (by omega), n8 401 20 (by unfold mI; omega), q4 401 20 (by unfold mS; omega)]
        · rw [uM_diff (by omega), g8b 410 j (by unfold mI; omega), uM_diff (by omega), n8 410 j (by unfold mI; omega), q4 410 j (by unfold mS; omega)]) hO5
      rw [g9, bI_s, g10, bI2_s, nmM_e]
      have hNT : Eo (mT sd) N N4 := by
        have e1 : Eo (mT sd) N N1 := q4.mono mS_mT
        have e2 : Eo (mT sd) N1 N3 := n8.mono mI_mT
        have e3 : Eo (mT sd) N3 (uM N3 421 (6 * sd + ne) r3') := Eo.rf.u (by unfold mT; right; right; right; right; left; omega)
        have e4 : Eo (mT sd) (uM N3 421 (6 * sd + ne) r3') N5 := g8b.mono mI_mT
        have e5 : Eo (mT sd) N5 (uM N5 422 (6 * sd + ne) r5') := Eo.rf.u (by unfold mT; right; right; right; right; left; omega)
        have e6 : Eo (mT sd) (uM N5 422 (6 * sd + ne) r5') N4 := g12.mono (fun c j q => by
          rcases q with q | q | q
          · exact mS_mT c j q
          · exact Or.inr (Or.inl q)
          · exact Or.inl ⟨q.1, by omega⟩)
        exact ((((e1.tr e2).tr e3).tr e4).tr e5).tr e6
      have n44 : ∀ c, 411 ≤ c → c ≠ 421 → c ≠ 422 → ∀ j, N4 c j = N c j := fun c h1 h2 h3 j => by
        rw [g12 c j (by unfold mS; omega), uM_diff (by omega), g8b c j (by unfold mI; omega), uM_diff (by omega), n8 c j (by unfold mI; omega), q4 c j (by unfold mS; omega)]
      rcases g11 with ⟨z1, z2, z3, z4⟩ | ⟨g11, g14⟩
      · have n4s : N4 401 19 = nI sd := by rw [g12 401 19 (by unfold mS; omega), uM_diff (by omega), g8b 401 19 (by unfold mI; omega)]; exact n19b
        rw [if_pos z1.2.1.2.2.2.1, n4s, if_neg (nI_in (by omega) (by decide)), nI_clamp (by omega), if_neg (nI_inc (by omega) (by omega)), nmM_e, n44 420 (by omega) (by omega) (by omega), ce2, nI_1]
        refine ⟨_, _, _, _, rfl, rfl, Or.inl ⟨t + 5, nf, nd, ng, ne + 1, (fun k => if k = nf + nd + ng + ne then tokL b n (tkF b n (t + 1)) else l k), (fun k => if k = nf + nd + ng + ne then -1 else a k), c, i, by omega, ?_⟩, hNT.tr (Eo.rf.u (by unfold mT; right; right; right; left; omega)), g13⟩
        obtain ⟨i5, i3, i2⟩ := back z2
        obtain ⟨w1b, w2b, ⟨vb, w3b, w4b, w5b⟩, w6b⟩ := g7b.resolve_right i5.nd
        obtain ⟨w1, w2, ⟨v, w3, w4, w5⟩, w6⟩ := g7.resolve_right i3.nd
        obtain ⟨y1, y2, y3, y4, y5, y6, y7⟩ := g3.resolve_right w2.nd
        have hnc : nf + nd + ng + (ne + 1) = nf + nd + ng + ne + 1 := by omega
        have hMM : ∀ cc j, 12 ≤ cc → cc ≠ ld + 7 → cc ≠ ld + 8 → ¬ (cc = ld ∧ j = 3) → uM M4 ld 3 (nI (ne + 1)) cc j = M cc j := fun cc j x1 x2 x2' x3 => by
          rw [uM_diff x3, z3 cc j (by unfold cS; omega), uM_diff (by omega), w6b cc j (by unfold cI; omega), uM_diff (by omega), w6 cc j (by unfold cI; omega), y6 cc j (by unfold cN; omega), b2 cc j (by unfold cS; omega)]
        have hNN : ∀ cc, 411 ≤ cc → cc ≠ 421 → cc ≠ 422 → ∀ j, ¬ (cc = 420 ∧ j = sd) → uM N4 420 sd (nI (ne + 1)) cc j = N cc j := fun cc x1 x2 x2' j x3 => by rw [uM_diff x3, n44 cc x1 x2 x2' j]
        have hN1 : ∀ j, j ≠ 11 → j ≠ 13 → j ≠ 14 → j ≠ 15 → j ≠ 16 → j ≠ 20 → N4 401 j = N 401 j := fun j a1 a2 a3 a4 a5 a6 => by
          rw [g12 401 j (by unfold mS; omega), uM_diff (by omega), g8b 401 j (by unfold mI; omega), uM_diff (by omega), n8 401 j (by unfold mI; omega), q4 401 j (by unfold mS; omega)]
        refine ⟨?_, ⟨?_, ?_, ?_, ?_, by omega, by omega⟩, ⟨⟨?_, ?_, cf3⟩, ⟨?_, ?_, cd3⟩, ⟨?_, ?_, cg3⟩, ⟨uM_same, uM_same, by omega⟩⟩, ?_, ?_, fun q => ?_, ?_⟩
        · exact z1.put (by omega) (by omega)
        · rw [uM_diff (by omega)]; exact n4s
        · rw [uM_diff (by omega), hN1 12 (by omega) (by omega) (by omega) (by omega) (by omega) (by omega)]; exact h12'
        · rw [uM_diff (by omega), hN1 44 (by omega) (by omega) (by omega) (by omega) (by omega) (by omega)]; exact h44
        · rw [uM_diff (by omega), hN1 38 (by omega) (by omega) (by omega) (by omega) (by omega) (by omega)]; exact h38
        · rw [hMM ld 0 (by omega) (by omega) (by omega) (by omega)]; exact cf1
        · rw [hNN 411 (by omega) (by omega) (by omega) sd (by omega)]; exact cf2
        · rw [hMM ld 1 (by omega) (by omega) (by omega) (by omega)]; exact cd1
        · rw [hNN 415 (by omega) (by omega) (by omega) sd (by omega)]; exact cd2
        · rw [hMM ld 2 (by omega) (by omega) (by omega) (by omega)]; exact cg1
        · rw [hNN 418 (by omega) (by omega) (by omega) sd (by omega)]; exact cg2
        · rw [hnc]; exact z4.keep (uM_diff (by omega)) (fun j => uM_diff (by omega))
        · rw [hnc]; exact hAv.add (Nat.le_refl _) (Or.inl rfl)
        · rw [uM_diff (by omega), z3 3 4 (by unfold cS; omega), uM_diff (by omega)] at q
          obtain ⟨u1b, u2b⟩ := w5b q
          rw [uM_diff (by omega)] at u1b
          obtain ⟨u1, u2⟩ := w5 u1b
          obtain ⟨u3, u4, u5⟩ := y5 u1
          obtain ⟨d1, d2, d3, d4, d5, d6, d7⟩ := hDat (by rw [← b2 3 4 (by unfold cS; omega)]; exact u3)
          refine ⟨?_, ?_, d3.keep (fun cc j x1 x2 => hMM cc j (by omega) (by omega) (by omega) (by omega)) (fun cc j x1 x2 => hNN cc (by omega) (by omega) (by omega) j (by omega)), d4.keep (Nat.le_refl _) (fun cc j x1 x2 => hMM cc j (by omega) (by omega) (by omega) (by omega)) (fun cc j x1 x2 => hNN cc (by omega) (by omega) (by omega) j (by omega)), d5.keep (fun j => hMM _ j (by omega) (by omega) (by omega) (by omega)) (fun j => hNN _ (by omega) (by omega) (by omega) j (by omega)), fun k hk => ?_, d7.keep (hMM ld 4 (by omega) (by omega) (by omega) (by omega)) (hNN 423 (by omega) (by omega) (by omega) sd (by omega))⟩
          · rw [hnc]
            exact u5.keep (by rw [uM_diff (by omega), z3 3 8 (by unfold cS; omega), uM_diff (by omega), w6b 3 8 (by unfold cI; omega), uM_diff (by omega), w6 3 8 (by unfold cI; omega)]) (fun j => by rw [uM_diff (by omega), z3 10 j (by unfold cS; omega), uM_diff (by omega), w6b 10 j (by unfold cI; omega), uM_diff (by omega), w6 10 j (by unfold cI; omega)]) (fun _ => rfl)
          · rw [hnc]; exact d2.add u4
          · have m7 : uM M4 ld 3 (nI (ne + 1)) (ld + 7) k = uM M3 (ld + 7) ne r3 (ld + 7) k := by rw [uM_diff (by omega), z3 (ld + 7) k (by unfold cS; omega), uM_diff (by omega), w6b (ld + 7) k (by unfold cI; omega)]
            have m8 : uM M4 ld 3 (nI (ne + 1)) (ld + 8) k = uM M5 (ld + 8) ne r5 (ld + 8) k := by rw [uM_diff (by omega), z3 (ld + 8) k (by unfold cS; omega)]
            have k1 : uM N4 420 sd (nI (ne + 1)) 421 (6 * sd + k) = uM N3 421 (6 * sd + ne) r3' 421 (6 * sd + k) := by rw [uM_diff (by omega), g12 421 _ (by unfold mS; omega), uM_diff (by omega), g8b 421 _ (by unfold mI; omega)]
            have k2 : uM N4 420 sd (nI (ne + 1)) 422 (6 * sd + k) = uM N5 422 (6 * sd + ne) r5' 422 (6 * sd + k) := by rw [uM_diff (by omega), g12 422 _ (by unfold mS; omega)]
            rw [m7, m8, k1, k2]
            by_cases hkn : k = ne
            · rw [hkn, uM_same, uM_same, uM_same, uM_same]
              exact ⟨⟨v, u2, w3, w4⟩, vb, u2b, w3b, w4b⟩
            · have o1 : uM M3 (ld + 7) ne r3 (ld + 7) k = M (ld + 7) k := by rw [uM_diff (by omega), w6 (ld + 7) k (by unfold cI; omega), y6 (ld + 7) k (by unfold cN; omega), b2 (ld + 7) k (by unfold cS; omega)]
              have o2 : uM M5 (ld + 8) ne r5 (ld + 8) k = M (ld + 8) k := by rw [uM_diff (by omega), w6b (ld + 8) k (by unfold cI; omega), uM_diff (by omega), w6 (ld + 8) k (by unfold cI; omega), y6 (ld + 8) k (by unfold cN; omega), b2 (ld + 8) k (by unfold cS; omega)]
              have o3 : uM N3 421 (6 * sd + ne) r3' 421 (6 * sd + k) = N 421 (6 * sd + k) := by rw [uM_diff (by omega), n8 421 _ (by unfold mI; omega), q4 421 _ (by unfold mS; omega)]
              have o4 : uM N5 422 (6 * sd + ne) r5' 422 (6 * sd + k) = N 422 (6 * sd + k) := by rw [uM_diff (by omega), g8b 422 _ (by unfold mI; omega), uM_diff (by omega), n8 422 _ (by unfold mI; omega), q4 422 _ (by unfold mS; omega)]
              rw [o1, o2, o3, o4]
              exact d6 k (by omega)
        · exact hLw.keep (fun cc j x1 x2 => hMM cc j (by omega) (by omega) (by omega) (by omega)) (fun cc j x1 x2 => hNN cc (by omega) (by omega) (by omega) j (by omega))
      · rw [if_neg g11.nf.1]
        exact ⟨_, _, N4, K4, rfl, rfl, Or.inr ⟨g11.put1 (by omega), hCt.mc.keep (fun c hc => n44 c (by omega) (by omega) (by omega) sd)⟩, hNT, g13⟩
    · obtain ⟨k2, ft, u, a1, a2, a3, a4, a5, a6, a7, a8⟩ := id q3
      rw [if_neg (by rw [a5]; exact nI_nle (by omega) (by omega))]
      obtain ⟨M', L', e1, e2⟩ := c_deedD (L := L) (ld := ld) (ne := ne) h12 (by omega) q3
      rw [e1]
      exact ⟨M', L', N1, K, rfl, rfl, Or.inr ⟨e2, hCt.mc.keep (fun c hc => q4 c sd (by unfold mS; omega))⟩, q4.mono mS_mT, fun _ _ _ => rfl⟩
/-- the seed: its item is read by both to its end -/
theorem t_seed {ld sd t nf nd ng ne c i : Nat} {l : Nat → List Nat} {a : Nat → Int32} {M N : gM} {L K : gL} (hld : isLa ld) (hsd : sd ≤ 1) (hR : RS b n m ld sd t nf nd ng ne l a c i M L N K) (hk : tkK b n t = 136) :
    ∃ M' N' K', F_Reader_takeSeed ld M L = some M' ∧ F_Mod_tellOne N K = some (N', K') ∧ ItO b n m ld sd t N K M' L N' K' := by
  have h12 := La_12 hld
  obtain ⟨hI, ⟨h19, h12', h44, h38, hc, hi⟩, hCt, hMn, hAv, hDat, hLw⟩ := id hR
  have hm := hI.1.m400
  have htm := hI.2.1.2.2.2.2
  obtain ⟨⟨cf1, cf2, cf3⟩, ⟨cd1, cd2, cd3⟩, ⟨cg1, cg2, cg3⟩, ⟨ce1, ce2, ce3⟩⟩ := id hCt
  unfold F_Reader_takeSeed F_Mod_tellOne
  rw [hI.2.1.2.2.1, if_neg (nI_in (by omega) (by decide)), nI_clamp (by omega), (hI.1.2.2.1 t (by omega)).1, hk, if_neg (show ¬ nI (phi 136) = 20 by decide), if_neg (show ¬ nI (phi 136) = 21 by decide), if_neg (show ¬ nI (phi 136) = 22 by decide), if_neg (show ¬ nI (phi 136) = 23 by decide), if_neg (show ¬ nI (phi 136) = 24 by decide), if_neg (show ¬ nI (phi 136) = 25 by decide), if_neg (show ¬ nI (phi 136) = 26 by decide), if_neg (show ¬ nI (phi 136) = 27 by decide), if_pos (show nI (phi 136) = 28 by decide)]
  obtain ⟨M1, N1, q1, q2, q3, q4⟩ := i_take hI (by omega) (by omega)
  obtain ⟨r2, M2, r2', N2, g5, g6, g7, g8⟩ := i_int (mo := 9999) (kk := 9999) (t := t + 1) rfl (by decide) (q3.imp (fun q => q.1) id)
  have n19 : N1 401 19 = nI sd := by rw [q4 401 19 (by unfold mS; omega)]; exact h19
  rw [q1, bI_s, q2, bI_s, g5, bI2_s, g6, bI2_s, n19, if_neg (nI_in (by omega) (by decide)), nI_clamp (by omega), nmM_e, nmM_e]
  have hO2 := O_put (a := ld) (p := 4) (x := r2) (q := 423) (p' := sd) (y := r2') (g7.imp (fun q => q.1) id) (by omega) (by omega)
  obtain ⟨M3, N3, g9, g10, g11, g12⟩ := i_need (k := 59) (kk := 59) (kq := 4) rfl rfl (Or.inr (Or.inl rfl)) (by decide) hO2
  rw [g9, bI_s, g10, bI_s]
  have hNN : ∀ cc j, ¬ mI cc j → ¬ (cc = 423 ∧ j = sd) → N3 cc j = N cc j := fun cc j x1 x2 => by
    rw [g12 cc j (fun q => x1 (mS_mI _ _ q)), uM_diff x2, g8 cc j x1, q4 cc j (fun q => x1 (mS_mI _ _ q))]
  have hNT : Eo (mT sd) N N3 := by
    have e1 : Eo (mT sd) N N1 := q4.mono mS_mT
    have e2 : Eo (mT sd) N1 N2 := g8.mono mI_mT
    have e3 : Eo (mT sd) N2 (uM N2 423 sd r2') := Eo.rf.u (by unfold mT; right; right; right; left; omega)
    exact ((e1.tr e2).tr e3).tr (g12.mono mS_mT)
  refine ⟨M3, N3, K, rfl, rfl, ?_, hNT, fun _ _ _ => rfl⟩
  rcases g11 with ⟨z1, z2, z3⟩ | g11
  · have i2 : IS b n m (t + 2) M2 L N2 K := by
      rcases g7 with g | g
      · exact g.1
      · exact absurd (g.put (by omega) (by omega)) z2.nd
    obtain ⟨w1, w2, ⟨v, w3, w4, w5⟩, w6⟩ := g7.resolve_right i2.nd
    obtain ⟨b1, b2⟩ := q3.resolve_right w2.nd
    have hMM : ∀ cc j, ¬ cI cc j → ¬ (cc = ld ∧ j = 4) → M3 cc j = M cc j := fun cc j x1 x2 => by
      rw [z3 cc j (fun q => x1 (cS_cI _ _ q)), uM_diff x2, w6 cc j x1, b2 cc j (fun q => x1 (cS_cI _ _ q))]
    refine Or.inl ⟨t + 3, nf, nd, ng, ne, l, a, c, i, by omega, z1, ⟨?_, ?_, ?_, ?_, by omega, by omega⟩, ⟨⟨?_, ?_, cf3⟩, ⟨?_, ?_, cd3⟩, ⟨?_, ?_, cg3⟩, ⟨?_, ?_, ce3⟩⟩, ?_, hAv, fun q => ?_, ?_⟩
    · rw [hNN 401 19 (by unfold mI; omega) (by omega)]; exact h19
    · rw [hNN 401 12 (by unfold mI; omega) (by omega)]; exact h12'
    · rw [hNN 401 44 (by unfold mI; omega) (by omega)]; exact h44
    · rw [hNN 401 38 (by unfold mI; omega) (by omega)]; exact h38
    · rw [hMM ld 0 (by unfold cI; omega) (by omega)]; exact cf1
    · rw [hNN 411 sd (by unfold mI; omega) (by omega)]; exact cf2
    · rw [hMM ld 1 (by unfold cI; omega) (by omega)]; exact cd1
    · rw [hNN 415 sd (by unfold mI; omega) (by omega)]; exact cd2
    · rw [hMM ld 2 (by unfold cI; omega) (by omega)]; exact cg1
    · rw [hNN 418 sd (by unfold mI; omega) (by omega)]; exact cg2
    · rw [hMM ld 3 (by unfold cI; omega) (by omega)]; exact ce1
    · rw [hNN 420 sd (by unfold mI; omega) (by omega)]; exact ce2
    · exact hMn.keep (hNN 401 20 (by unfold mI; omega) (by omega)) (fun j => hNN 410 j (by unfold mI; omega) (by omega))
    · rw [z3 3 4 (by unfold cS; omega), uM_diff (by omega)] at q
      obtain ⟨u1, u2⟩ := w5 q
      obtain ⟨d1, d2, d3, d4, d5, d6, d7⟩ := hDat (by rw [← b2 3 4 (by unfold cS; omega)]; exact u1)
      refine ⟨d1.keep (hMM 3 8 (by unfold cI; omega) (by omega)) (fun j => hMM 10 j (by unfold cI; omega) (by omega)) (fun _ => rfl), d2, d3.keep (fun cc j x1 x2 => hMM cc j (by unfold cI; omega) (by omega)) (fun cc j x1 x2 => hNN cc j (by unfold mI; omega) (by omega)), d4.keep (Nat.le_refl _) (fun cc j x1 x2 => hMM cc j (by unfold cI; omega) (by omega)) (fun cc j x1 x2 => hNN cc j (by unfold mI; omega) (by omega)), d5.keep (fun j => hMM _ j (by unfold cI; omega) (by omega)) (fun j => hNN _ j (by unfold mI; omega) (by omega)), d6.keep (fun cc j x1 x2 => hMM cc j (by unfold cI; omega) (by omega)) (fun cc j x1 x2 => hNN cc j (by unfold mI; omega) (by omega)), ⟨v, u2, ?_, ?_⟩⟩
      · rw [z3 ld 4 (by unfold cS; omega), uM_same]; exact w3
      · rw [g12 423 sd (by unfold mS; omega), uM_same]; exact w4
    · exact hLw.keep (fun cc j x1 x2 => hMM cc j (by unfold cI; omega) (by omega)) (fun cc j x1 x2 => hNN cc j (by unfold mI; omega) (by omega))
  · exact Or.inr ⟨g11, hCt.mc.keep (fun c hc => hNN c sd (by unfold mI; omega) (by omega))⟩
end PAR11
end MG12x5
section MG12x6
/-! foods -/
section PAR12
variable {b : Nat → Nat} {n m : Nat}
theorem c_foodLD {ld nf : Nat} {N : gM} {L : gL} (hld : 12 ≤ ld) (hnf : nf < 6) : ∀ (d j f : Nat) (M : gM), j + d = 3 → d < f → Dd b n m M N → ∃ M', H_Reader_takeFood_56 ld (nI nf) L f (nI j) M = some (M', L) ∧ Dd b n m M' N := by
  intro d
  induction d with
  | zero =>
    intro j f M hj hf hd
    obtain ⟨f, rfl⟩ : ∃ x, f = x + 1 := ⟨f - 1, by omega⟩
    obtain rfl : j = 3 := by omega
    obtain ⟨M4, e4, h4⟩ := tq_Reader_need (p1 := 59) (M := M) (L := L)
    show ∃ M', B_Reader_takeFood_56 ld (nI nf) L (H_Reader_takeFood_56 ld (nI nf) L f) (nI 3) M = _ ∧ _
    unfold B_Reader_takeFood_56 J_Reader_takeFood_85
    rw [if_pos (by decide), e4, bI_s, nmM_e]
    exact ⟨_, rfl, (hd.cl h4).put1 hld⟩
  | succ d ih =>
    intro j f M hj hf hd
    obtain ⟨f, rfl⟩ : ∃ x, f = x + 1 := ⟨f - 1, by omega⟩
    obtain ⟨r, M2, e2, -, h2⟩ := tq_Reader_takeInt (p1 := 9) (M := M) (L := L)
    show ∃ M', B_Reader_takeFood_56 ld (nI nf) L (H_Reader_takeFood_56 ld (nI nf) L f) (nI j) M = _ ∧ _
    unfold B_Reader_takeFood_56
    have ew : nI nf * 3 + nI j = nI (3 * nf + j) := by rw [show (3 : Int32) = nI 3 from rfl, nI_mul, nI_add, Nat.mul_comm]
    rw [if_neg (by rw [show (3 : Int32) = nI 3 from rfl, nI_leI (by omega) (by omega)]; omega), e2, bI2_s, ew, s_put (by omega) (by decide), bI_s, nmI_e, nI_1]
    exact ih (j + 1) f _ (by omega) (by omega) ((hd.cl h2).put1 (by omega))
theorem c_foodD {ld nf : Nat} {M N : gM} {L : gL} (hld : 12 ≤ ld) (hnf : nf < 6) (hd : Dd b n m M N) : ∃ M' L', (bI2 (F_Reader_takeNewName (nI nf) M L) (fun M6 L7 => bI2 (F_Reader_takeInt 99 M6 L7) (fun r9 M10 => bI (F_Main_put (ld + 1) 6 (nI nf) r9 M10) (fun M12 => bI2 (F_Reader_takeInt 9 M12 L7) (fun r14 M15 => bI (F_Main_put (ld + 2) 6 (nI nf) r14 M15) (fun M17 => H_Reader_takeFood_56 ld (nI nf) L7 FU 0 M17)))))) = some (M', L') ∧ Dd b n m M' N := by
  obtain ⟨M1, L1, e1, h1⟩ := tq_Reader_takeNewName (p1 := nI nf) (M := M) (L := L)
  obtain ⟨r, M2, e2, -, h2⟩ := tq_Reader_takeInt (p1 := 99) (M := M1) (L := L1)
  obtain ⟨r', M3, e3, -, h3⟩ := tq_Reader_takeInt (p1 := 9) (M := uM M2 (ld + 1) nf r) (L := L1)
  obtain ⟨M4, e4, h4⟩ := c_foodLD (N := N) (L := L1) hld hnf 3 0 FU (uM M3 (ld + 2) nf r') rfl (by unfold FU; omega) ((((hd.cl h1).cl h2).put1 (by omega)).cl h3 |>.put1 (by omega))
  rw [e1, bI2_s, e2, bI2_s, s_put hnf (by decide), bI_s, e3, bI2_s, s_put hnf (by decide), bI_s]
  exact ⟨_, _, e4, h4⟩
/-- what a food brings -/
theorem i_brings {ld sd nf t : Nat} {x4 : Int32} {L K : gL} (hld : 12 ≤ ld) (hnf : nf < 6) (hsd : sd ≤ 1) : ∀ (d j f g : Nat) (M N : gM), j + d = 3 → d < f → d < g → IS b n m (t + j) M L N K ∨ Dd b n m M N →
    ∃ M' N', H_Reader_takeFood_56 ld (nI nf) L f (nI j) M = J_Reader_takeFood_85 ld (nI nf) M' L ∧ H_Mod_tellFood_51 (nI (6 * sd + nf)) x4 K g (nI j) N = J_Mod_tellFood_79 x4 N' K ∧
      ((IS b n m (t + 3) M' L N' K ∧ IS b n m (t + j) M L N K ∧ (M' 3 4 = 0 → M 3 4 = 0) ∧ (∀ i, j ≤ i → i < 3 → ∃ v, M' (ld + 3) (3 * nf + i) = nI v ∧ N' 414 (3 * (6 * sd + nf) + i) = nI v ∧ (M' 3 4 = 0 → v ≤ 9)) ∧ Eo (fun c i => cI c i ∨ (c = ld + 3 ∧ 3 * nf + j ≤ i ∧ i < 3 * nf + 3)) M M') ∨ Dd b n m M' N') ∧ Eo (fun c i => mI c i ∨ (c = 414 ∧ 3 * (6 * sd + nf) + j ≤ i ∧ i < 3 * (6 * sd + nf) + 3)) N N' := by
  intro d
  induction d with
  | zero =>
    intro j f g M N hj hf hg hO
    obtain ⟨f, rfl⟩ : ∃ x, f = x + 1 := ⟨f - 1, by omega⟩
    obtain ⟨g, rfl⟩ : ∃ x, g = x + 1 := ⟨g - 1, by omega⟩
    obtain rfl : j = 3 := by omega
    refine ⟨M, N, ?_, ?_, hO.imp (fun h => ⟨h, h, id, fun i h1 h2 => absurd h2 (by omega), Eo.rf⟩) id, Eo.rf⟩
    · show B_Reader_takeFood_56 ld (nI nf) L (H_Reader_takeFood_56 ld (nI nf) L f) (nI 3) M = _
      unfold B_Reader_takeFood_56
      rw [if_pos (by decide)]
    · show B_Mod_tellFood_51 (nI (6 * sd + nf)) x4 K (H_Mod_tellFood_51 (nI (6 * sd + nf)) x4 K g) (nI 3) N = _
      unfold B_Mod_tellFood_51
      rw [if_pos (by decide)]
  | succ d ih =>
    intro j f g M N hj hf hg hO
    obtain ⟨f, rfl⟩ : ∃ x, f = x + 1 := ⟨f - 1, by omega⟩
    obtain ⟨g, rfl⟩ : ∃ x, g = x + 1 := ⟨g - 1, by omega⟩
    obtain ⟨r3, M3, r3', N3, g5, g6, g7, g8⟩ := i_int (mo := 9) (kk := 9) (t := t + j) rfl (by decide) hO
    have hO3 := O_put (a := ld + 3) (p := 3 * nf + j) (x := r3) (q := 414) (p' := 3 * (6 * sd + nf) + j) (y := r3') (g7.imp (fun q => q.1) id) (by omega) (by omega)
    obtain ⟨M', N', y1, y2, y3, y4⟩ := ih (j + 1) f g _ _ (by omega) (by omega) (by omega) hO3
    have ew : nI nf * 3 + nI j = nI (3 * nf + j) := by rw [show (3 : Int32) = nI 3 from rfl, nI_mul, nI_add, Nat.mul_comm]
    have ew2 : (3 : Int32) * nI (6 * sd + nf) + nI j = nI (3 * (6 * sd + nf) + j) := by rw [show (3 : Int32) = nI 3 from rfl, nI_mul, nI_add]
    have hlt : ¬ (3 : Int32) ≤ nI j := by rw [show (3 : Int32) = nI 3 from rfl, nI_leI (by omega) (by omega)]; omega
    refine ⟨M', N', ?_, ?_, ?_, ?_⟩
    · show B_Reader_takeFood_56 ld (nI nf) L (H_Reader_takeFood_56 ld (nI nf) L f) (nI j) M = _
      unfold B_Reader_takeFood_56
      rw [if_neg hlt, g5, bI2_s, ew, s_put (by omega) (by decide), bI_s, nmI_e, nI_1]
      exact y1
    · show B_Mod_tellFood_51 (nI (6 * sd + nf)) x4 K (H_Mod_tellFood_51 (nI (6 * sd + nf)) x4 K g) (nI j) N = _
      unfold B_Mod_tellFood_51
      rw [if_neg hlt, g6, bI2_s, ew2, nI_clamp (by omega), if_neg (nI_inc (by omega) (by omega)), nmM_e, nmI_e, nI_1]
      exact y2
    · rcases y3 with ⟨z1, z2, z3, z4, z5⟩ | y3
      · have i3 : IS b n m (t + j + 1) M3 L N3 K := by
          rcases g7 with g | g
          · exact g.1
          · exact absurd (g.put (by omega) (by omega)) z2.nd
        obtain ⟨w1, w2, ⟨v, w3, w4, w5⟩, w6⟩ := g7.resolve_right i3.nd
        have e34 : M' 3 4 = 0 → M3 3 4 = 0 := fun q => by have := z3 q; rw [uM_diff (by omega)] at this; exact this
        refine Or.inl ⟨z1, w2, fun q => (w5 (e34 q)).1, fun i h1 h2 => ?_, ?_⟩
        · by_cases hij : i = j
          · refine ⟨v, ?_, ?_, fun q => (w5 (e34 q)).2⟩
            · rw [hij, z5 (ld + 3) _ (by unfold cI; omega), uM_same]; exact w3
            · rw [hij, y4 414 _ (by unfold mI; omega), uM_same]; exact w4
          · exact z4 i (by omega) h2
        · have e1 : Eo (fun c i => cI c i ∨ (c = ld + 3 ∧ 3 * nf + j ≤ i ∧ i < 3 * nf + 3)) M M3 := w6.mono (fun c i q => Or.inl q)
          have e2 : Eo (fun c i => cI c i ∨ (c = ld + 3 ∧ 3 * nf + j ≤ i ∧ i < 3 * nf + 3)) M3 (uM M3 (ld + 3) (3 * nf + j) r3) := Eo.rf.u (Or.inr (by omega))
          exact (e1.tr e2).tr (z5.mono (fun c i q => q.imp id (fun q => by omega)))
      · exact Or.inr y3
    · have e1 : Eo (fun c i => mI c i ∨ (c = 414 ∧ 3 * (6 * sd + nf) + j ≤ i ∧ i < 3 * (6 * sd + nf) + 3)) N N3 := g8.mono (fun c i q => Or.inl q)
      have e2 : Eo (fun c i => mI c i ∨ (c = 414 ∧ 3 * (6 * sd + nf) + j ≤ i ∧ i < 3 * (6 * sd + nf) + 3)) N3 (uM N3 414 (3 * (6 * sd + nf) + j) r3') := Eo.rf.u (Or.inr (by omega))
      exact (e1.tr e2).tr (y4.mono (fun c i q => q.imp id (fun q => by omega)))
theorem t_food {ld sd t nf nd ng ne c i : Nat} {l : Nat → List Nat} {a : Nat → Int32} {M N : gM} {L K : gL} (hld : isLa ld) (hsd : sd ≤ 1) (hR : RS b n m ld sd t nf nd ng ne l a c i M L N K) (hk : tkK b n t = 128) :
    ∃ M' L' N' K', F_Reader_takeFood ld M L = some (M', L') ∧ F_Mod_tellOne N K = some (N', K') ∧ ItO b n m ld sd t N K M' L' N' K' := by
  have h12 := La_12 hld
  obtain ⟨hI, ⟨h19, h12', h44, h38, hc, hi⟩, hCt, hMn, hAv, hDat, hLw⟩ := id hR
  have hm := hI.1.m400
  have htm := hI.2.1.2.2.2.2
  obtain ⟨⟨cf1, cf2, cf3⟩, ⟨cd1, cd2, cd3⟩, ⟨cg1, cg2, cg3⟩, ⟨ce1, ce2, ce3⟩⟩ := id hCt
  unfold F_Reader_takeFood F_Mod_tellOne
  rw [cf1, nmI_e, hI.2.1.2.2.1, if_neg (nI_in (by omega) (by decide)), nI_clamp (by omega), (hI.1.2.2.1 t (by omega)).1, hk, if_pos (show nI (phi 128) = 20 by decide), h19, if_neg (nI_in (by omega) (by decide)), nI_clamp (by omega), cf2, q_room (k := nf) (c0 := 6) (t := 0) (x := nI nf) (y := 6) rfl rfl (by omega) (by decide) hI.2.1.2.2.2.1]
  by_cases h4 : nf = 6
  · rw [if_neg (show ¬ nI nf < 6 by rw [h4]; decide), if_pos h4]
    obtain ⟨M1, N1, q1, q2, q3, q4⟩ := p_fail (k := 2) (kk := 2) rfl (Or.inr rfl) (Or.inl ⟨hI.1, hI.2.1⟩)
    obtain ⟨k2, ft, u, a1, a2, a3, a4, a5, a6, a7, a8⟩ := id q3
    rw [q1, bI_s, q2, bI_s, q_roomD a5 a1, bI_s, if_neg q3.nf.1]
    exact ⟨M1, L, N1, K, rfl, rfl, Or.inr ⟨q3, hCt.mc.keep (fun c hc => q4 c sd (by unfold mS; omega))⟩, q4.mono mS_mT, fun _ _ _ => rfl⟩
  · rw [if_pos (show nI nf < 6 by rw [show (6 : Int32) = nI 6 from rfl, nI_ltI (by omega) (by omega)]; omega), if_neg h4]
    obtain ⟨M1, N1, q1, q2, q3, q4⟩ := i_take hI (by omega) (by omega)
    rw [q1, bI_s, q2, bI_s, bI_s]
    rcases q3 with ⟨b1, b2⟩ | q3
    · rw [if_pos b1.2.1.2.2.2.1]
      unfold F_Mod_tellFood
      have n19a : N1 401 19 = nI sd := by rw [q4 401 19 (by unfold mS; omega)]; exact h19
      have n18a : N1 411 sd = nI nf := by rw [q4 411 sd (by unfold mS; omega)]; exact cf2
      have ew : (6 : Int32) * nI sd + nI nf = nI (6 * sd + nf) := by rw [show (6 : Int32) = nI 6 from rfl, nI_mul, nI_add]
      rw [n19a, if_neg (nI_in (by omega) (by decide)), nI_clamp (by omega), n18a, ew, nmI_e]
      -- the name
      obtain ⟨M2, L2, r2, N2, g1, g2, g3, g4⟩ := i_name (nc := nf + nd + ng + ne) (l := l) (a := a) (fc := nI nf) (by omega) (Or.inl ⟨b1, hMn.keep (q4 401 20 (by unfold mS; omega)) (fun j => q4 410 j (by unfold mS; omega)), fun q => (hDat (by rw [← b2 3 4 (by unfold cS; omega)]; exact q)).1.keep (b2 3 8 (by unfold cS; omega)) (fun j => b2 10 j (by unfold cS; omega)) (fun _ => rfl)⟩)
      have hgi : ¬ (nI (6 * sd + nf) < 0 ∨ 12 ≤ 6 * sd + nf) := nI_inc (by omega) (by omega)
      rw [g1, bI2_s, g2, bI2_s]
      -- the stock
      obtain ⟨r3, M3, r3', N3, g5, g6, g7, g8⟩ := i_int (mo := 99) (kk := 99) (t := t + 2) rfl (by decide) (g3.imp (fun q => q.1) id)
      rw [g5, bI2_s, g6, bI2_s, nI_clamp (by omega), if_neg hgi, nmM_e, s_put (by omega) (by decide), bI_s]
      have hO3 := O_put (a := ld + 1) (p := nf) (x := r3) (q := 412) (p' := 6 * sd + nf) (y := r3') (g7.imp (fun q => q.1) id) (by omega) (by omega)
      -- the price
      obtain ⟨r5, M5, r5', N5, g5b, g6b, g7b, g8b⟩ := i_int (mo := 9) (kk := 9) (t := t + 3) rfl (by decide) hO3
      rw [g5b, bI2_s, g6b, bI2_s, if_neg hgi, nmM_e, s_put (by omega) (by decide), bI_s]
      have hO5 := O_put (a := ld + 2) (p := nf) (x := r5) (q := 413) (p' := 6 * sd + nf) (y := r5') (g7b.imp (fun q => q.1) id) (by omega) (by omega)
      -- what it brings
      obtain ⟨M6, N6, e1, e2, g7c, g8c⟩ := i_brings (t := t + 4) (ld := ld) (sd := sd) (nf := nf) (x4 := r2) (L := L2) (K := K) h12 (by omega) hsd 3 0 FU FU _ _ rfl (by unfold FU; omega) (by unfold FU; omega) hO5
      rw [show H_Reader_takeFood_56 ld (nI nf) L2 FU 0 (uM M5 (ld + 2) nf r5) = _ from e1, show H_Mod_tellFood_51 (nI (6 * sd + nf)) r2 K FU 0 (uM N5 413 (6 * sd + nf) r5') = _ from e2]
      unfold J_Reader_takeFood_85 J_Mod_tellFood_79
      have n6 : ∀ cc j, ¬ mI cc j → cc ≠ 412 → cc ≠ 413 → cc ≠ 414 → N6 cc j = N cc j := fun cc j x1 x2 x3 x4 => by
        rw [g8c cc j (fun q => q.elim x1 (fun q => by omega)), uM_diff (by omega), g8b cc j x1, uM_diff (by omega), g8 cc j x1, g4 cc j x1, q4 cc j (fun q => x1 (mS_mI _ _ q))]
      have n19 : N6 401 19 = nI sd := by rw [n6 401 19 (by unfold mI; omega) (by omega) (by omega) (by omega)]; exact h19
      have n18 : N6 411 sd = nI nf := by rw [n6 411 sd (by unfold mI; omega) (by omega) (by omega) (by omega)]; exact cf2
      rw [n19, if_neg (nI_in (by omega) (by decide)), nI_clamp (by omega), n18]
      have back : ∀ {L' : gL}, IS b n m (t + 7) M6 L' N6 K → IS b n m (t + 4) (uM M5 (ld + 2) nf r5) L2 (uM N5 413 (6 * sd + nf) r5') K ∧ IS b n m (t + 4) M5 L2 N5 K ∧ IS b n m (t + 3) M3 L2 N3 K ∧ IS b n m (t + 2) M2 L2 N2 K := by
        intro L' h5
        have a0 := (g7c.resolve_right h5.nd).2.1
        have a1 : IS b n m (t + 4) M5 L2 N5 K := by
          rcases g7b with g | g
          · exact g.1
          · exact absurd (g.put (by omega) (by omega)) a0.nd
        have a2 := (g7b.resolve_right a1.nd).2.1
        have a3 : IS b n m (t + 3) M3 L2 N3 K := by
          rcases g7 with g | g
          · exact g.1
          · exact absurd (g.put (by omega) (by omega)) a2.nd
        exact ⟨a0, a1, a3, (g7.resolve_right a3.nd).2.1⟩
      -- the end
      obtain ⟨M4, N4, K4, g9, g10, g11, g12, g13⟩ := i_ends (t := t + 7) (t0 := t + 1) (nc := nf + nd + ng + ne) (l := l) (a := a) (fc := nI nf) (r0 := r2) (M := M6) (N := N6) (L := L2) (K := K) (by omega) (fun hI3 => by
        have hI2 := (back hI3).2.2.2
        obtain ⟨y1, y2, y3, y4, y5, y6, y7⟩ := g3.resolve_right hI2.nd
        obtain ⟨v1, v2, v3⟩ := tkV_name y3
        exact ⟨y4, by have := hI2.2.1.2.2.2.2; omega, y3, ⟨v2, v3⟩, (hI2.1.2.2.1 (t + 1) (by have := hI2.2.1.2.2.2.2; omega)).2.2.2 y3, hMn.keep (n6 401 20 (by unfold mI; omega) (by omega) (by omega) (by omega)) (fun j => n6 410 j (by unfold mI; omega) (by omega) (by omega) (by omega))⟩) (g7c.imp (fun q => q.1) id)
      rw [g9, bI_s, g10, bI2_s, nmM_e]
      have hNT : Eo (mT sd) N N4 := by
        have f1 : Eo (mT sd) N N1 := q4.mono mS_mT
        have f2 : Eo (mT sd) N1 N3 := (g4.tr g8).mono mI_mT
        have f3 : Eo (mT sd) N3 (uM N3 412 (6 * sd + nf) r3') := Eo.rf.u (by unfold mT; right; right; right; right; left; omega)
        have f4 : Eo (mT sd) (uM N3 412 (6 * sd + nf) r3') N5 := g8b.mono mI_mT
        have f5 : Eo (mT sd) N5 (uM N5 413 (6 * sd + nf) r5') := Eo.rf.u (by unfold mT; right; right; right; right; left; omega)
        have f5b : Eo (mT sd) (uM N5 413 (6 * sd + nf) r5') N6 := g8c.mono (fun c j q => by
          rcases q with q | q
          · exact mI_mT c j q
          · unfold mT; right; right; right; right; right; left; omega)
        have f6 : Eo (mT sd) N6 N4 := g12.mono (fun c j q => by
          rcases q with q | q | q
          · exact mS_mT c j q
          · exact Or.inr (Or.inl q)
          · exact Or.inl ⟨q.1, by omega⟩)
        exact (((((f1.tr f2).tr f3).tr f4).tr f5).tr f5b).tr f6
      have n44 : ∀ c, 411 ≤ c → c ≠ 412 → c ≠ 413 → c ≠ 414 → ∀ j, N4 c j = N c j := fun c h1 h2 h3 h4 j => by
        rw [g12 c j (by unfold mS; omega), n6 c j (by unfold mI; omega) h2 h3 h4]
      rcases g11 with ⟨z1, z2, z3, z4⟩ | ⟨g11, g14⟩
      · have n4s : N4 401 19 = nI sd := by rw [g12 401 19 (by unfold mS; omega)]; exact n19
        rw [if_pos z1.2.1.2.2.2.1, n4s, if_neg (nI_in (by omega) (by decide)), nI_clamp (by omega), if_neg (nI_inc (by omega) (by omega)), nmM_e, n44 411 (by omega) (by omega) (by omega) (by omega), cf2, nI_1, bI2_s]
        refine ⟨_, _, _, _, rfl, rfl, Or.inl ⟨t + 8, nf + 1, nd, ng, ne, (fun k => if k = nf + nd + ng + ne then tokL b n (tkF b n (t + 1)) else l k), (fun k => if k = nf + nd + ng + ne then nI nf else a k), c, i, by omega, ?_⟩, hNT.tr (Eo.rf.u (by unfold mT; right; right; right; left; omega)), g13⟩
        obtain ⟨i6, i5, i3, i2⟩ := back z2
        obtain ⟨w1c, w2c, w3c, w4c, w5c⟩ := g7c.resolve_right z2.nd
        obtain ⟨w1b, w2b, ⟨vb, w3b, w4b, w5b⟩, w6b⟩ := g7b.resolve_right i5.nd
        obtain ⟨w1, w2, ⟨v, w3, w4, w5⟩, w6⟩ := g7.resolve_right i3.nd
        obtain ⟨y1, y2, y3, y4, y5, y6, y7⟩ := g3.resolve_right w2.nd
        have hnc : nf + 1 + nd + ng + ne = nf + nd + ng + ne + 1 := by omega
        have hMM : ∀ cc j, 12 ≤ cc → cc ≠ ld + 1 → cc ≠ ld + 2 → cc ≠ ld + 3 → ¬ (cc = ld ∧ j = 0) → uM M4 ld 0 (nI (nf + 1)) cc j = M cc j := fun cc j x1 x2 x2' x2'' x3 => by
          rw [uM_diff x3, z3 cc j (by unfold cS; omega), w5c cc j (by unfold cI; omega), uM_diff (by omega), w6b cc j (by unfold cI; omega), uM_diff (by omega), w6 cc j (by unfold cI; omega), y6 cc j (by unfold cN; omega), b2 cc j (by unfold cS; omega)]
        have hNN : ∀ cc, 411 ≤ cc → cc ≠ 412 → cc ≠ 413 → cc ≠ 414 → ∀ j, ¬ (cc = 411 ∧ j = sd) → uM N4 411 sd (nI (nf + 1)) cc j = N cc j := fun cc x1 x2 x2' x2'' j x3 => by rw [uM_diff x3, n44 cc x1 x2 x2' x2'' j]
        have hN1 : ∀ j, j ≠ 11 → j ≠ 13 → j ≠ 14 → j ≠ 15 → j ≠ 16 → j ≠ 20 → N4 401 j = N 401 j := fun j a1 a2 a3 a4 a5 a6 => by
          rw [g12 401 j (by unfold mS; omega), n6 401 j (by unfold mI; omega) (by omega) (by omega) (by omega)]
        refine ⟨?_, ⟨?_, ?_, ?_, ?_, by omega, by omega⟩, ⟨⟨uM_same, uM_same, by omega⟩, ⟨?_, ?_, cd3⟩, ⟨?_, ?_, cg3⟩, ⟨?_, ?_, ce3⟩⟩, ?_, ?_, fun q => ?_, ?_⟩
        · exact z1.put (by omega) (by omega)
        · rw [uM_diff (by omega)]; exact n4s
        · rw [uM_diff (by omega), hN1 12 (by omega) (by omega) (by omega) (by omega) (by omega) (by omega)]; exact h12'
        · rw [uM_diff (by omega), hN1 44 (by omega) (by omega) (by omega) (by omega) (by omega) (by omega)]; exact h44
        · rw [uM_diff (by omega), hN1 38 (by omega) (by omega) (by omega) (by omega) (by omega) (by omega)]; exact h38
        · rw [hMM ld 1 (by omega) (by omega) (by omega) (by omega) (by omega)]; exact cd1
        · rw [hNN 415 (by omega) (by omega) (by omega) (by omega) sd (by omega)]; exact cd2
        · rw [hMM ld 2 (by omega) (by omega) (by omega) (by omega) (by omega)]; exact cg1
        · rw [hNN 418 (by omega) (by omega) (by omega) (by omega) sd (by omega)]; exact cg2
        · rw [hMM ld 3 (by omega) (by omega) (by omega) (by omega) (by omega)]; exact ce1
        · rw [hNN 420 (by omega) (by omega) (by omega) (by omega) sd (by omega)]; exact ce2
        · rw [hnc]; exact z4.keep (uM_diff (by omega)) (fun j => uM_diff (by omega))
        · rw [hnc]; exact hAv.add (by omega) (Or.inr ⟨nf, by omega, rfl⟩)
        · rw [uM_diff (by omega), z3 3 4 (by unfold cS; omega)] at q
          have u1c := w3c q
          rw [uM_diff (by omega)] at u1c
          obtain ⟨u1b, u2b⟩ := w5b u1c
          rw [uM_diff (by omega)] at u1b
          obtain ⟨u1, u2⟩ := w5 u1b
          obtain ⟨u3, u4, u5⟩ := y5 u1
          obtain ⟨d1, d2, d3, d4, d5, d6, d7⟩ := hDat (by rw [← b2 3 4 (by unfold cS; omega)]; exact u3)
          refine ⟨?_, ?_, fun k hk => ?_, d4.keep (by omega) (fun cc j x1 x2 => hMM cc j (by omega) (by omega) (by omega) (by omega) (by omega)) (fun cc j x1 x2 => hNN cc (by omega) (by omega) (by omega) (by omega) j (by omega)), d5.keep (fun j => hMM _ j (by omega) (by omega) (by omega) (by omega) (by omega)) (fun j => hNN _ (by omega) (by omega) (by omega) (by omega) j (by omega)), d6.keep (fun cc j x1 x2 => hMM cc j (by omega) (by omega) (by omega) (by omega) (by omega)) (fun cc j x1 x2 => hNN cc (by omega) (by omega) (by omega) (by omega) j (by omega)), d7.keep (hMM ld 4 (by omega) (by omega) (by omega) (by omega) (by omega)) (hNN 423 (by omega) (by omega) (by omega) (by omega) sd (by omega))⟩
          · rw [hnc]
            exact u5.keep (by rw [uM_diff (by omega), z3 3 8 (by unfold cS; omega), w5c 3 8 (by unfold cI; omega), uM_diff (by omega), w6b 3 8 (by unfold cI; omega), uM_diff (by omega), w6 3 8 (by unfold cI; omega)]) (fun j => by rw [uM_diff (by omega), z3 10 j (by unfold cS; omega), w5c 10 j (by unfold cI; omega), uM_diff (by omega), w6b 10 j (by unfold cI; omega), uM_diff (by omega), w6 10 j (by unfold cI; omega)]) (fun _ => rfl)
          · rw [hnc]; exact d2.add u4
          · have m1 : uM M4 ld 0 (nI (nf + 1)) (ld + 1) k = uM M3 (ld + 1) nf r3 (ld + 1) k := by rw [uM_diff (by omega), z3 (ld + 1) k (by unfold cS; omega), w5c (ld + 1) k (by unfold cI; omega), uM_diff (by omega), w6b (ld + 1) k (by unfold cI; omega)]
            have m2 : uM M4 ld 0 (nI (nf + 1)) (ld + 2) k = uM M5 (ld + 2) nf r5 (ld + 2) k := by rw [uM_diff (by omega), z3 (ld + 2) k (by unfold cS; omega), w5c (ld + 2) k (by unfold cI; omega)]
            have m3 : ∀ j, uM M4 ld 0 (nI (nf + 1)) (ld + 3) j = M6 (ld + 3) j := fun j => by rw [uM_diff (by omega), z3 (ld + 3) j (by unfold cS; omega)]
            have k1 : uM N4 411 sd (nI (nf + 1)) 412 (6 * sd + k) = uM N3 412 (6 * sd + nf) r3' 412 (6 * sd + k) := by rw [uM_diff (by omega), g12 412 _ (by unfold mS; omega), g8c 412 _ (by unfold mI; omega), uM_diff (by omega), g8b 412 _ (by unfold mI; omega)]
            have k2 : uM N4 411 sd (nI (nf + 1)) 413 (6 * sd + k) = uM N5 413 (6 * sd + nf) r5' 413 (6 * sd + k) := by rw [uM_diff (by omega), g12 413 _ (by unfold mS; omega), g8c 413 _ (by unfold mI; omega)]
            have k3 : ∀ j, uM N4 411 sd (nI (nf + 1)) 414 j = N6 414 j := fun j => by rw [uM_diff (by omega), g12 414 j (by unfold mS; omega)]
            rw [m1, m2, k1, k2]
            by_cases hkn : k = nf
            · rw [hkn, uM_same, uM_same, uM_same, uM_same]
              refine ⟨⟨v, u2, w3, w4⟩, ⟨vb, u2b, w3b, w4b⟩, fun j hj => ?_⟩
              rw [m3, k3]
              obtain ⟨x, x1, x2, x3⟩ := w4c j (Nat.zero_le _) hj
              exact ⟨x, x3 q, x1, x2⟩
            · have o1 : uM M3 (ld + 1) nf r3 (ld + 1) k = M (ld + 1) k := by rw [uM_diff (by omega), w6 (ld + 1) k (by unfold cI; omega), y6 (ld + 1) k (by unfold cN; omega), b2 (ld + 1) k (by unfold cS; omega)]
              have o2 : uM M5 (ld + 2) nf r5 (ld + 2) k = M (ld + 2) k := by rw [uM_diff (by omega), w6b (ld + 2) k (by unfold cI; omega), uM_diff (by omega), w6 (ld + 2) k (by unfold cI; omega), y6 (ld + 2) k (by unfold cN; omega), b2 (ld + 2) k (by unfold cS; omega)]
              have o3 : uM N3 412 (6 * sd + nf) r3' 412 (6 * sd + k) = N 412 (6 * sd + k) := by rw [uM_diff (by omega), g8 412 _ (by unfold mI; omega), g4 412 _ (by unfold mI; omega), q4 412 _ (by unfold mS; omega)]
              have o4 : uM N5 413 (6 * sd + nf) r5' 413 (6 * sd + k) = N 413 (6 * sd + k) := by rw [uM_diff (by omega), g8b 413 _ (by unfold mI; omega), uM_diff (by omega), g8 413 _ (by unfold mI; omega), g4 413 _ (by unfold mI; omega), q4 413 _ (by unfold mS; omega)]
              rw [o1, o2, o3, o4]
              refine ⟨(d3 k (by omega)).1, (d3 k (by omega)).2.1, fun j hj => ?_⟩
              have o5 : M6 (ld + 3) (3 * k + j) = M (ld + 3) (3 * k + j) := by rw [w5c (ld + 3) _ (by unfold cI; omega), uM_diff (by omega), w6b (ld + 3) _ (by unfold cI; omega), uM_diff (by omega), w6 (ld + 3) _ (by unfold cI; omega), y6 (ld + 3) _ (by unfold cN; omega), b2 (ld + 3) _ (by unfold cS; omega)]
              have o6 : N6 414 (3 * (6 * sd + k) + j) = N 414 (3 * (6 * sd + k) + j) := by rw [g8c 414 _ (by unfold mI; omega), uM_diff (by omega), g8b 414 _ (by unfold mI; omega), uM_diff (by omega), g8 414 _ (by unfold mI; omega), g4 414 _ (by unfold mI; omega), q4 414 _ (by unfold mS; omega)]
              rw [m3, k3, o5, o6]
              exact (d3 k (by omega)).2.2 j hj
        · exact hLw.keep (fun cc j x1 x2 => hMM cc j (by omega) (by omega) (by omega) (by omega) (by omega)) (fun cc j x1 x2 => hNN cc (by omega) (by omega) (by omega) (by omega) j (by omega))
      · rw [if_neg g11.nf.1, bI2_s]
        exact ⟨_, _, N4, K4, rfl, rfl, Or.inr ⟨g11.put1 (by omega), hCt.mc.keep (fun c hc => n44 c (by omega) (by omega) (by omega) (by omega) sd)⟩, hNT, g13⟩
    · rw [if_neg q3.nf.1]
      obtain ⟨M', L', e1, e2⟩ := c_foodD (L := L) (ld := ld) (nf := nf) h12 (by omega) q3
      rw [e1]
      exact ⟨M', L', N1, K, rfl, rfl, Or.inr ⟨e2, hCt.mc.keep (fun c hc => q4 c sd (by unfold mS; omega))⟩, q4.mono mS_mT, fun _ _ _ => rfl⟩
end PAR12
end MG12x6
section MG12x7
/-! dishes -/
section PAR13
variable {b : Nat → Nat} {n m : Nat}
/-- the row of the dish that is being told -/
def Row (ld sd nd nf k : Nat) (A : Nat → Nat) (M N : gM) : Prop := (∀ f, f < 6 → M (ld + 5) (6 * nd + f) = nI (A f) ∧ N 417 (6 * (5 * sd + nd) + f) = nI (A f) ∧ (0 < A f → f < nf)) ∧ A 0 + A 1 + A 2 + A 3 + A 4 + A 5 = k
/-- the model behind an ingredient -/
def mDi (x1 x2 : Int32) (K : gL) (g k : Nat) (N : gM) : Option (gM × gL) := if N 401 13 = 0 then bI (F_Mod_is 1 N) (fun r28 => if r28 = 0 then J_Mod_tellDish_127 x2 N K else H_Mod_tellDish_63 x1 x2 K g (nI k) N) else J_Mod_tellDish_127 x2 N K
theorem mDi_109 {x1 x2 : Int32} {K : gL} {g k : Nat} {N : gM} : J_Mod_tellDish_109 (H_Mod_tellDish_63 x1 x2 K g) x1 x2 (nI k) N K = mDi x1 x2 K g (k + 1) N := by
  unfold J_Mod_tellDish_109 mDi
  rw [nmI_e, nI_1]
theorem m_127D {M N : gM} {K : gL} {x : Int32} (hd : Dd b n m M N) : J_Mod_tellDish_127 x N K = some (N, K) := by
  obtain ⟨k2, ft, u, a1, a2, a3, a4, a5, a6, a7, a8⟩ := id hd
  unfold J_Mod_tellDish_127 F_Mod_ends
  rw [q_mustD a5 a1, bI_s, if_neg (by rw [a5]; exact nI_nle (by omega) (by omega)), bI2_s, if_neg hd.nf.1]
theorem c_dishLD {ld : Nat} {x : Int32} {M N : gM} {L : gL} (hd : Dd b n m M N) (f : Nat) (v : Int32) : H_Reader_takeDish_47 ld x L (f + 1) v M = J_Reader_takeDish_94 ld x M L := by
  show B_Reader_takeDish_47 ld x L (H_Reader_takeDish_47 ld x L f) v M = _
  unfold B_Reader_takeDish_47
  by_cases h : 6 < v
  · rw [if_pos h]
  · rw [if_neg h, if_neg hd.nf.2]
theorem i_ingr {ld sd t nc nf nd k g : Nat} {l l' : Nat → List Nat} {a a' : Nat → Int32} {x2 : Int32} {M N : gM} {L K : gL} (hld : isLa ld) (hsd : sd ≤ 1) (hnf : nf ≤ 6) (hdd : nd < 5) (hn : nc ≤ 20) (hI : IS b n m t M L N K) (hM : Mn nc l a N K) (hA : Av nf nc a)
    (hC : M 3 4 = 0 → Cn (nc + 1) l' a' M L ∧ Un (nc + 1) l' ∧ (∀ k, k < nc → l' k = l k ∧ a' k = a k) ∧ a' nc = -1) (hRow : M 3 4 = 0 → ∃ A, Row ld sd nd nf k A M N) :
    ∃ M' N', F_Reader_takeIngredient ld (nI nd) M L = some M' ∧ J_Mod_tellDish_74 (H_Mod_tellDish_63 (nI (5 * sd + nd)) x2 K g) (nI (5 * sd + nd)) x2 (nI k) N K = mDi (nI (5 * sd + nd)) x2 K g (k + 1) N' ∧
      ((IS b n m (t + 1) M' L N' K ∧ Eo (cG ld) M M' ∧ (M' 3 4 = 0 → M 3 4 = 0 ∧ (∃ A, Row ld sd nd nf (k + 1) A M' N') ∧ ∀ j, (j < 6 * nd ∨ 6 * nd + 6 ≤ j) → M' (ld + 5) j = M (ld + 5) j)) ∨ Dd b n m M' N') ∧ Eo (fun c j => mI c j ∨ (c = 417 ∧ 6 * (5 * sd + nd) ≤ j ∧ j < 6 * (5 * sd + nd) + 6)) N N' := by
  obtain ⟨hT, hl, lf, hL⟩ := id hI
  have hlf := IS.lf0 hL
  obtain ⟨M', r, N1, g1, g2, g3, g4, g5⟩ := p_ingr (lf := lf) hld hnf hdd hn hT hl hL hM hA (fun q => hC (hlf.mpr q))
  unfold J_Mod_tellDish_74
  rw [hl.2.2.2.1, if_pos (by decide), g2, bI2_s]
  have live : ∀ N2 : gM, (∀ f, f < nf → r = nI f → N2 = uM N1 417 (6 * (5 * sd + nd) + f) (N1 417 (6 * (5 * sd + nd) + f) + 1)) → (r = -1 → N2 = N1) → Eo (fun c j => c = 417 ∧ 6 * (5 * sd + nd) ≤ j ∧ j < 6 * (5 * sd + nd) + 6) N1 N2 →
      ((IS b n m (t + 1) M' L N2 K ∧ Eo (cG ld) M M' ∧ (M' 3 4 = 0 → M 3 4 = 0 ∧ (∃ A, Row ld sd nd nf (k + 1) A M' N2) ∧ ∀ j, (j < 6 * nd ∨ 6 * nd + 6 ≤ j) → M' (ld + 5) j = M (ld + 5) j)) ∨ Dd b n m M' N2) := by
    intro N2 h1 h2 hE
    have h12 := La_12 hld
    rcases g4 with ⟨y1, y2, lf', y3, y4⟩ | g4
    · have hT1 : Tk b n m M' L N1 K := hT.keep (fun j => y2 6 j (by unfold cG; omega)) (fun j => y2 7 j (by unfold cG; omega)) (fun _ => rfl) (fun j => g5 404 j (by unfold mI; omega)) (fun j => g5 405 j (by unfold mI; omega)) (fun j => g5 406 j (by unfold mI; omega)) (fun _ => rfl)
      refine Or.inl ⟨⟨hT1.keep (fun _ => rfl) (fun _ => rfl) (fun _ => rfl) (fun j => hE 404 j (by omega)) (fun j => hE 405 j (by omega)) (fun j => hE 406 j (by omega)) (fun _ => rfl), y1.at rfl rfl (hE 401 11 (by omega)) (hE 401 13 (by omega)), lf', y3.up (Nat.le_refl _) rfl rfl (hE 401 15 (by omega)) (hE 401 16 (by omega))⟩, y2, fun q => ?_⟩
      obtain ⟨z1, f, z2, z3, z4⟩ := y4 ((IS.lf0 y3).mp q)
      obtain ⟨A, hA1, hA2⟩ := hRow (hlf.mpr z1)
      refine ⟨hlf.mpr z1, ⟨fun j => if j = f then A j + 1 else A j, fun j hj => ?_, ?_⟩, fun j hj => ?_⟩
      · rw [h1 f z2 z3, z4, uM_at]
        dsimp only
        obtain ⟨w1, w2, w3⟩ := hA1 j hj
        by_cases e : j = f
        · subst e
          rw [if_pos (rfl : 6 * nd + j = 6 * nd + j), if_pos (⟨rfl, rfl⟩ : (417 : Nat) = 417 ∧ 6 * (5 * sd + nd) + j = 6 * (5 * sd + nd) + j), if_pos (rfl : j = j), w1, g5 417 _ (by unfold mI; omega), w2, nI_1]
          exact ⟨rfl, rfl, fun _ => z2⟩
        · rw [if_neg (show ¬ (6 * nd + j = 6 * nd + f) by omega), if_neg (show ¬ ((417 : Nat) = 417 ∧ 6 * (5 * sd + nd) + j = 6 * (5 * sd + nd) + f) by omega), if_neg e, w1, g5 417 _ (by unfold mI; omega), w2]
          exact ⟨rfl, rfl, w3⟩
      · have hf6 : f < 6 := by omega
        dsimp only
        rcases (show f = 0 ∨ f = 1 ∨ f = 2 ∨ f = 3 ∨ f = 4 ∨ f = 5 by omega) with e | e | e | e | e | e <;> subst e <;> simp <;> omega
      · rw [z4, if_neg (by omega)]
    · exact Or.inr (g4.mo (hE 401 13 (by omega)) (hE 401 14 (by omega)) (hE 401 11 (by omega)))
  rcases g3 with e | ⟨f, hf, e⟩
  · rw [e, if_pos (by decide), mDi_109]
    exact ⟨M', N1, g1, rfl, live N1 (fun f _ h => absurd (e.symm.trans h) (fun (q : (-1 : Int32) = nI f) => by have h3 := nI_pos (n := f) (by omega); rw [← q] at h3; exact h3 nI_neg1)) (fun _ => rfl) Eo.rf, g5.mono (fun c j q => Or.inl q)⟩
  · have ew : (6 : Int32) * nI (5 * sd + nd) + nI f = nI (6 * (5 * sd + nd) + f) := by rw [show (6 : Int32) = nI 6 from rfl, nI_mul, nI_add]
    have hgi : ¬ (nI (6 * (5 * sd + nd) + f) < 0 ∨ 60 ≤ 6 * (5 * sd + nd) + f) := nI_inc (by omega) (by omega)
    rw [e, if_neg (nI_pos (by omega)), ew, nI_clamp (by omega), if_neg hgi, if_neg hgi, nmM_e, mDi_109]
    refine ⟨M', _, g1, rfl, live _ (fun f' _ h => ?_) (fun h => ?_) (Eo.rf.u (by omega)), (g5.mono (fun c j q => Or.inl q)).tr (Eo.rf.u (Or.inr (by omega)))⟩
    · have : f = f' := (nI_eq (by omega) (by omega)).mp (e.symm.trans h)
      subst this
      rfl
    · exact absurd (e.symm.trans h) (fun (q : nI f = (-1 : Int32)) => by have h3 := nI_pos (n := f) (by omega); rw [q] at h3; exact h3 nI_neg1)
/-- the further ingredients: k of them are told -/
theorem i_more {ld sd nc nf nd : Nat} {l l' : Nat → List Nat} {a a' : Nat → Int32} {x2 : Int32} {L K : gL} (hld : isLa ld) (hsd : sd ≤ 1) (hnf : nf ≤ 6) (hdd : nd < 5) (hn : nc ≤ 20) (hA : Av nf nc a) (hll : ∀ k, k < nc → l' k = l k ∧ a' k = a k) (hln : a' nc = -1) :
    ∀ (d k f g t : Nat) (M N : gM), k + d = 6 → d + 1 < f → d + 1 < g → IS b n m t M L N K → Mn nc l a N K → (M 3 4 = 0 → Cn (nc + 1) l' a' M L ∧ Un (nc + 1) l') → (M 3 4 = 0 → ∃ A, Row ld sd nd nf k A M N) →
    ∃ M' N' t', H_Reader_takeDish_47 ld (nI nd) L f (nI k) M = J_Reader_takeDish_94 ld (nI nd) M' L ∧ mDi (nI (5 * sd + nd)) x2 K g k N = J_Mod_tellDish_127 x2 N' K ∧ t ≤ t' ∧
      ((IS b n m t' M' L N' K ∧ Eo (cG ld) M M' ∧ (M' 3 4 = 0 → M 3 4 = 0 ∧ (∃ A k', k ≤ k' ∧ k' ≤ 6 ∧ Row ld sd nd nf k' A M' N') ∧ ∀ j, (j < 6 * nd ∨ 6 * nd + 6 ≤ j) → M' (ld + 5) j = M (ld + 5) j)) ∨ Dd b n m M' N') ∧ Eo (fun c j => mI c j ∨ (c = 417 ∧ 6 * (5 * sd + nd) ≤ j ∧ j < 6 * (5 * sd + nd) + 6)) N N' := by
  intro d
  induction d with
  | zero =>
    intro k f g t M N hk hf hg hI hM hC hRow
    obtain ⟨f, rfl⟩ : ∃ x, f = x + 2 := ⟨f - 2, by omega⟩
    obtain ⟨g, rfl⟩ : ∃ x, g = x + 1 := ⟨g - 1, by omega⟩
    obtain rfl : k = 6 := by omega
    obtain ⟨hT, hl, lf, hL⟩ := id hI
    have htm := hl.2.2.2.2
    have eM : H_Reader_takeDish_47 ld (nI nd) L (f + 2) (nI 6) M = if tkK b n t = 2 then bI (F_Reader_stop 2 M) (fun M28 => H_Reader_takeDish_47 ld (nI nd) L (f + 1) (nI 7) M28) else J_Reader_takeDish_94 ld (nI nd) M L := by
      show B_Reader_takeDish_47 ld (nI nd) L (H_Reader_takeDish_47 ld (nI nd) L (f + 1)) (nI 6) M = _
      unfold B_Reader_takeDish_47 J_Reader_takeDish_88
      rw [if_neg (by decide), hl.2.1, if_pos rfl, r_is hT (k := 2) (kk := 2) rfl hl.1 htm (by decide), bI_s]
      by_cases e : tkK b n t = 2
      · rw [if_pos e, if_neg (show ¬ (1 : Int32) = 0 by decide), if_pos (show nI 6 = 6 from rfl), if_pos e]
        simp only [nmI_e, nI_1]
      · rw [if_neg e, if_pos (show (0 : Int32) = 0 from rfl), if_neg e]
    have eN : mDi (nI (5 * sd + nd)) x2 K (g + 1) 6 N = if tkK b n t = 2 then bI (F_Mod_fail 2 N) (fun M34 => J_Mod_tellDish_74 (H_Mod_tellDish_63 (nI (5 * sd + nd)) x2 K g) (nI (5 * sd + nd)) x2 (nI 6) M34 K) else J_Mod_tellDish_127 x2 N K := by
      unfold mDi
      rw [hl.2.2.2.1, if_pos rfl, q_is hT (k := 2) (kk := 1) rfl (Or.inl (by decide)) hl.2.2.1 hl.2.2.2.1 htm, bI_s]
      by_cases e : tkK b n t = 2
      · rw [if_pos e, if_neg (show ¬ (1 : Int32) = 0 by decide), if_pos e]
        show B_Mod_tellDish_63 (nI (5 * sd + nd)) x2 K (H_Mod_tellDish_63 (nI (5 * sd + nd)) x2 K g) (nI 6) N = _
        unfold B_Mod_tellDish_63
        rw [if_pos (show nI 6 = 6 from rfl)]
      · rw [if_neg e, if_pos (show (0 : Int32) = 0 from rfl), if_neg e]
    rw [eM, eN]
    by_cases e : tkK b n t = 2
    · rw [if_pos e, if_pos e]
      obtain ⟨M1, N1, q1, q2, q3, q4⟩ := p_fail (k := 2) (kk := 2) rfl (Or.inr rfl) (Or.inl ⟨hT, hl⟩)
      obtain ⟨k2, ft, u, a1, a2, a3, a4, a5, a6, a7, a8⟩ := id q3
      rw [q1, bI_s, q2, bI_s, c_dishLD q3]
      unfold J_Mod_tellDish_74
      rw [if_neg (by rw [a5]; exact nI_nle (by omega) (by omega))]
      exact ⟨M1, N1, t, rfl, (m_127D q3).symm, Nat.le_refl _, Or.inr q3, q4.mono (fun c j q => Or.inl (mS_mI _ _ q))⟩
    · rw [if_neg e, if_neg e]
      exact ⟨M, N, t, rfl, rfl, Nat.le_refl _, Or.inl ⟨hI, Eo.rf, fun q => ⟨q, by obtain ⟨A, hA⟩ := hRow q; exact ⟨A, 6, Nat.le_refl _, Nat.le_refl _, hA⟩, fun _ _ => rfl⟩⟩, Eo.rf⟩
  | succ d ih =>
    intro k f g t M N hk hf hg hI hM hC hRow
    obtain ⟨f, rfl⟩ : ∃ x, f = x + 1 := ⟨f - 1, by omega⟩
    obtain ⟨g, rfl⟩ : ∃ x, g = x + 1 := ⟨g - 1, by omega⟩
    obtain ⟨hT, hl, lf, hL⟩ := id hI
    have htm := hl.2.2.2.2
    have hk6 : ¬ nI k = 6 := fun (q : nI k = (6 : Int32)) => by have := (nI_eq (a := k) (b := 6) (by omega) (by omega)).mp q; omega
    have eM : H_Reader_takeDish_47 ld (nI nd) L (f + 1) (nI k) M = if tkK b n t = 2 then bI (F_Reader_takeIngredient ld (nI nd) M L) (fun M25 => H_Reader_takeDish_47 ld (nI nd) L f (nI (k + 1)) M25) else J_Reader_takeDish_94 ld (nI nd) M L := by
      show B_Reader_takeDish_47 ld (nI nd) L (H_Reader_takeDish_47 ld (nI nd) L f) (nI k) M = _
      unfold B_Reader_takeDish_47 J_Reader_takeDish_88
      rw [if_neg (by rw [show (6 : Int32) = nI 6 from rfl, nI_ltI (by omega) (by omega)]; omega), hl.2.1, if_pos rfl, r_is hT (k := 2) (kk := 2) rfl hl.1 htm (by decide), bI_s]
      by_cases e : tkK b n t = 2
      · rw [if_pos e, if_neg (show ¬ (1 : Int32) = 0 by decide), if_neg hk6, if_pos e]
        simp only [nmI_e, nI_1]
      · rw [if_neg e, if_pos (show (0 : Int32) = 0 from rfl), if_neg e]
    have eN : mDi (nI (5 * sd + nd)) x2 K (g + 1) k N = if tkK b n t = 2 then J_Mod_tellDish_74 (H_Mod_tellDish_63 (nI (5 * sd + nd)) x2 K g) (nI (5 * sd + nd)) x2 (nI k) N K else J_Mod_tellDish_127 x2 N K := by
      unfold mDi
      rw [hl.2.2.2.1, if_pos rfl, q_is hT (k := 2) (kk := 1) rfl (Or.inl (by decide)) hl.2.2.1 hl.2.2.2.1 htm, bI_s]
      by_cases e : tkK b n t = 2
      · rw [if_pos e, if_neg (show ¬ (1 : Int32) = 0 by decide), if_pos e]
        show B_Mod_tellDish_63 (nI (5 * sd + nd)) x2 K (H_Mod_tellDish_63 (nI (5 * sd + nd)) x2 K g) (nI k) N = _
        unfold B_Mod_tellDish_63
        rw [if_neg hk6]
      · rw [if_neg e, if_pos (show (0 : Int32) = 0 from rfl), if_neg e]
    rw [eM, eN]
    by_cases e : tkK b n t = 2
    · rw [if_pos e, if_pos e]
      obtain ⟨M1, N1, q1, q2, q3, q4⟩ := i_ingr (g := g) (x2 := x2) hld hsd hnf hdd hn hI hM hA (fun q => ⟨(hC q).1, (hC q).2, hll, hln⟩) hRow
      rw [q1, bI_s, q2]
      rcases q3 with ⟨y1, y2, y3⟩ | q3
      · have h12 := La_12 hld
        obtain ⟨M', N', t', z1, z2, z3, z4, z5⟩ := ih (k + 1) f g (t + 1) M1 N1 (by omega) (by omega) (by omega) y1 (hM.keep (q4 401 20 (by unfold mI; omega)) (fun j => q4 410 j (by unfold mI; omega))) (fun q => ⟨(hC (y3 q).1).1.keep (y2 3 8 (by unfold cG; omega)) (fun j => y2 10 j (by unfold cG; omega)) (fun _ => rfl), (hC (y3 q).1).2⟩) (fun q => (y3 q).2.1)
        refine ⟨M', N', t', z1, z2, by omega, ?_, q4.tr z5⟩
        rcases z4 with ⟨w1, w2, w3⟩ | z4
        · refine Or.inl ⟨w1, y2.tr w2, fun q => ?_⟩
          obtain ⟨u1, ⟨A, k', u2, u3, u4⟩, u5⟩ := w3 q
          obtain ⟨v1, v2, v3⟩ := y3 u1
          exact ⟨v1, ⟨A, k', by omega, u3, u4⟩, fun j hj => (u5 j hj).trans (v3 j hj)⟩
        · exact Or.inr z4
      · obtain ⟨f, rfl⟩ : ∃ x, f = x + 1 := ⟨f - 1, by omega⟩
        rw [c_dishLD q3]
        refine ⟨M1, N1, t, rfl, ?_, Nat.le_refl _, Or.inr q3, q4⟩
        unfold mDi
        rw [if_neg q3.nf.1]
    · rw [if_neg e, if_neg e]
      exact ⟨M, N, t, rfl, rfl, Nat.le_refl _, Or.inl ⟨hI, Eo.rf, fun q => ⟨q, by obtain ⟨A, hA⟩ := hRow q; exact ⟨A, k, Nat.le_refl _, by omega, hA⟩, fun _ _ => rfl⟩⟩, Eo.rf⟩
end PAR13
end MG12x7
section MG12x8
/-! a whole dish -/
section PAR14
variable {b : Nat → Nat} {n m : Nat}
theorem c_94D {ld : Nat} {x : Int32} {M N : gM} {L : gL} (hld : 12 ≤ ld) (hd : Dd b n m M N) : ∃ M', J_Reader_takeDish_94 ld x M L = some (M', L) ∧ Dd b n m M' N := by
  obtain ⟨M4, e4, h4⟩ := tq_Reader_need (p1 := 59) (M := M) (L := L)
  unfold J_Reader_takeDish_94
  rw [e4, bI_s, nmM_e]
  exact ⟨_, rfl, (hd.cl h4).put1 hld⟩
theorem c_ingrD {ld : Nat} {x : Int32} {M N : gM} {L : gL} (hld : isLa ld) (hd : Dd b n m M N) : ∃ M', bI (F_Reader_takeIngredient ld x M L) (fun M14 => H_Reader_takeDish_47 ld x L FU 1 M14) = some (M', L) ∧ Dd b n m M' N := by
  obtain ⟨M1, e1, h1⟩ := tq_Reader_takeIngredient (Ld1 := ld) (p2 := x) (M := M) (L := L) hld
  obtain ⟨g, hg⟩ := FU_k 1 (by decide)
  rw [e1, bI_s, hg, c_dishLD (hd.cl h1)]
  exact c_94D (La_12 hld) (hd.cl h1)
theorem c_dishD {ld nd : Nat} {M N : gM} {L : gL} (hld : isLa ld) (hnd : nd < 5) (hd : Dd b n m M N) : ∃ M' L', (bI2 (F_Reader_takeNewName (-1) M L) (fun M6 L7 => bI2 (F_Reader_takeInt 9 M6 L7) (fun r9 M10 => bI (F_Main_put (ld + 4) 5 (nI nd) r9 M10) (fun M12 => bI (F_Reader_takeIngredient ld (nI nd) M12 L7) (fun M14 => H_Reader_takeDish_47 ld (nI nd) L7 FU 1 M14))))) = some (M', L') ∧ Dd b n m M' N := by
  obtain ⟨M1, L1, e1, h1⟩ := tq_Reader_takeNewName (p1 := -1) (M := M) (L := L)
  obtain ⟨r, M2, e2, -, h2⟩ := tq_Reader_takeInt (p1 := 9) (M := M1) (L := L1)
  obtain ⟨M3, e3, h3⟩ := c_ingrD (x := nI nd) (M := uM M2 (ld + 4) nd r) (L := L1) hld (((hd.cl h1).cl h2).put1 (by have := La_12 hld; omega))
  rw [e1, bI2_s, e2, bI2_s, s_put hnd (by decide), bI_s]
  exact ⟨_, _, e3, h3⟩
theorem m_clr {X : Nat} {x2 : Int32} {K : gL} (hX : X < 10) : ∀ (d v g : Nat) (N : gM), v + d = 6 → d < g → ∃ N', H_Mod_tellDish_37 (nI X) x2 K g (nI v) N = H_Mod_tellDish_63 (nI X) x2 K FU 0 N' ∧ (∀ f, v ≤ f → f < 6 → N' 417 (6 * X + f) = 0) ∧ Eo (fun c j => c = 417 ∧ 6 * X + v ≤ j ∧ j < 6 * X + 6) N N' := by
  intro d
  induction d with
  | zero =>
    intro v g N hv hg
    obtain ⟨g, rfl⟩ : ∃ x, g = x + 1 := ⟨g - 1, by omega⟩
    obtain rfl : v = 6 := by omega
    refine ⟨N, ?_, fun f h1 h2 => absurd h2 (by omega), Eo.rf⟩
    show B_Mod_tellDish_37 (nI X) x2 K (H_Mod_tellDish_37 (nI X) x2 K g) (nI 6) N = _
    unfold B_Mod_tellDish_37 J_Mod_tellDish_61
    rw [if_pos (by decide)]
  | succ d ih =>
    intro v g N hv hg
    obtain ⟨g, rfl⟩ : ∃ x, g = x + 1 := ⟨g - 1, by omega⟩
    have ew : (6 : Int32) * nI X + nI v = nI (6 * X + v) := by rw [show (6 : Int32) = nI 6 from rfl, nI_mul, nI_add]
    obtain ⟨N', e1, e2, e3⟩ := ih (v + 1) g (uM N 417 (6 * X + v) 0) (by omega) (by omega)
    refine ⟨N', ?_, fun f h1 h2 => ?_, Eo.tr (Eo.rf.u (by omega)) (e3.mono (fun c j q => by omega))⟩
    · show B_Mod_tellDish_37 (nI X) x2 K (H_Mod_tellDish_37 (nI X) x2 K g) (nI v) N = _
      unfold B_Mod_tellDish_37
      rw [if_neg (by rw [show (6 : Int32) = nI 6 from rfl, nI_leI (by omega) (by omega)]; omega), ew, nI_clamp (by omega), if_neg (nI_inc (by omega) (by omega)), nmM_e, nmI_e, nI_1]
      exact e1
    · by_cases e : f = v
      · rw [e, e3 417 _ (by omega), uM_same]
      · exact e2 f (by omega) h2
theorem t_dish {ld sd t nf nd ng ne c i : Nat} {l : Nat → List Nat} {a : Nat → Int32} {M N : gM} {L K : gL} (hld : isLa ld) (hsd : sd ≤ 1) (hR : RS b n m ld sd t nf nd ng ne l a c i M L N K) (hk : tkK b n t = 129) :
    ∃ M' L' N' K', F_Reader_takeDish ld M L = some (M', L') ∧ F_Mod_tellOne N K = some (N', K') ∧ ItO b n m ld sd t N K M' L' N' K' := by
  have h12 := La_12 hld
  obtain ⟨hI, ⟨h19, h12', h44, h38, hc, hi⟩, hCt, hMn, hAv, hDat, hLw⟩ := id hR
  have hm := hI.1.m400
  have htm := hI.2.1.2.2.2.2
  obtain ⟨⟨cf1, cf2, cf3⟩, ⟨cd1, cd2, cd3⟩, ⟨cg1, cg2, cg3⟩, ⟨ce1, ce2, ce3⟩⟩ := id hCt
  unfold F_Reader_takeDish F_Mod_tellOne
  rw [cd1, nmI_e, hI.2.1.2.2.1, if_neg (nI_in (by omega) (by decide)), nI_clamp (by omega), (hI.1.2.2.1 t (by omega)).1, hk, if_neg (show ¬ nI (phi 129) = 20 by decide), if_pos (show nI (phi 129) = 21 by decide), h19, if_neg (nI_in (by omega) (by decide)), nI_clamp (by omega), cd2, q_room (k := nd) (c0 := 5) (t := 0) (x := nI nd) (y := 5) rfl rfl (by omega) (by decide) hI.2.1.2.2.2.1]
  by_cases h4 : nd = 5
  · rw [if_neg (show ¬ nI nd < 5 by rw [h4]; decide), if_pos h4]
    obtain ⟨M1, N1, q1, q2, q3, q4⟩ := p_fail (k := 2) (kk := 2) rfl (Or.inr rfl) (Or.inl ⟨hI.1, hI.2.1⟩)
    obtain ⟨k2, ft, u, a1, a2, a3, a4, a5, a6, a7, a8⟩ := id q3
    rw [q1, bI_s, q2, bI_s, q_roomD a5 a1, bI_s, if_neg q3.nf.1]
    exact ⟨M1, L, N1, K, rfl, rfl, Or.inr ⟨q3, hCt.mc.keep (fun c hc => q4 c sd (by unfold mS; omega))⟩, q4.mono mS_mT, fun _ _ _ => rfl⟩
  · rw [if_pos (show nI nd < 5 by rw [show (5 : Int32) = nI 5 from rfl, nI_ltI (by omega) (by omega)]; omega), if_neg h4]
    obtain ⟨M1, N1, q1, q2, q3, q4⟩ := i_take hI (by omega) (by omega)
    rw [q1, bI_s, q2, bI_s, bI_s]
    rcases q3 with ⟨b1, b2⟩ | q3
    · rw [if_pos b1.2.1.2.2.2.1]
      unfold F_Mod_tellDish
      have n19a : N1 401 19 = nI sd := by rw [q4 401 19 (by unfold mS; omega)]; exact h19
      have n18a : N1 415 sd = nI nd := by rw [q4 415 sd (by unfold mS; omega)]; exact cd2
      have ew : (5 : Int32) * nI sd + nI nd = nI (5 * sd + nd) := by rw [show (5 : Int32) = nI 5 from rfl, nI_mul, nI_add]
      rw [n19a, if_neg (nI_in (by omega) (by decide)), nI_clamp (by omega), n18a, ew, nmI_e]
      -- the name
      obtain ⟨M2, L2, r2, N2, g1, g2, g3, g4⟩ := i_name (nc := nf + nd + ng + ne) (l := l) (a := a) (fc := -1) (by omega) (Or.inl ⟨b1, hMn.keep (q4 401 20 (by unfold mS; omega)) (fun j => q4 410 j (by unfold mS; omega)), fun q => (hDat (by rw [← b2 3 4 (by unfold cS; omega)]; exact q)).1.keep (b2 3 8 (by unfold cS; omega)) (fun j => b2 10 j (by unfold cS; omega)) (fun _ => rfl)⟩)
      have hgi : ¬ (nI (5 * sd + nd) < 0 ∨ 10 ≤ 5 * sd + nd) := nI_inc (by omega) (by omega)
      rw [g1, bI2_s, g2, bI2_s]
      -- the heat
      obtain ⟨r3, M3, r3', N3, g5, g6, g7, g8⟩ := i_int (mo := 9) (kk := 9) (t := t + 2) rfl (by decide) (g3.imp (fun q => q.1) id)
      obtain ⟨N5, y1, y2, y3⟩ := m_clr (X := 5 * sd + nd) (x2 := r2) (K := K) (by omega) 6 0 FU (uM N3 416 (5 * sd + nd) r3') rfl (by unfold FU; omega)
      rw [g5, bI2_s, g6, bI2_s, nI_clamp (by omega), if_neg hgi, nmM_e, s_put (by omega) (by decide), bI_s, show H_Mod_tellDish_37 (nI (5 * sd + nd)) r2 K FU 0 (uM N3 416 (5 * sd + nd) r3') = _ from y1]
      have hO3 := O_put (a := ld + 4) (p := nd) (x := r3) (q := 416) (p' := 5 * sd + nd) (y := r3') (g7.imp (fun q => q.1) id) (by omega) (by omega)
      have hO5 : IS b n m (t + 3) (uM M3 (ld + 4) nd r3) L2 N5 K ∨ Dd b n m (uM M3 (ld + 4) nd r3) N5 := by
        rcases hO3 with ⟨w1, w2, lf, w3⟩ | w
        · exact Or.inl ⟨w1.keep (fun _ => rfl) (fun _ => rfl) (fun _ => rfl) (fun j => y3 404 j (by omega)) (fun j => y3 405 j (by omega)) (fun j => y3 406 j (by omega)) (fun _ => rfl), w2.at rfl rfl (y3 401 11 (by omega)) (y3 401 13 (by omega)), lf, w3.up (Nat.le_refl _) rfl rfl (y3 401 15 (by omega)) (y3 401 16 (by omega))⟩
        · exact Or.inr (w.mo (y3 401 13 (by omega)) (y3 401 14 (by omega)) (y3 401 11 (by omega)))
      have n5 : ∀ cc j, ¬ mI cc j → cc ≠ 416 → cc ≠ 417 → N5 cc j = N cc j := fun cc j x1 x2 x3 => by
        rw [y3 cc j (by omega), uM_diff (by omega), g8 cc j x1, g4 cc j x1, q4 cc j (fun q => x1 (mS_mI _ _ q))]
      have hNT5 : Eo (mT sd) N N5 := by
        have f1 : Eo (mT sd) N N1 := q4.mono mS_mT
        have f2 : Eo (mT sd) N1 N3 := (g4.tr g8).mono mI_mT
        have f3 : Eo (mT sd) N3 (uM N3 416 (5 * sd + nd) r3') := Eo.rf.u (by unfold mT; right; right; right; right; right; right; left; omega)
        exact ((f1.tr f2).tr f3).tr (y3.mono (fun c j q => by unfold mT; right; right; right; right; right; right; right; left; omega))
      obtain ⟨g, hg⟩ := FU_k 1 (by decide)
      have e63 : H_Mod_tellDish_63 (nI (5 * sd + nd)) r2 K FU 0 N5 = J_Mod_tellDish_74 (H_Mod_tellDish_63 (nI (5 * sd + nd)) r2 K g) (nI (5 * sd + nd)) r2 (nI 0) N5 K := by
        rw [hg]
        show B_Mod_tellDish_63 (nI (5 * sd + nd)) r2 K (H_Mod_tellDish_63 (nI (5 * sd + nd)) r2 K g) (nI 0) N5 = _
        unfold B_Mod_tellDish_63
        rw [if_neg (show ¬ nI 0 = 6 by decide)]
      rw [e63]
      rcases hO5 with hI5 | hd5
      · -- live
        have i3 : IS b n m (t + 3) M3 L2 N3 K := by
          rcases g7 with g | g
          · exact g.1
          · exact absurd ((g.put (a := ld + 4) (p := nd) (x := r3) (q := 416) (p' := 5 * sd + nd) (y := r3') (by omega) (by omega)).mo (N' := N5) (y3 401 13 (by omega)) (y3 401 14 (by omega)) (y3 401 11 (by omega))) hI5.nd
        obtain ⟨w1, w2, ⟨v, w3, w4, w5⟩, w6⟩ := g7.resolve_right i3.nd
        obtain ⟨x1, x2, x3, x4, x5, x6, x7⟩ := g3.resolve_right w2.nd
        generalize hnc0 : nf + nd + ng + ne = nc at *
        have hCU : uM M3 (ld + 4) nd r3 3 4 = 0 → Cn (nc + 1) (fun k => if k = nc then tokL b n (tkF b n (t + 1)) else l k) (fun k => if k = nc then -1 else a k) (uM M3 (ld + 4) nd r3) L2 ∧ Un (nc + 1) (fun k => if k = nc then tokL b n (tkF b n (t + 1)) else l k) := by
          intro q
          rw [uM_diff (by omega)] at q
          obtain ⟨u3, u4, u5⟩ := x5 (w5 q).1
          exact ⟨u5.keep (by rw [uM_diff (by omega), w6 3 8 (by unfold cI; omega)]) (fun j => by rw [uM_diff (by omega), w6 10 j (by unfold cI; omega)]) (fun _ => rfl), (hDat (by rw [← b2 3 4 (by unfold cS; omega)]; exact u3)).2.1.add u4⟩
        have hrow5 : ∀ j, uM M3 (ld + 4) nd r3 (ld + 5) j = M (ld + 5) j := fun j => by rw [uM_diff (by omega), w6 (ld + 5) j (by unfold cI; omega), x6 (ld + 5) j (by unfold cN; omega), b2 (ld + 5) j (by unfold cS; omega)]
        have hM5 : Mn nc l a N5 K := hMn.keep (n5 401 20 (by unfold mI; omega) (by omega) (by omega)) (fun j => n5 410 j (by unfold mI; omega) (by omega) (by omega))
        have hll : ∀ k, k < nc → (fun k => if k = nc then tokL b n (tkF b n (t + 1)) else l k) k = l k ∧ (fun k => if k = nc then (-1 : Int32) else a k) k = a k := fun k hk => by
          dsimp only
          rw [if_neg (by omega), if_neg (by omega)]
          exact ⟨rfl, rfl⟩
        have hln : (fun k => if k = nc then (-1 : Int32) else a k) nc = -1 := if_pos rfl
        obtain ⟨M6, N6, p1, p2, p3, p4⟩ := i_ingr (k := 0) (g := g) (x2 := r2) hld hsd cf3 (show nd < 5 by omega) (show nc ≤ 20 by omega) hI5 hM5 hAv (fun q => ⟨(hCU q).1, (hCU q).2, hll, hln⟩) (fun q => by
          rw [uM_diff (by omega)] at q
          obtain ⟨u3, u4, u5⟩ := x5 (w5 q).1
          have hz := (hDat (by rw [← b2 3 4 (by unfold cS; omega)]; exact u3)).2.2.2.1.2
          exact ⟨fun _ => 0, fun f hf => ⟨by rw [hrow5, hz _ (by omega) (by omega)]; rfl, by rw [y2 f (Nat.zero_le _) hf]; rfl, fun q => absurd q (Nat.lt_irrefl _)⟩, rfl⟩)
        rw [p1, bI_s, p2]
        obtain ⟨M7, N7, t7, z1, z2, z3, z4, z5⟩ : ∃ M' N' t', H_Reader_takeDish_47 ld (nI nd) L2 FU (nI 1) M6 = J_Reader_takeDish_94 ld (nI nd) M' L2 ∧ mDi (nI (5 * sd + nd)) r2 K g 1 N6 = J_Mod_tellDish_127 r2 N' K ∧ t + 4 ≤ t' ∧
      ((IS b n m t' M' L2 N' K ∧ Eo (cG ld) (uM M3 (ld + 4) nd r3) M' ∧ (M' 3 4 = 0 → uM M3 (ld + 4) nd r3 3 4 = 0 ∧ (∃ A k', 1 ≤ k' ∧ k' ≤ 6 ∧ Row ld sd nd nf k' A M' N') ∧ ∀ j, (j < 6 * nd ∨ 6 * nd + 6 ≤ j) → M' (ld + 5) j = uM M3 (ld + 4) nd r3 (ld + 5) j)) ∨ Dd b n m M' N') ∧ Eo (fun c j => mI c j ∨ (c = 417 ∧ 6 * (5 * sd + nd) ≤ j ∧ j < 6 * (5 * sd + nd) + 6)) N5 N' := by
          rcases p3 with ⟨p5, p6, p7⟩ | p3
          · obtain ⟨M', N', t', a1, a2, a3, a4, a5⟩ := i_more (x2 := r2) hld hsd cf3 (show nd < 5 by omega) (show nc ≤ 20 by omega) hAv hll hln 5 1 FU g (t + 4) M6 N6 rfl (by unfold FU; omega) (by unfold FU at hg; omega) p5 (hM5.keep (p4 401 20 (by unfold mI; omega)) (fun j => p4 410 j (by unfold mI; omega))) (fun q => ⟨(hCU (p7 q).1).1.keep (p6 3 8 (by unfold cG; omega)) (fun j => p6 10 j (by unfold cG; omega)) (fun _ => rfl), (hCU (p7 q).1).2⟩) (fun q => (p7 q).2.1)
            refine ⟨M', N', t', a1, a2, a3, ?_, p4.tr a5⟩
            rcases a4 with ⟨c1, c2, c3⟩ | a4
            · refine Or.inl ⟨c1, p6.tr c2, fun q => ?_⟩
              obtain ⟨d1, d2, d3⟩ := c3 q
              obtain ⟨e1, e2, e3⟩ := p7 d1
              exact ⟨e1, d2, fun j hj => (d3 j hj).trans (e3 j hj)⟩
            · exact Or.inr a4
          · refine ⟨M6, N6, t + 4, ?_, ?_, Nat.le_refl _, Or.inr p3, p4⟩
            · rw [hg]; exact c_dishLD p3 g _
            · unfold mDi
              rw [if_neg p3.nf.1]
        rw [show H_Reader_takeDish_47 ld (nI nd) L2 FU 1 M6 = _ from z1, show mDi (nI (5 * sd + nd)) r2 K g (0 + 1) N6 = _ from z2]
        unfold J_Reader_takeDish_94 J_Mod_tellDish_127
        have n7 : ∀ cc j, ¬ mI cc j → cc ≠ 416 → cc ≠ 417 → N7 cc j = N cc j := fun cc j x1 x2 x3 => by
          rw [z5 cc j (fun q => q.elim x1 (fun q => by omega)), n5 cc j x1 x2 x3]
        obtain ⟨M4, N4, K4, g9, g10, g11, g12, g13⟩ := i_ends (t := t7) (t0 := t + 1) (nc := nc) (l := l) (a := a) (fc := -1) (r0 := r2) (M := M7) (N := N7) (L := L2) (K := K) (show nc ≤ 20 by omega) (fun _ => by
          obtain ⟨v1, v2, v3⟩ := tkV_name x3
          exact ⟨x4, by have := w2.2.1.2.2.2.2; omega, x3, ⟨v2, v3⟩, (w2.1.2.2.1 (t + 1) (by have := w2.2.1.2.2.2.2; omega)).2.2.2 x3, hMn.keep (n7 401 20 (by unfold mI; omega) (by omega) (by omega)) (fun j => n7 410 j (by unfold mI; omega) (by omega) (by omega))⟩) (z4.imp (fun q => q.1) id)
        rw [g9, bI_s, g10, bI2_s, nmM_e]
        have hNT : Eo (mT sd) N N4 := by
          have f1 : Eo (mT sd) N5 N7 := z5.mono (fun c j q => by
            rcases q with q | q
            · exact mI_mT c j q
            · unfold mT; right; right; right; right; right; right; right; left; omega)
          have f6 : Eo (mT sd) N7 N4 := g12.mono (fun c j q => by
            rcases q with q | q | q
            · exact mS_mT c j q
            · exact Or.inr (Or.inl q)
            · exact Or.inl ⟨q.1, by omega⟩)
          exact (hNT5.tr f1).tr f6
        have n44 : ∀ c, 411 ≤ c → c ≠ 416 → c ≠ 417 → ∀ j, N4 c j = N c j := fun c h1 h2 h3 j => by
          rw [g12 c j (by unfold mS; omega), n7 c j (by unfold mI; omega) h2 h3]
        rcases g11 with ⟨k1, k2, k3, k4⟩ | ⟨g11, g14⟩
        · have n4s : N4 401 19 = nI sd := by rw [g12 401 19 (by unfold mS; omega), n7 401 19 (by unfold mI; omega) (by omega) (by omega)]; exact h19
          rw [if_pos k1.2.1.2.2.2.1, n4s, if_neg (nI_in (by omega) (by decide)), nI_clamp (by omega), if_neg (nI_inc (by omega) (by omega)), nmM_e, n44 415 (by omega) (by omega) (by omega), cd2, nI_1, bI2_s]
          refine ⟨_, _, _, _, rfl, rfl, Or.inl ⟨t7 + 1, nf, nd + 1, ng, ne, (fun k => if k = nc then tokL b n (tkF b n (t + 1)) else l k), (fun k => if k = nc then -1 else a k), c, i, by omega, ?_⟩, hNT.tr (Eo.rf.u (by unfold mT; right; right; right; left; omega)), g13⟩
          obtain ⟨s1, s2, s3⟩ := z4.resolve_right k2.nd
          have hnc : nf + (nd + 1) + ng + ne = nc + 1 := by omega
          have hMM : ∀ cc j, 12 ≤ cc → cc ≠ ld + 4 → cc ≠ ld + 5 → ¬ (cc = ld ∧ j = 1) → uM M4 ld 1 (nI (nd + 1)) cc j = M cc j := fun cc j a1 a2 a2' a3 => by
            rw [uM_diff a3, k3 cc j (by unfold cS; omega), s2 cc j (by unfold cG; omega), uM_diff (by omega), w6 cc j (by unfold cI; omega), x6 cc j (by unfold cN; omega), b2 cc j (by unfold cS; omega)]
          have hNN : ∀ cc, 411 ≤ cc → cc ≠ 416 → cc ≠ 417 → ∀ j, ¬ (cc = 415 ∧ j = sd) → uM N4 415 sd (nI (nd + 1)) cc j = N cc j := fun cc a1 a2 a2' j a3 => by rw [uM_diff a3, n44 cc a1 a2 a2' j]
          have hN1 : ∀ j, j ≠ 11 → j ≠ 13 → j ≠ 14 → j ≠ 15 → j ≠ 16 → j ≠ 20 → N4 401 j = N 401 j := fun j a1 a2 a3 a4 a5 a6 => by
            rw [g12 401 j (by unfold mS; omega), n7 401 j (by unfold mI; omega) (by omega) (by omega)]
          refine ⟨?_, ⟨?_, ?_, ?_, ?_, by omega, by omega⟩, ⟨⟨?_, ?_, cf3⟩, ⟨uM_same, uM_same, by omega⟩, ⟨?_, ?_, cg3⟩, ⟨?_, ?_, ce3⟩⟩, ?_, ?_, fun q => ?_, ?_⟩
          · exact k1.put (by omega) (by omega)
          · rw [uM_diff (by omega)]; exact n4s
          · rw [uM_diff (by omega), hN1 12 (by omega) (by omega) (by omega) (by omega) (by omega) (by omega)]; exact h12'
          · rw [uM_diff (by omega), hN1 44 (by omega) (by omega) (by omega) (by omega) (by omega) (by omega)]; exact h44
          · rw [uM_diff (by omega), hN1 38 (by omega) (by omega) (by omega) (by omega) (by omega) (by omega)]; exact h38
          · rw [hMM ld 0 (by omega) (by omega) (by omega) (by omega)]; exact cf1
          · rw [hNN 411 (by omega) (by omega) (by omega) sd (by omega)]; exact cf2
          · rw [hMM ld 2 (by omega) (by omega) (by omega) (by omega)]; exact cg1
          · rw [hNN 418 (by omega) (by omega) (by omega) sd (by omega)]; exact cg2
          · rw [hMM ld 3 (by omega) (by omega) (by omega) (by omega)]; exact ce1
          · rw [hNN 420 (by omega) (by omega) (by omega) sd (by omega)]; exact ce2
          · rw [hnc]; exact k4.keep (uM_diff (by omega)) (fun j => uM_diff (by omega))
          · rw [hnc]; exact hAv.add (Nat.le_refl _) (Or.inl rfl)
          · rw [uM_diff (by omega), k3 3 4 (by unfold cS; omega)] at q
            obtain ⟨s4, ⟨A, kk, s5, s6, s7⟩, s8⟩ := s3 q
            obtain ⟨u5, u6⟩ := hCU s4
            rw [uM_diff (by omega)] at s4
            obtain ⟨u1, u2⟩ := w5 s4
            obtain ⟨u3, -, -⟩ := x5 u1
            obtain ⟨d1, d2, d3, d4, d5, d6, d7⟩ := hDat (by rw [← b2 3 4 (by unfold cS; omega)]; exact u3)
            refine ⟨?_, ?_, d3.keep (fun cc j x1 x2 => hMM cc j (by omega) (by omega) (by omega) (by omega)) (fun cc j x1 x2 => hNN cc (by omega) (by omega) (by omega) j (by omega)), ?_, d5.keep (fun j => hMM _ j (by omega) (by omega) (by omega) (by omega)) (fun j => hNN _ (by omega) (by omega) (by omega) j (by omega)), d6.keep (fun cc j x1 x2 => hMM cc j (by omega) (by omega) (by omega) (by omega)) (fun cc j x1 x2 => hNN cc (by omega) (by omega) (by omega) j (by omega)), d7.keep (hMM ld 4 (by omega) (by omega) (by omega) (by omega)) (hNN 423 (by omega) (by omega) (by omega) sd (by omega))⟩
            · rw [hnc]
              exact u5.keep (by rw [uM_diff (by omega), k3 3 8 (by unfold cS; omega), s2 3 8 (by unfold cG; omega)]) (fun j => by rw [uM_diff (by omega), k3 10 j (by unfold cS; omega), s2 10 j (by unfold cG; omega)]) (fun _ => rfl)
            · rw [hnc]; exact u6
            · have m5 : ∀ j, uM M4 ld 1 (nI (nd + 1)) (ld + 5) j = M7 (ld + 5) j := fun j => by rw [uM_diff (by omega), k3 (ld + 5) j (by unfold cS; omega)]
              have m5' : ∀ j, (j < 6 * nd ∨ 6 * nd + 6 ≤ j) → M7 (ld + 5) j = M (ld + 5) j := fun j hj => by rw [s8 j hj, hrow5]
              have m4 : ∀ j, uM M4 ld 1 (nI (nd + 1)) (ld + 4) j = uM M3 (ld + 4) nd r3 (ld + 4) j := fun j => by rw [uM_diff (by omega), k3 (ld + 4) j (by unfold cS; omega), s2 (ld + 4) j (by unfold cG; omega)]
              have o4 : ∀ j, uM N4 415 sd (nI (nd + 1)) 416 j = uM N3 416 (5 * sd + nd) r3' 416 j := fun j => by rw [uM_diff (by omega), g12 416 j (by unfold mS; omega), z5 416 j (by unfold mI; omega), y3 416 j (by omega)]
              have o5 : ∀ j, uM N4 415 sd (nI (nd + 1)) 417 j = N7 417 j := fun j => by rw [uM_diff (by omega), g12 417 j (by unfold mS; omega)]
              have o5' : ∀ j, (j < 6 * (5 * sd + nd) ∨ 6 * (5 * sd + nd) + 6 ≤ j) → N7 417 j = N 417 j := fun j hj => by rw [z5 417 j (by unfold mI; omega), y3 417 j (by omega), uM_diff (by omega), g8 417 j (by unfold mI; omega), g4 417 j (by unfold mI; omega), q4 417 j (by unfold mS; omega)]
              refine ⟨fun k hk => ?_, fun j hj hj2 => by rw [m5, m5' j (by omega)]; exact d4.2 j (by omega) hj2⟩
              rw [m4, o4]
              by_cases hkn : k = nd
              · subst hkn
                refine ⟨⟨v, u2, by rw [uM_same]; exact w3, by rw [uM_same]; exact w4⟩, A, fun f hf => ?_, by rw [s7.2]; exact s5, by rw [s7.2]; exact s6⟩
                rw [m5, o5]
                exact s7.1 f hf
              · obtain ⟨e1, B, e2, e3, e4⟩ := d4.1 k (by omega)
                refine ⟨?_, B, fun f hf => ?_, e3, e4⟩
                · rw [uM_diff (by omega), w6 (ld + 4) k (by unfold cI; omega), x6 (ld + 4) k (by unfold cN; omega), b2 (ld + 4) k (by unfold cS; omega), uM_diff (by omega), g8 416 _ (by unfold mI; omega), g4 416 _ (by unfold mI; omega), q4 416 _ (by unfold mS; omega)]
                  exact e1
                · rw [m5, o5, m5' _ (by omega), o5' _ (by omega)]
                  exact e2 f hf
          · exact hLw.keep (fun cc j x1 x2 => hMM cc j (by omega) (by omega) (by omega) (by omega)) (fun cc j x1 x2 => hNN cc (by omega) (by omega) (by omega) j (by omega))
        · rw [if_neg g11.nf.1, bI2_s]
          exact ⟨_, _, N4, K4, rfl, rfl, Or.inr ⟨g11.put1 (by omega), hCt.mc.keep (fun c hc => n44 c (by omega) (by omega) (by omega) sd)⟩, hNT, g13⟩
      · -- dead before the first ingredient
        unfold J_Mod_tellDish_74
        obtain ⟨k2, ft, u, a1, a2, a3, a4, a5, a6, a7, a8⟩ := id hd5
        rw [if_neg (by rw [a5]; exact nI_nle (by omega) (by omega)), bI2_s]
        obtain ⟨M', e1, e2⟩ := c_ingrD (x := nI nd) (L := L2) hld hd5
        rw [e1]
        exact ⟨M', L2, N5, K, rfl, rfl, Or.inr ⟨e2, hCt.mc.keep (fun c hc => n5 c sd (by unfold mI; omega) (by omega) (by omega))⟩, hNT5, fun _ _ _ => rfl⟩
    · rw [if_neg q3.nf.1]
      obtain ⟨M', L', e1, e2⟩ := c_dishD (L := L) (ld := ld) (nd := nd) hld (by omega) q3
      rw [e1]
      exact ⟨M', L', N1, K, rfl, rfl, Or.inr ⟨e2, hCt.mc.keep (fun c hc => q4 c sd (by unfold mS; omega))⟩, q4.mono mS_mT, fun _ _ _ => rfl⟩
end PAR14
end MG12x8
section MG12x9
/-! one tell, all tells -/
section PAR15
variable {b : Nat → Nat} {n m : Nat}
theorem Lw_of {ld w : Nat} (h : isLa ld) (hw : w < 4) : isLw (ld + 9 + 4 * w) := (by decide +kernel : ∀ x ∈ lLa, ∀ w, w < 4 → (x + 9 + 4 * w) ∈ lLw) ld h w hw
theorem mW2_mT {sd w i c : Nat} (hw : w < 4) (h1 : 420 * sd ≤ c) (h2 : 130 * sd ≤ i) : ∀ cc j, mW2 sd w i c cc j → (mT sd cc j ∨ (cc = 401 ∧ j = 12)) := fun cc j q => by
  rcases q with q | q | q | q
  · rcases q with q | q | q
    · rcases q.2 with e | e | e | e | e | e
      · exact Or.inl (Or.inl ⟨q.1, Or.inl (by omega)⟩)
      · exact Or.inr ⟨q.1, e⟩
      · exact Or.inl (Or.inl ⟨q.1, Or.inl (by omega)⟩)
      · exact Or.inl (Or.inl ⟨q.1, Or.inl (by omega)⟩)
      · exact Or.inl (Or.inl ⟨q.1, by omega⟩)
      · exact Or.inl (Or.inl ⟨q.1, by omega⟩)
    · exact Or.inl (Or.inr (Or.inr (Or.inl q)))
    · refine Or.inl ?_
      unfold mT; right; right; right; right; right; right; right; right; right; right; omega
  · refine Or.inl ?_
    unfold mT; right; right; right; right; right; right; right; right; right; left; omega
  · exact Or.inl (Or.inl ⟨q.1, by omega⟩)
  · refine Or.inl ?_
    unfold mT; right; right; right; right; right; right; right; right; left; omega
theorem m_tellL {k t : Nat} {N : gM} {K : gL} (h11 : N 401 11 = nI t) (ht : t ≤ 400) (h404 : N 404 t = nI (phi k)) (hk : 132 ≤ k ∧ k ≤ 135) (hf : N 401 13 = 0) : F_Mod_tellOne N K = bI (bI (F_Mod_goesOn N) (fun M74 => F_Mod_tellLaw (nI (k - 132)) M74)) (fun M76 => some (M76, K)) := by
  have e380 : ∀ x : Int32, J_Mod_tellOne_380 x N K = bI (bI (F_Mod_goesOn N) (fun M74 => F_Mod_tellLaw x M74)) (fun M76 => some (M76, K)) := by
    intro x
    unfold J_Mod_tellOne_380
    rw [hf, if_pos (by decide)]
    cases F_Mod_goesOn N <;> rfl
  have hg : ¬ (nI t < 0 ∨ 403 ≤ t) := nI_inc (by omega) (by omega)
  unfold F_Mod_tellOne
  rw [h11, nI_clamp (by omega), if_neg hg, h404]
  rcases (show k = 132 ∨ k = 133 ∨ k = 134 ∨ k = 135 by omega) with e | e | e | e <;> subst e
  · rw [if_neg (show ¬ nI (phi 132) = 20 by decide), if_neg (show ¬ nI (phi 132) = 21 by decide), if_neg (show ¬ nI (phi 132) = 22 by decide), if_neg (show ¬ nI (phi 132) = 23 by decide), if_pos (show nI (phi 132) = 24 by decide), if_neg hg, nmI_e, if_neg (show ¬ nI (phi 132) - 24 < 0 by decide), if_neg hg, if_pos (show nI (phi 132) ≤ 27 by decide), e380]
    rfl
  · rw [if_neg (show ¬ nI (phi 133) = 20 by decide), if_neg (show ¬ nI (phi 133) = 21 by decide), if_neg (show ¬ nI (phi 133) = 22 by decide), if_neg (show ¬ nI (phi 133) = 23 by decide), if_neg (show ¬ nI (phi 133) = 24 by decide), if_pos (show nI (phi 133) = 25 by decide), if_neg hg, nmI_e, if_neg (show ¬ nI (phi 133) - 24 < 0 by decide), if_neg hg, if_pos (show nI (phi 133) ≤ 27 by decide), e380]
    rfl
  · rw [if_neg (show ¬ nI (phi 134) = 20 by decide), if_neg (show ¬ nI (phi 134) = 21 by decide), if_neg (show ¬ nI (phi 134) = 22 by decide), if_neg (show ¬ nI (phi 134) = 23 by decide), if_neg (show ¬ nI (phi 134) = 24 by decide), if_neg (show ¬ nI (phi 134) = 25 by decide), if_pos (show nI (phi 134) = 26 by decide), if_neg hg, nmI_e, if_neg (show ¬ nI (phi 134) - 24 < 0 by decide), if_neg hg, if_pos (show nI (phi 134) ≤ 27 by decide), e380]
    rfl
  · rw [if_neg (show ¬ nI (phi 135) = 20 by decide), if_neg (show ¬ nI (phi 135) = 21 by decide), if_neg (show ¬ nI (phi 135) = 22 by decide), if_neg (show ¬ nI (phi 135) = 23 by decide), if_neg (show ¬ nI (phi 135) = 24 by decide), if_neg (show ¬ nI (phi 135) = 25 by decide), if_neg (show ¬ nI (phi 135) = 26 by decide), if_pos (show nI (phi 135) = 27 by decide), if_neg hg, nmI_e, if_neg (show ¬ nI (phi 135) - 24 < 0 by decide), if_neg hg, if_pos (show nI (phi 135) ≤ 27 by decide), e380]
    rfl
/-- all the other tokens -/
def othK (k : Nat) : Bool := decide (k < 128) || decide (136 < k)
theorem m_tellX {k t : Nat} {N : gM} {K : gL} (h11 : N 401 11 = nI t) (ht : t ≤ 400) (h404 : N 404 t = nI (phi k)) (hk : othK k = true) (hd : kdom k) : F_Mod_tellOne N K = bI (F_Mod_fail 1 N) (fun M71 => J_Mod_tellOne_380 (nI (phi k) - 24) M71 K) := by
  have hg : ¬ (nI t < 0 ∨ 403 ≤ t) := nI_inc (by omega) (by omega)
  have a1 := (by decide +kernel : ∀ k, k < 149 → kdomB k = true → othK k = true → ¬ nI (phi k) = 20) k (by have := kdom_le hd; omega) (kdomB_iff.mpr hd) hk
  have a2 := (by decide +kernel : ∀ k, k < 149 → kdomB k = true → othK k = true → ¬ nI (phi k) = 21) k (by have := kdom_le hd; omega) (kdomB_iff.mpr hd) hk
  have a3 := (by decide +kernel : ∀ k, k < 149 → kdomB k = true → othK k = true → ¬ nI (phi k) = 22) k (by have := kdom_le hd; omega) (kdomB_iff.mpr hd) hk
  have a4 := (by decide +kernel : ∀ k, k < 149 → kdomB k = true → othK k = true → ¬ nI (phi k) = 23) k (by have := kdom_le hd; omega) (kdomB_iff.mpr hd) hk
  have a5 := (by decide +kernel : ∀ k, k < 149 → kdomB k = true → othK k = true → ¬ nI (phi k) = 24) k (by have := kdom_le hd; omega) (kdomB_iff.mpr hd) hk
  have a6 := (by decide +kernel : ∀ k, k < 149 → kdomB k = true → othK k = true → ¬ nI (phi k) = 25) k (by have := kdom_le hd; omega) (kdomB_iff.mpr hd) hk
  have a7 := (by decide +kernel : ∀ k, k < 149 → kdomB k = true → othK k = true → ¬ nI (phi k) = 26) k (by have := kdom_le hd; omega) (kdomB_iff.mpr hd) hk
  have a8 := (by decide +kernel : ∀ k, k < 149 → kdomB k = true → othK k = true → ¬ nI (phi k) = 27) k (by have := kdom_le hd; omega) (kdomB_iff.mpr hd) hk
  have a9 := (by decide +kernel : ∀ k, k < 149 → kdomB k = true → othK k = true → ¬ nI (phi k) = 28) k (by have := kdom_le hd; omega) (kdomB_iff.mpr hd) hk
  have a10 := (by decide +kernel : ∀ k, k < 149 → kdomB k = true → othK k = true → (nI (phi k) - 24 < 0 ∨ ¬ nI (phi k) ≤ 27)) k (by have := kdom_le hd; omega) (kdomB_iff.mpr hd) hk
  unfold F_Mod_tellOne
  rw [h11, nI_clamp (by omega), if_neg hg, h404, if_neg a1, if_neg a2, if_neg a3, if_neg a4, if_neg a5, if_neg a6, if_neg a7, if_neg a8, if_neg a9, if_neg hg, nmI_e]
  unfold J_Mod_tellOne_375
  by_cases h0 : nI (phi k) - 24 < 0
  · rw [if_pos h0]
  · rw [if_neg h0, if_neg hg, if_neg (a10.resolve_left h0)]
theorem t_law {ld sd t nf nd ng ne c i w : Nat} {l : Nat → List Nat} {a : Nat → Int32} {M N : gM} {L K : gL} (hld : isLa ld) (hsd : sd ≤ 1) (hR : RS b n m ld sd t nf nd ng ne l a c i M L N K) (hw : w < 4) (hk : tkK b n t = 132 + w) :
    ∃ M' N', F_Reader_takeLaw (ld + 9 + 4 * w) M L = some M' ∧ F_Mod_tellOne N K = some (N', K) ∧ (((∃ t' nf nd ng ne l a c i, t + 1 ≤ t' ∧ RS b n m ld sd t' nf nd ng ne l a c i M' L N' K) ∨ (Dd b n m M' N' ∧ Mcnt sd N')) ∧ Eo (fun c j => mT sd c j ∨ (c = 401 ∧ j = 12)) N N') := by
  have h12 := La_12 hld
  have hW := Lw_of hld hw
  obtain ⟨hI, ⟨h19, h12', h44, h38, hc, hi⟩, hCt, hMn, hAv, hDat, hLw⟩ := id hR
  have hm := hI.1.m400
  have htm := hI.2.1.2.2.2.2
  rw [m_tellL (k := 132 + w) hI.2.1.2.2.1 (by omega) (by rw [(hI.1.2.2.1 t (by omega)).1, hk]) (by omega) hI.2.1.2.2.2.1, show 132 + w - 132 = w by omega]
  obtain ⟨M', N', g1, g2, g3, g4⟩ := p_law hW hsd hw hI.1 hI.2.1 h44 h12' h38 h19 hc.2 hi.2 hc.1 hi.1 (by omega) (by omega)
  rw [g2, bI_s]
  refine ⟨M', N', g1, rfl, ?_, g4.mono (mW2_mT hw hc.1 hi.1)⟩
  have hNN : ∀ cc, 411 ≤ cc → cc ≤ 423 → ∀ j, N' cc j = N cc j := fun cc h1 h2 j => g4 cc j (by unfold mW2 mE; omega)
  rcases g3 with ⟨t', c', i', y1, y2, y3, y4, y5, y6, y7, y8, y9, y10, y11, y12⟩ | g3
  · have hMM : ∀ cc j, 12 ≤ cc → ¬ (ld + 9 + 4 * w ≤ cc ∧ cc ≤ ld + 10 + 4 * w) → M' cc j = M cc j := fun cc j x1 x2 => y12 cc j (by unfold cE; omega)
    obtain ⟨lf, hL⟩ := hI.2.2
    obtain ⟨⟨cf1, cf2, cf3⟩, ⟨cd1, cd2, cd3⟩, ⟨cg1, cg2, cg3⟩, ⟨ce1, ce2, ce3⟩⟩ := id hCt
    refine Or.inl ⟨t', nf, nd, ng, ne, l, a, c', i', by omega, ⟨y2, y3, lf, hL.up (by omega) (y12 3 4 (by unfold cE; omega)) (y12 3 5 (by unfold cE; omega)) (g4 401 15 (by unfold mW2 mE; omega)) (g4 401 16 (by unfold mW2 mE; omega))⟩, ⟨?_, y5, y4, y6, by omega, by omega⟩, ⟨⟨?_, ?_, cf3⟩, ⟨?_, ?_, cd3⟩, ⟨?_, ?_, cg3⟩, ⟨?_, ?_, ce3⟩⟩, hMn.keep (g4 401 20 (by unfold mW2 mE; omega)) (fun j => g4 410 j (by unfold mW2 mE; omega)), hAv, fun q => ?_, fun w' hw' => ?_⟩
    · rw [g4 401 19 (by unfold mW2 mE; omega)]; exact h19
    · rw [hMM ld 0 (by omega) (by omega)]; exact cf1
    · rw [hNN 411 (by omega) (by omega)]; exact cf2
    · rw [hMM ld 1 (by omega) (by omega)]; exact cd1
    · rw [hNN 415 (by omega) (by omega)]; exact cd2
    · rw [hMM ld 2 (by omega) (by omega)]; exact cg1
    · rw [hNN 418 (by omega) (by omega)]; exact cg2
    · rw [hMM ld 3 (by omega) (by omega)]; exact ce1
    · rw [hNN 420 (by omega) (by omega)]; exact ce2
    · rw [y12 3 4 (by unfold cE; omega)] at q
      obtain ⟨d1, d2, d3, d4, d5, d6, d7⟩ := hDat q
      exact ⟨d1.keep (y12 3 8 (by unfold cE; omega)) (fun j => y12 10 j (by unfold cE; omega)) (fun _ => rfl), d2, d3.keep (fun cc j x1 x2 => hMM cc j (by omega) (by omega)) (fun cc j x1 x2 => hNN cc (by omega) (by omega) j), d4.keep (Nat.le_refl _) (fun cc j x1 x2 => hMM cc j (by omega) (by omega)) (fun cc j x1 x2 => hNN cc (by omega) (by omega) j), d5.keep (fun j => hMM _ j (by omega) (by omega)) (fun j => hNN _ (by omega) (by omega) j), d6.keep (fun cc j x1 x2 => hMM cc j (by omega) (by omega)) (fun cc j x1 x2 => hNN cc (by omega) (by omega) j), d7.keep (hMM ld 4 (by omega) (by omega)) (hNN 423 (by omega) (by omega) sd)⟩
    · by_cases e : w' = w
      · subst e; exact Or.inr y11
      · rcases hLw w' hw' with ⟨z1, z2, z3⟩ | z
        · exact Or.inl ⟨by rw [hMM _ _ (by omega) (by omega)]; exact z1, by rw [g4 424 _ (by unfold mW2 mE; omega)]; exact z2, by rw [g4 425 _ (by unfold mW2 mE; omega)]; exact z3⟩
        · exact Or.inr (z.keep y7 y8 (hMM _ _ (by omega) (by omega)) (fun j => hMM _ _ (by omega) (by omega)) (fun j _ hj => ⟨g4 431 j (by unfold mW2 mE; omega), g4 432 j (by unfold mW2 mE; omega)⟩) (fun cc j x1 x2 _ x3 => g4 cc j (by unfold mW2 mE; omega)) (g4 424 _ (by unfold mW2 mE; omega)) (g4 425 _ (by unfold mW2 mE; omega)))
  · exact Or.inr ⟨g3, hCt.mc.keep (fun cc hcc => hNN cc (by omega) (by omega) sd)⟩
end PAR15
end MG12x9
section MG12x10
/-! all tells -/
section PAR16
variable {b : Nat → Nat} {n m : Nat}
def mP (sd c j : Nat) : Prop := mT sd c j ∨ (c = 401 ∧ j = 12)
theorem pd7 {ld j : Nat} (h : isLa ld) : PD ld 7 j = false := by
  have := La_12 h
  exact PD_m (by omega)
theorem pw7 {W j : Nat} (h : isLw W) : PW W 7 j = false := by
  have := Lw_12 h
  unfold PW
  have h1 : P3 7 j = false := rfl
  rw [h1, Bool.false_or, Bool.and_eq_false_iff]
  exact Or.inl (decide_eq_false (by omega))
theorem l_parse {ld sd : Nat} (hld : isLa ld) (hsd : sd ≤ 1) : ∀ (d t : Nat), 401 - t = d → ∀ (v f g nf nd ng ne c i : Nat) (l : Nat → List Nat) (a : Nat → Int32) (M : gM) (L : gL) (N : gM) (K : gL), RS b n m ld sd t nf nd ng ne l a c i M L N K → v ≤ t → d < f → d < g →
    ∃ M' L' N' K', H_Reader_parse_34 ld f (nI v) M L = J_Reader_parse_215 ld M' L' ∧ H_Mod_read_112 g N K = J_Mod_read_134 N' K' ∧ ((∃ t' nf nd ng ne l a c i, RS b n m ld sd t' nf nd ng ne l a c i M' L' N' K') ∨ (Dd b n m M' N' ∧ Mcnt sd N')) ∧ Eo (mP sd) N N' ∧ (∀ c j, c ≠ 409 → K' c j = K c j) ∧ Kq (PD ld) M L M' L' := by
  intro d
  induction d using Nat.strongRecOn with
  | ind d ih =>
  intro t ht v f g nf nd ng ne c i l a M L N K hR hv hf hg
  obtain ⟨f, rfl⟩ : ∃ x, f = x + 1 := ⟨f - 1, by omega⟩
  obtain ⟨g, rfl⟩ : ∃ x, g = x + 1 := ⟨g - 1, by omega⟩
  have hI := hR.1
  have hm := hI.1.m400
  have htm := hI.2.1.2.2.2.2
  have eM : H_Reader_parse_34 ld (f + 1) (nI v) M L = B_Reader_parse_34 ld (H_Reader_parse_34 ld f) (nI v) M L := rfl
  have eN : H_Mod_read_112 (g + 1) N K = B_Mod_read_112 (H_Mod_read_112 g) N K := rfl
  rw [eM, eN]
  unfold B_Reader_parse_34 B_Mod_read_112
  rw [if_neg (by rw [show (400 : Int32) = nI 400 from rfl, nI_ltI (by omega) (by omega)]; omega), hI.2.1.2.1, if_pos rfl, r_is hI.1 (k := 0) (kk := 0) rfl hI.2.1.1 htm (by decide), bI_s, hI.2.1.2.2.2.1, if_pos rfl, q_is hI.1 (k := 0) (kk := 0) rfl (Or.inl (by decide)) hI.2.1.2.2.1 hI.2.1.2.2.2.1 htm, bI_s]
  by_cases h0 : tkK b n t = 0
  · rw [if_pos h0, if_neg (show ¬ (1 : Int32) = 0 by decide), if_neg (show ¬ (1 : Int32) = 0 by decide)]
    exact ⟨M, L, N, K, rfl, rfl, Or.inl ⟨t, nf, nd, ng, ne, l, a, c, i, hR⟩, Eo.rf, fun _ _ _ => rfl, Kq.rf⟩
  rw [if_neg h0, if_pos (show (0 : Int32) = 0 from rfl), if_pos (show (0 : Int32) = 0 from rfl), r_kind hI.1 hI.2.1.1 htm, bI_s]
  have fin : ∀ (M' : gM) (L' : gL) (N' : gM) (K' : gL), ((∃ t' nf nd ng ne l a c i, t + 1 ≤ t' ∧ RS b n m ld sd t' nf nd ng ne l a c i M' L' N' K') ∨ (Dd b n m M' N' ∧ Mcnt sd N')) → Eo (mP sd) N N' → (∀ c j, c ≠ 409 → K' c j = K c j) → Kq (PD ld) M L M' L' →
      ∃ M2 L2 N2 K2, J_Reader_parse_209 ld (H_Reader_parse_34 ld f) (nI v) M' L' = J_Reader_parse_215 ld M2 L2 ∧ H_Mod_read_112 g N' K' = J_Mod_read_134 N2 K2 ∧ ((∃ t' nf nd ng ne l a c i, RS b n m ld sd t' nf nd ng ne l a c i M2 L2 N2 K2) ∨ (Dd b n m M2 N2 ∧ Mcnt sd N2)) ∧ Eo (mP sd) N N2 ∧ (∀ c j, c ≠ 409 → K2 c j = K c j) ∧ Kq (PD ld) M L M2 L2 := by
    intro M' L' N' K' h hN hK h7
    unfold J_Reader_parse_209
    rw [nmI_e, nI_1]
    rcases h with ⟨t', nf', nd', ng', ne', l', a', c', i', h1, h2⟩ | ⟨h1, h2⟩
    · have htm' := h2.1.2.1.2.2.2.2
      obtain ⟨M2, L2, N2, K2, y1, y2, y3, y4, y5, y6⟩ := ih (401 - t') (by omega) t' rfl (v + 1) f g nf' nd' ng' ne' c' i' l' a' M' L' N' K' h2 (by omega) (by omega) (by omega)
      exact ⟨M2, L2, N2, K2, y1, y2, y3, hN.tr y4, fun c j q => (y5 c j q).trans (hK c j q), h7.trans y6⟩
    · obtain ⟨f, rfl⟩ : ∃ x, f = x + 1 := ⟨f - 1, by omega⟩
      obtain ⟨g, rfl⟩ : ∃ x, g = x + 1 := ⟨g - 1, by omega⟩
      refine ⟨M', L', N', K', ?_, ?_, Or.inr ⟨h1, h2⟩, hN, hK, h7⟩
      · show B_Reader_parse_34 ld (H_Reader_parse_34 ld f) (nI (v + 1)) M' L' = _
        unfold B_Reader_parse_34
        by_cases h4 : 400 < nI (v + 1)
        · rw [if_pos h4]
        · rw [if_neg h4, if_neg h1.nf.2]
      · show B_Mod_read_112 (H_Mod_read_112 g) N' K' = _
        unfold B_Mod_read_112
        rw [if_neg h1.nf.1]
  have ne : ∀ k : Nat, k ≤ 148 → tkK b n t ≠ k → ¬ nI (tkK b n t) = nI k := fun k hk h q => h ((nI_eq (by have := tkK_148 (b := b) (n := n) (i := t); omega) (by omega)).mp q)
  by_cases k0 : tkK b n t = 128
  · obtain ⟨M', L', N', K', e1, e2, e3, e4, e5⟩ := t_food hld hsd hR k0
    rw [if_pos (by rw [k0]; rfl), e1, bI2_s, e2, bI2_s]
    have h7 : Kq (PD ld) M L M' L' := by
      obtain ⟨M9, L9, f1, f2⟩ := tq_Reader_takeFood (Ld1 := ld) (M := M) (L := L) hld
      have f3 := Option.some.inj (f1.symm.trans e1)
      injection f3 with f4 f5
      subst f4
      subst f5
      exact f2
    exact fin M' L' N' K' e3 (e4.mono (fun _ _ q => Or.inl q)) e5 h7
  rw [if_neg (show ¬ nI (tkK b n t) = 128 from ne 128 (by decide) k0)]
  by_cases k1 : tkK b n t = 129
  · obtain ⟨M', L', N', K', e1, e2, e3, e4, e5⟩ := t_dish hld hsd hR k1
    rw [if_pos (by rw [k1]; rfl), e1, bI2_s, e2, bI2_s]
    have h7 : Kq (PD ld) M L M' L' := by
      obtain ⟨M9, L9, f1, f2⟩ := tq_Reader_takeDish (Ld1 := ld) (M := M) (L := L) hld
      have f3 := Option.some.inj (f1.symm.trans e1)
      injection f3 with f4 f5
      subst f4
      subst f5
      exact f2
    exact fin M' L' N' K' e3 (e4.mono (fun _ _ q => Or.inl q)) e5 h7
  rw [if_neg (show ¬ nI (tkK b n t) = 129 from ne 129 (by decide) k1)]
  by_cases k2 : tkK b n t = 130
  · obtain ⟨M', L', N', K', e1, e2, e3, e4, e5⟩ := t_guest hld hsd hR k2
    rw [if_pos (by rw [k2]; rfl), e1, bI2_s, e2, bI2_s]
    have h7 : Kq (PD ld) M L M' L' := by
      obtain ⟨M9, L9, f1, f2⟩ := tq_Reader_takeGuest (Ld1 := ld) (M := M) (L := L) hld
      have f3 := Option.some.inj (f1.symm.trans e1)
      injection f3 with f4 f5
      subst f4
      subst f5
      exact f2
    exact fin M' L' N' K' e3 (e4.mono (fun _ _ q => Or.inl q)) e5 h7
  rw [if_neg (show ¬ nI (tkK b n t) = 130 from ne 130 (by decide) k2)]
  by_cases k3 : tkK b n t = 131
  · obtain ⟨M', L', N', K', e1, e2, e3, e4, e5⟩ := t_deed hld hsd hR k3
    rw [if_pos (by rw [k3]; rfl), e1, bI2_s, e2, bI2_s]
    have h7 : Kq (PD ld) M L M' L' := by
      obtain ⟨M9, L9, f1, f2⟩ := tq_Reader_takeDeed (Ld1 := ld) (M := M) (L := L) hld
      have f3 := Option.some.inj (f1.symm.trans e1)
      injection f3 with f4 f5
      subst f4
      subst f5
      exact f2
    exact fin M' L' N' K' e3 (e4.mono (fun _ _ q => Or.inl q)) e5 h7
  rw [if_neg (show ¬ nI (tkK b n t) = 131 from ne 131 (by decide) k3)]
  by_cases k4 : tkK b n t = 132
  · obtain ⟨M', N', e1, e2, e3, e4⟩ := t_law (w := 0) hld hsd hR (by decide) k4
    rw [if_pos (by rw [k4]; rfl), show F_Reader_takeLaw (ld + 9) M L = some M' from e1, bI_s, e2, bI2_s]
    have h7 : Kq (PD ld) M L M' L := by
      obtain ⟨M9, f1, f2⟩ := tq_Reader_takeLaw (Wl1 := ld + 9) (M := M) (L := L) (Lw_of (w := 0) hld (by decide))
      have f3 := Option.some.inj (f1.symm.trans e1)
      subst f3
      exact f2.mono (PW_PD (by decide))
    exact fin M' L N' K e3 e4 (fun _ _ _ => rfl) h7
  rw [if_neg (show ¬ nI (tkK b n t) = 132 from ne 132 (by decide) k4)]
  by_cases k5 : tkK b n t = 133
  · obtain ⟨M', N', e1, e2, e3, e4⟩ := t_law (w := 1) hld hsd hR (by decide) k5
    rw [if_pos (by rw [k5]; rfl), show F_Reader_takeLaw (ld + 13) M L = some M' from e1, bI_s, e2, bI2_s]
    have h7 : Kq (PD ld) M L M' L := by
      obtain ⟨M9, f1, f2⟩ := tq_Reader_takeLaw (Wl1 := ld + 13) (M := M) (L := L) (Lw_of (w := 1) hld (by decide))
      have f3 := Option.some.inj (f1.symm.trans e1)
      subst f3
      exact f2.mono (PW_PD (by decide))
    exact fin M' L N' K e3 e4 (fun _ _ _ => rfl) h7
  rw [if_neg (show ¬ nI (tkK b n t) = 133 from ne 133 (by decide) k5)]
  by_cases k6 : tkK b n t = 134
  · obtain ⟨M', N', e1, e2, e3, e4⟩ := t_law (w := 2) hld hsd hR (by decide) k6
    rw [if_pos (by rw [k6]; rfl), show F_Reader_takeLaw (ld + 17) M L = some M' from e1, bI_s, e2, bI2_s]
    have h7 : Kq (PD ld) M L M' L := by
      obtain ⟨M9, f1, f2⟩ := tq_Reader_takeLaw (Wl1 := ld + 17) (M := M) (L := L) (Lw_of (w := 2) hld (by decide))
      have f3 := Option.some.inj (f1.symm.trans e1)
      subst f3
      exact f2.mono (PW_PD (by decide))
    exact fin M' L N' K e3 e4 (fun _ _ _ => rfl) h7
  rw [if_neg (show ¬ nI (tkK b n t) = 134 from ne 134 (by decide) k6)]
  by_cases k7 : tkK b n t = 135
  · obtain ⟨M', N', e1, e2, e3, e4⟩ := t_law (w := 3) hld hsd hR (by decide) k7
    rw [if_pos (by rw [k7]; rfl), show F_Reader_takeLaw (ld + 21) M L = some M' from e1, bI_s, e2, bI2_s]
    have h7 : Kq (PD ld) M L M' L := by
      obtain ⟨M9, f1, f2⟩ := tq_Reader_takeLaw (Wl1 := ld + 21) (M := M) (L := L) (Lw_of (w := 3) hld (by decide))
      have f3 := Option.some.inj (f1.symm.trans e1)
      subst f3
      exact f2.mono (PW_PD (by decide))
    exact fin M' L N' K e3 e4 (fun _ _ _ => rfl) h7
  rw [if_neg (show ¬ nI (tkK b n t) = 135 from ne 135 (by decide) k7)]
  by_cases k8 : tkK b n t = 136
  · obtain ⟨M', N', K', e1, e2, e3, e4, e5⟩ := t_seed hld hsd hR k8
    rw [if_pos (by rw [k8]; rfl), e1, bI_s, e2, bI2_s]
    have h7 : Kq (PD ld) M L M' L := by
      obtain ⟨M9, f1, f2⟩ := tq_Reader_takeSeed (Ld1 := ld) (M := M) (L := L) hld
      have f3 := Option.some.inj (f1.symm.trans e1)
      subst f3
      exact f2
    exact fin M' L N' K' e3 (e4.mono (fun _ _ q => Or.inl q)) e5 h7
  rw [if_neg (show ¬ nI (tkK b n t) = 136 from ne 136 (by decide) k8)]
  obtain ⟨M1, N1, q1, q2, q3, q4⟩ := p_fail (k := 1) (kk := 1) rfl (Or.inl rfl) (Or.inl ⟨hI.1, hI.2.1⟩)
  obtain ⟨kk, ft, u, a1, a2, a3, a4, a5, a6, a7, a8⟩ := id q3
  rw [q1, bI_s, m_tellX (k := tkK b n t) hI.2.1.2.2.1 (by omega) (hI.1.2.2.1 t (by omega)).1 (by unfold othK; simp only [Bool.or_eq_true, decide_eq_true_eq]; omega) tkK_dom, q2, bI_s]
  unfold J_Mod_tellOne_380
  rw [if_neg (by rw [a5]; exact nI_nle (by omega) (by omega)), bI2_s]
  exact fin M1 L N1 K (Or.inr ⟨q3, hR.2.2.1.mc.keep (fun c hc => q4 c sd (by unfold mS; omega))⟩) (q4.mono (fun _ _ q => Or.inl (mS_mT _ _ q))) (fun _ _ _ => rfl) (by
    obtain ⟨M9, f1, f2⟩ := tq_Reader_stop (p1 := 1) (M := M) (L := L)
    have f3 := Option.some.inj (f1.symm.trans q1)
    subst f3
    exact f2.mono P3_PD)
end PAR16
end MG12x10
section MG12x11
/-! from the bytes to the first token -/
section PAR17
variable {b : Nat → Nat} {n m : Nat}
theorem c_clear {ld : Nat} {M : gM} (hld : 12 ≤ ld) : ∃ M', F_Land_clear ld M = some M' ∧ (∀ j, j < 5 → M' ld j = 0) ∧ (∀ j, j < 30 → M' (ld + 5) j = 0) ∧ (∀ w, w < 4 → M' (ld + 9 + 4 * w) 1 = 0) ∧ Eo (fun c _ => (ld ≤ c ∧ c ≤ ld + 5) ∨ c = ld + 9 ∨ c = ld + 13 ∨ c = ld + 17 ∨ c = ld + 21) M M' := by
  unfold F_Land_clear F_Law_clear
  rw [nmM_e, nmM_e, nmM_e, nmM_e, nmM_e, s_wipe (by decide), bI_s, nmM_e, bI_s, nmM_e, bI_s, nmM_e, bI_s, nmM_e, bI_s]
  refine ⟨_, rfl, fun j hj => ?_, fun j hj => ?_, fun w hw => ?_, ?_⟩
  · rw [uM_diff (by omega), uM_diff (by omega), uM_diff (by omega), uM_diff (by omega), fl_out (by omega)]
    rcases (show j = 0 ∨ j = 1 ∨ j = 2 ∨ j = 3 ∨ j = 4 by omega) with e | e | e | e | e <;> subst e
    · rw [uM_diff (by omega), uM_diff (by omega), uM_diff (by omega), uM_diff (by omega), uM_same]
    · rw [uM_diff (by omega), uM_diff (by omega), uM_diff (by omega), uM_same]
    · rw [uM_diff (by omega), uM_diff (by omega), uM_same]
    · rw [uM_diff (by omega), uM_same]
    · rw [uM_same]
  · rw [uM_diff (by omega), uM_diff (by omega), uM_diff (by omega), uM_diff (by omega), fl_in (by omega)]
  · rcases (show w = 0 ∨ w = 1 ∨ w = 2 ∨ w = 3 by omega) with e | e | e | e <;> subst e
    · rw [uM_diff (by omega), uM_diff (by omega), uM_diff (by omega)]; exact uM_same
    · rw [uM_diff (by omega), uM_diff (by omega)]; exact uM_same
    · rw [uM_diff (by omega)]; exact uM_same
    · exact uM_same
  · intro c j q
    rw [uM_diff (by omega), uM_diff (by omega), uM_diff (by omega), uM_diff (by omega), fl_out (by omega), uM_diff (by omega), uM_diff (by omega), uM_diff (by omega), uM_diff (by omega), uM_diff (by omega)]
theorem m_plainL {sd : Nat} (hsd : sd ≤ 1) : ∀ (d v g : Nat) (N : gM), v + d = 4 → d < g → ∃ N', H_Mod_plain_37 (nI sd) g (nI v) N = some N' ∧ (∀ w, v ≤ w → w < 4 → N' 424 (4 * sd + w) = 0 ∧ N' 425 (4 * sd + w) = 0) ∧ Eo (fun c j => (c = 424 ∨ c = 425) ∧ 4 * sd + v ≤ j ∧ j < 4 * sd + 4) N N' := by
  intro d
  induction d with
  | zero =>
    intro v g N hv hg
    obtain ⟨g, rfl⟩ : ∃ x, g = x + 1 := ⟨g - 1, by omega⟩
    obtain rfl : v = 4 := by omega
    refine ⟨N, ?_, fun w h1 h2 => absurd h2 (by omega), Eo.rf⟩
    show B_Mod_plain_37 (nI sd) (H_Mod_plain_37 (nI sd) g) (nI 4) N = _
    unfold B_Mod_plain_37
    rw [if_pos (by decide)]
  | succ d ih =>
    intro v g N hv hg
    obtain ⟨g, rfl⟩ : ∃ x, g = x + 1 := ⟨g - 1, by omega⟩
    have ew : (4 : Int32) * nI sd + nI v = nI (4 * sd + v) := by rw [show (4 : Int32) = nI 4 from rfl, nI_mul, nI_add]
    obtain ⟨N', e1, e2, e3⟩ := ih (v + 1) g (uM (uM N 424 (4 * sd + v) 0) 425 (4 * sd + v) 0) (by omega) (by omega)
    refine ⟨N', ?_, fun w h1 h2 => ?_, Eo.tr ((Eo.rf.u ⟨Or.inl rfl, by omega⟩).u ⟨Or.inr rfl, by omega⟩) (e3.mono (fun c j q => by omega))⟩
    · show B_Mod_plain_37 (nI sd) (H_Mod_plain_37 (nI sd) g) (nI v) N = _
      unfold B_Mod_plain_37
      rw [if_neg (by rw [show (4 : Int32) = nI 4 from rfl, nI_leI (by omega) (by omega)]; omega), ew, nI_clamp (by omega), if_neg (nI_inc (by omega) (by omega)), nmM_e, if_neg (nI_inc (by omega) (by omega)), nmM_e, nmI_e, nI_1]
      exact e1
    · by_cases e : w = v
      · rw [e, e3 424 _ (by omega), e3 425 _ (by omega), uM_diff (by omega), uM_same, uM_same]
        exact ⟨rfl, rfl⟩
      · exact e2 w (by omega) h2
theorem m_plain {sd : Nat} {N : gM} (hsd : sd ≤ 1) : ∃ N', F_Mod_plain (nI sd) N = some N' ∧ (∀ c, (c = 411 ∨ c = 415 ∨ c = 418 ∨ c = 420 ∨ c = 423) → N' c sd = 0) ∧ (∀ w, w < 4 → N' 424 (4 * sd + w) = 0 ∧ N' 425 (4 * sd + w) = 0) ∧ Eo (fun c j => ((c = 411 ∨ c = 415 ∨ c = 418 ∨ c = 420 ∨ c = 423) ∧ j = sd) ∨ ((c = 424 ∨ c = 425) ∧ 4 * sd ≤ j ∧ j < 4 * sd + 4)) N N' := by
  unfold F_Mod_plain
  have hg : ¬ (nI sd < 0 ∨ 2 ≤ sd) := nI_inc (by omega) (by omega)
  rw [nI_clamp (by omega), if_neg hg, nmM_e, if_neg hg, nmM_e, if_neg hg, nmM_e, if_neg hg, nmM_e, if_neg hg, nmM_e]
  obtain ⟨N', e1, e2, e3⟩ := m_plainL hsd 4 0 FU (uM (uM (uM (uM (uM N 411 sd 0) 415 sd 0) 418 sd 0) 420 sd 0) 423 sd 0) rfl (by unfold FU; omega)
  refine ⟨N', e1, fun c hc => ?_, fun w hw => e2 w (Nat.zero_le _) hw, ?_⟩
  · rw [e3 c sd (by omega)]
    rcases hc with e | e | e | e | e <;> subst e
    · rw [uM_diff (by omega), uM_diff (by omega), uM_diff (by omega), uM_diff (by omega), uM_same]
    · rw [uM_diff (by omega), uM_diff (by omega), uM_diff (by omega), uM_same]
    · rw [uM_diff (by omega), uM_diff (by omega), uM_same]
    · rw [uM_diff (by omega), uM_same]
    · rw [uM_same]
  · refine Eo.tr (((((Eo.rf.u ?_).u ?_).u ?_).u ?_).u ?_) (e3.mono (fun c j q => Or.inr (by omega))) <;> exact Or.inl ⟨by omega, rfl⟩
theorem tk_of {M N : gM} {L K : gL} {m2 : Nat} (h1 : isLast b n m) (h2 : Ck b n m M L) (h3 : m2 = 401 ∨ 0 < m2 ∧ tkK b n (m2 - 1) = 0) (h4 : Ckm b n m2 N K) (hn : n ≤ 2000) : Tk b n m M L N K := by
  refine ⟨h1, h2, fun i hi => h4 i ?_, hn⟩
  have hm := h1.1
  rcases h3 with h3 | ⟨h3, h5⟩
  · omega
  · rcases Nat.lt_or_ge (m2 - 1) m with g | g
    · exact absurd h5 (h1.2.1 _ g).1
    · omega
/-- both parsers, from the bytes on -/
theorem p_parse {ld sd : Nat} {M N : gM} {L K : gL} (hld : isLa ld) (hsd : sd ≤ 1) (hT : Tp b n M) (hW : Wdc L) (hX : Tx b n N) (hWm : Wdm K) (h18 : N 401 18 = nI (1 - sd)) :
    ∃ m M' L' N' K', F_Reader_parse ld M L = J_Reader_parse_215 ld M' L' ∧ J_Mod_read_36 N K = J_Mod_read_134 N' K' ∧ ((∃ t' nf nd ng ne l a c i, RS b n m ld sd t' nf nd ng ne l a c i M' L' N' K') ∨ (Dd b n m M' N' ∧ Mcnt sd N')) ∧ Eo (fun c j => mP sd c j ∨ tkS c j ∨ (c = 401 ∧ (j = 2 ∨ j = 19))) N N' ∧ (∀ c j, c ≠ 407 → c ≠ 409 → K' c j = K c j) ∧ isLast b n m ∧ (∀ j, j ≤ m → M' 7 j = nI (tkF b n j)) ∧ (∀ c j, PD ld c j = false → c ≠ 6 → c ≠ 7 → M' c j = M c j) ∧ (∀ c j, c ≠ 8 → c ≠ 9 → L' c j = L c j) ∧ N' 401 2 = 0 := by
  have h12 := La_12 hld
  obtain ⟨m, M2, L3, x1, x2, x3, x4, x5⟩ := c_cut hT hW
  have hX2 : Tx b n (uM N 401 2 0) := ⟨by rw [uM_diff (by omega)]; exact hX.1, hX.2.1, fun j hj => by rw [uM_diff (by omega)]; exact hX.2.2 j hj⟩
  obtain ⟨m2, N2, K2, y1, y2, y3, y4, y5⟩ := m_cut hX2 hWm
  obtain ⟨M5, z1, z2, z3, z4, z5⟩ := c_clear (ld := ld) (M := M2) h12
  unfold F_Reader_parse J_Mod_read_36
  rw [x2, bI2_s, z1, bI_s, nmM_e, nmM_e, nmM_e, nmM_e, nmM_e, y1, bI2_s, nmM_e, nmM_e, nmM_e, nmM_e, nmM_e, nmM_e]
  have e18 : N2 401 18 = nI (1 - sd) := by rw [y4 401 18 (by unfold tkS; omega), uM_diff (by omega)]; exact h18
  have e19 : (1 : Int32) - nI (1 - sd) = nI sd := by rw [show (1 : Int32) = nI 1 from rfl, nI_sub (by omega), show 1 - (1 - sd) = sd by omega]
  rw [show uM (uM (uM (uM N2 401 11 0) 401 12 0) 401 13 0) 401 15 0 401 18 = nI (1 - sd) by rw [uM_diff (by omega), uM_diff (by omega), uM_diff (by omega), uM_diff (by omega)]; exact e18, e19]
  generalize hN12 : uM (uM (uM (uM (uM (uM N2 401 11 0) 401 12 0) 401 13 0) 401 15 0) 401 19 (nI sd)) 401 20 0 = N12
  have q19 : N12 401 19 = nI sd := by rw [← hN12, uM_diff (by omega), uM_same]
  have f12 : Eo (fun c j => c = 401 ∧ (j = 11 ∨ j = 12 ∨ j = 13 ∨ j = 15 ∨ j = 19 ∨ j = 20)) N2 N12 := by
    rw [← hN12]
    exact (((((Eo.rf.u ⟨rfl, by omega⟩).u ⟨rfl, by omega⟩).u ⟨rfl, by omega⟩).u ⟨rfl, by omega⟩).u ⟨rfl, by omega⟩).u ⟨rfl, by omega⟩
  obtain ⟨N14, p1, p2, p3, p4⟩ := m_plain (sd := sd) (N := N12) hsd
  rw [q19, p1, bI_s, show N14 401 19 = nI sd by rw [p4 401 19 (by omega)]; exact q19, nmM_e, uM_diff (by omega), show N14 401 19 = nI sd by rw [p4 401 19 (by omega)]; exact q19, nmM_e, show (130 : Int32) = nI 130 from rfl, show (420 : Int32) = nI 420 from rfl, nI_mul, nI_mul]
  generalize hM9 : uM (uM (uM (uM M5 3 1 0) 3 2 0) 3 4 0) 3 8 0 = M9
  generalize hN16 : uM (uM N14 401 38 (nI (130 * sd))) 401 44 (nI (420 * sd)) = N16
  have fM : Eo (fun c j => c = 3 ∧ (j = 1 ∨ j = 2 ∨ j = 4 ∨ j = 8)) M5 M9 := by
    rw [← hM9]
    exact (((Eo.rf.u ⟨rfl, by omega⟩).u ⟨rfl, by omega⟩).u ⟨rfl, by omega⟩).u ⟨rfl, by omega⟩
  have fN : Eo (fun c j => c = 401 ∧ (j = 38 ∨ j = 44)) N14 N16 := by
    rw [← hN16]
    exact (Eo.rf.u ⟨rfl, by omega⟩).u ⟨rfl, by omega⟩
  have m1 : M9 3 1 = 0 := by rw [← hM9, uM_diff (by omega), uM_diff (by omega), uM_diff (by omega), uM_same]
  have m2' : M9 3 2 = 0 := by rw [← hM9, uM_diff (by omega), uM_diff (by omega), uM_same]
  have m4 : M9 3 4 = 0 := by rw [← hM9, uM_diff (by omega), uM_same]
  have m8 : M9 3 8 = 0 := by rw [← hM9, uM_same]
  have nn : ∀ j, j ≠ 38 → j ≠ 44 → N16 401 j = N12 401 j := fun j a1 a2 => by rw [fN 401 j (by omega), p4 401 j (by omega)]
  have n11 : N12 401 11 = 0 := by rw [← hN12, uM_diff (by omega), uM_diff (by omega), uM_diff (by omega), uM_diff (by omega), uM_diff (by omega), uM_same]
  have n12 : N12 401 12 = 0 := by rw [← hN12, uM_diff (by omega), uM_diff (by omega), uM_diff (by omega), uM_diff (by omega), uM_same]
  have n13 : N12 401 13 = 0 := by rw [← hN12, uM_diff (by omega), uM_diff (by omega), uM_diff (by omega), uM_same]
  have n15 : N12 401 15 = 0 := by rw [← hN12, uM_diff (by omega), uM_diff (by omega), uM_same]
  have n20 : N12 401 20 = 0 := by rw [← hN12, uM_same]
  have hTk : Tk b n m M9 L3 N16 K2 := (tk_of x1 x3 y2.2 y3 hT.2.1).keep (fun j => by rw [fM 6 j (by omega), z5 6 j (by omega)]) (fun j => by rw [fM 7 j (by omega), z5 7 j (by omega)]) (fun _ => rfl) (fun j => by rw [fN 404 j (by omega), p4 404 j (by omega), f12 404 j (by omega)]) (fun j => by rw [fN 405 j (by omega), p4 405 j (by omega), f12 405 j (by omega)]) (fun j => by rw [fN 406 j (by omega), p4 406 j (by omega), f12 406 j (by omega)]) (fun _ => rfl)
  have zz : ∀ j, j < 5 → M9 ld j = 0 := fun j hj => by rw [fM ld j (by omega)]; exact z2 j hj
  have pz : ∀ c, (c = 411 ∨ c = 415 ∨ c = 418 ∨ c = 420 ∨ c = 423) → N16 c sd = 0 := fun c hc => by rw [fN c sd (by omega)]; exact p2 c hc
  have hR : RS b n m ld sd 0 0 0 0 0 (fun _ => []) (fun _ => 0) (420 * sd) (130 * sd) M9 L3 N16 K2 := by
    refine ⟨⟨hTk, ⟨m1, m2', by rw [nn 11 (by omega) (by omega)]; exact n11, by rw [nn 13 (by omega) (by omega)]; exact n13, Nat.zero_le _⟩, 0, m4, by rw [nn 15 (by omega) (by omega)]; exact n15, Nat.zero_le _, fun q => absurd rfl q⟩, ⟨by rw [nn 19 (by omega) (by omega)]; exact q19, by rw [nn 12 (by omega) (by omega)]; exact n12, by rw [← hN16, uM_same], by rw [← hN16, uM_diff (by omega), uM_same], by omega, by omega⟩, ⟨⟨zz 0 (by decide), pz 411 (by omega), Nat.zero_le _⟩, ⟨zz 1 (by decide), pz 415 (by omega), Nat.zero_le _⟩, ⟨zz 2 (by decide), pz 418 (by omega), Nat.zero_le _⟩, ⟨zz 3 (by decide), pz 420 (by omega), Nat.zero_le _⟩⟩, ⟨by rw [nn 20 (by omega) (by omega)]; exact n20, fun k hk => absurd hk (Nat.not_lt_zero _)⟩, fun k hk => absurd hk (Nat.not_lt_zero _), fun _ => ⟨⟨m8, fun k hk => absurd hk (Nat.not_lt_zero _)⟩, fun i j hi => absurd hi (Nat.not_lt_zero _), fun k hk => absurd hk (Nat.not_lt_zero _), ⟨fun k hk => absurd hk (Nat.not_lt_zero _), fun j _ hj => by rw [fM (ld + 5) j (by omega)]; exact z3 j hj⟩, fun k hk => absurd hk (Nat.not_lt_zero _), fun k hk => absurd hk (Nat.not_lt_zero _), ⟨0, Nat.zero_le _, zz 4 (by decide), pz 423 (by omega)⟩⟩, fun w hw => Or.inl ⟨by rw [fM (ld + 9 + 4 * w) 1 (by omega)]; exact z4 w hw, ?_, ?_⟩⟩
    · rw [fN 424 _ (by omega)]; exact (p3 w hw).1
    · rw [fN 425 _ (by omega)]; exact (p3 w hw).2
  obtain ⟨M', L', N', K', r1, r2, r3, r4, r5, r6⟩ := l_parse hld hsd 401 0 rfl 0 FU FU _ _ _ _ _ _ _ _ M9 L3 N16 K2 hR (Nat.le_refl _) (by unfold FU; omega) (by unfold FU; omega)
  refine ⟨m, M', L', N', K', r1, r2, r3, ?_, fun c j a1 a2 => (r5 c j a2).trans (y5 c j a1), x1, fun j hj => (r6.1 7 j (pd7 hld)).trans (hTk.2.1 j hj).2.1, fun c j q1 q2 q3 => ?_, fun c j q1 q2 => (r6.2.1 c j q1 q2).trans (x5 c j q1), by rw [r4 401 2 (by unfold mP mT; omega), nn 2 (by omega) (by omega), f12 401 2 (by omega), y4 401 2 (by unfold tkS; omega), uM_same]⟩
  rotate_left
  · have q4 := PD_n q1
    rw [r6.1 c j q1, fM c j (by omega), z5 c j (by omega), x4 c j (by omega)]
  have e1 : Eo (fun c j => mP sd c j ∨ tkS c j ∨ (c = 401 ∧ (j = 2 ∨ j = 19))) N (uM N 401 2 0) := Eo.rf.u (Or.inr (Or.inr ⟨rfl, Or.inl rfl⟩))
  have e2 : Eo (fun c j => mP sd c j ∨ tkS c j ∨ (c = 401 ∧ (j = 2 ∨ j = 19))) (uM N 401 2 0) N2 := y4.mono (fun c j q => Or.inr (Or.inl q))
  have e3 : Eo (fun c j => mP sd c j ∨ tkS c j ∨ (c = 401 ∧ (j = 2 ∨ j = 19))) N2 N12 := f12.mono (fun c j q => by
    rcases q.2 with e | e | e | e | e | e
    · exact Or.inl (Or.inl (Or.inl ⟨q.1, by omega⟩))
    · exact Or.inl (Or.inr ⟨q.1, e⟩)
    · exact Or.inl (Or.inl (Or.inl ⟨q.1, by omega⟩))
    · exact Or.inl (Or.inl (Or.inl ⟨q.1, by omega⟩))
    · exact Or.inr (Or.inr ⟨q.1, Or.inr e⟩)
    · exact Or.inl (Or.inl (Or.inl ⟨q.1, by omega⟩)))
  have e4 : Eo (fun c j => mP sd c j ∨ tkS c j ∨ (c = 401 ∧ (j = 2 ∨ j = 19))) N12 N14 := p4.mono (fun c j q => by
    rcases q with q | q
    · exact Or.inl (Or.inl (by unfold mT; right; right; right; left; exact q))
    · exact Or.inl (Or.inl (by unfold mT; right; right; right; right; right; right; right; right; left; omega)))
  have e5 : Eo (fun c j => mP sd c j ∨ tkS c j ∨ (c = 401 ∧ (j = 2 ∨ j = 19))) N14 N16 := fN.mono (fun c j q => Or.inl (Or.inl (Or.inl ⟨q.1, by omega⟩)))
  exact ((((e1.tr e2).tr e3).tr e4).tr e5).tr (r4.mono (fun c j q => Or.inl q))
end PAR17
end MG12x11
section MG12x12
/-! the answer of a read and its place -/
section PAR18
variable {b : Nat → Nat} {n m : Nat}
theorem p_ans {ld sd : Nat} {M N : gM} {L K : gL} (h : (∃ t' nf nd ng ne l a c i, RS b n m ld sd t' nf nd ng ne l a c i M L N K) ∨ (Dd b n m M N ∧ Mcnt sd N)) (hl : isLast b n m) (h7 : ∀ j, j ≤ m → M 7 j = nI (tkF b n j)) :
    ∃ k M3 pl, k ≤ 5 ∧ J_Reader_parse_215 ld M L = some (nI k, M3, L) ∧ F_Reader_placeOfFault M3 = some pl ∧ J_Mod_read_134 N K = J_Mod_read_164 pl N K ∧ Eo (fun c j => c = 3 ∧ (j = 2 ∨ j = 3)) M M3 ∧
      ((k = 0 ∧ pl = -1 ∧ M 3 4 = 0 ∧ N 401 13 = 0 ∧ N 401 15 = 0 ∧ ∃ t' nf nd ng ne l a c i, RS b n m ld sd t' nf nd ng ne l a c i M L N K) ∨ (k ≠ 0 ∧ J_Mod_read_164 pl N K = some (nI k, uM N 401 17 pl, K) ∧ Mcnt sd N)) := by
  have hm := hl.1
  rcases h with ⟨t', nf, nd, ng, ne, l, a, c, i, hR⟩ | ⟨hd, hmc⟩
  · obtain ⟨lf, hL⟩ := hR.1.2.2
    have hlv := hR.1.2.1
    have htm := hlv.2.2.2.2
    have e1 : J_Reader_parse_215 ld M L = some (nI lf, uM (uM M 3 2 (nI lf)) 3 3 (M 3 5), L) := by
      unfold J_Reader_parse_215
      rw [hlv.2.1, if_pos rfl, nmM_e, hL.1, uM_diff (by omega), nmM_e, uM_diff (by omega), uM_same]
    have hE : Eo (fun c j => c = 3 ∧ (j = 2 ∨ j = 3)) M (uM (uM M 3 2 (nI lf)) 3 3 (M 3 5)) := (Eo.rf.u ⟨rfl, Or.inl rfl⟩).u ⟨rfl, Or.inr rfl⟩
    have s2 : uM (uM M 3 2 (nI lf)) 3 3 (M 3 5) 3 2 = nI lf := by rw [uM_diff (by omega), uM_same]
    by_cases h0 : lf = 0
    · subst h0
      refine ⟨0, _, -1, by decide, e1, ?_, ?_, hE, Or.inl ⟨rfl, rfl, hL.1, hlv.2.2.2.1, hL.2.1, t', nf, nd, ng, ne, l, a, c, i, hR⟩⟩
      · unfold F_Reader_placeOfFault
        rw [s2, if_pos (show nI 0 = 0 from rfl)]
      · unfold J_Mod_read_134
        rw [hlv.2.2.2.1, if_pos (by decide), hL.2.1, if_pos (by decide)]
    · obtain ⟨la, a1, a2, a3⟩ := hL.2.2.2 h0
      have hlf := hL.2.2.1
      refine ⟨lf, _, nI (tkF b n la), hlf, e1, ?_, ?_, hE, Or.inr ⟨h0, ?_, hR.2.2.1.mc⟩⟩
      · unfold F_Reader_placeOfFault
        rw [s2, if_neg (nI_ne0 (by omega) (by omega)), uM_same, a2, s_at (by omega) (by decide), bI_s, uM_diff (by omega), uM_diff (by omega), h7 la (by omega)]
      · unfold J_Mod_read_134
        rw [hlv.2.2.2.1, if_pos (by decide), hL.2.1, if_neg (nI_nle (by omega) (by omega)), a3]
      · unfold J_Mod_read_164
        rw [nmM_e, uM_diff (by omega), hlv.2.2.2.1, if_pos (by decide), uM_diff (by omega), hL.2.1, if_neg (nI_nle (by omega) (by omega))]
  · obtain ⟨k, ft, u, a1, a2, a3, a4, a5, a6, a7, a8⟩ := id hd
    refine ⟨k, M, nI (tkF b n ft), by omega, ?_, ?_, ?_, Eo.rf, Or.inr ⟨by omega, ?_, hmc⟩⟩
    · unfold J_Reader_parse_215
      rw [if_neg hd.nf.2, a3]
    · unfold F_Reader_placeOfFault
      rw [if_neg hd.nf.2, a4, s_at (by omega) (by decide), bI_s, h7 ft a2]
    · unfold J_Mod_read_134
      rw [if_neg (by rw [a5]; exact nI_nle (by omega) (by omega)), a6]
    · unfold J_Mod_read_164
      rw [nmM_e, uM_diff (by omega), if_neg (by rw [a5]; exact nI_nle (by omega) (by omega)), a5]
end PAR18
end MG12x12
