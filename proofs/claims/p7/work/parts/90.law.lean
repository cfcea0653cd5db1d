/-! laws in both parsers -/
section PAR6
variable {b : Nat → Nat} {n m z : Nat}
def Sg (W q c l : Nat) (M N : gM) : Prop := 0 < l ∧ Cs W q c l M N ∧ vdp N c l = some 1 ∧ (∀ k d, k ≤ l → vdp N c k = some d → d ≤ 16)
theorem Sg.keep {W q c l : Nat} {M N M' N' : gM} (h : Sg W q c l M N) (h1 : ∀ j, q ≤ j → j < q + l → M' (W + 1) j = M (W + 1) j) (h2 : ∀ j, c ≤ j → j < c + l → N' 431 j = N 431 j) (h3 : ∀ j, c ≤ j → j < c + l → N' 432 j = N 432 j) : Sg W q c l M' N' := by
  refine ⟨h.1, fun k hk => ?_, ?_, fun k d hk hv => h.2.2.2 k d hk ?_⟩
  · rw [h1 _ (by omega) (by omega), h2 _ (by omega) (by omega), h3 _ (by omega) (by omega)]
    exact h.2.1 k hk
  · rw [vdp_upto l h2]; exact h.2.2.1
  · rw [vdp_upto k (fun j a1 a2 => h2 j a1 (by omega))] at hv; exact hv
def CH (b : Nat → Nat) (n m W t q c : Nat) (M : gM) (L : gL) (N : gM) (K : gL) : Prop := Tk b n m M L N K ∧ Lv m t M N ∧ M W 1 = nI q ∧ N 401 44 = nI c ∧ N 401 12 = 0
theorem Dd.nf {M N : gM} (h : Dd b n m M N) : N 401 13 ≠ 0 ∧ M 3 2 ≠ 0 := by
  obtain ⟨k, ft, u', a1, a2, a3, a4, a5, a6, a7, a8⟩ := h
  exact ⟨by rw [a5]; exact nI_ne0 (by omega) (by omega), by rw [a3]; exact nI_ne0 (by omega) (by omega)⟩
theorem Dd.cl {S : Nat → Nat → Bool} {M M' N : gM} {L L' : gL} (h : Dd b n m M N) (g : Kq S M L M' L') : Dd b n m M' N := by
  have h2 := g.2.2 h.nf.2
  obtain ⟨k, ft, u', a1, a2, a3, a4, a5, a6, a7, a8⟩ := h
  exact ⟨k, ft, u', a1, a2, by rw [h2.1]; exact a3, by rw [h2.2]; exact a4, a5, a6, a7, a8⟩
theorem Dd.mo {M N N' : gM} (h : Dd b n m M N) (f1 : N' 401 13 = N 401 13) (f2 : N' 401 14 = N 401 14) (f3 : N' 401 11 = N 401 11) : Dd b n m M N' := by
  obtain ⟨k, ft, u', a1, a2, a3, a4, a5, a6, a7, a8⟩ := h
  exact ⟨k, ft, u', a1, a2, a3, a4, by rw [f1]; exact a5, by rw [f2]; exact a6, a7, by rw [f3]; exact a8⟩
theorem q_exprD {k : Nat} {N : gM} (hf : N 401 13 = nI k) (hk : k = 1 ∨ k = 2) : F_Mod_expression N = some (uM N 401 48 0) := by
  unfold F_Mod_expression
  rw [nmM_e, nmI_e]
  obtain ⟨g, hg⟩ := FU_k 1 (by decide)
  rw [hg]
  exact m_12D (k := k) (by rw [uM_diff (by omega)]; exact hf) hk g
/-- one sum -/
theorem h_sum (hz : 2 ≤ z) {W B0 t q c : Nat} {M N : gM} {L K : gL} (hW : isLw W) (hB : B0 ≤ 420) (h : (CH b n m W t q c M L N K ∧ q + z ≤ t ∧ c + 2 ≤ t + B0) ∨ Dd b n m M N) :
    ∃ M' N', F_Reader_takeSum W M L = some M' ∧ F_Mod_expression N = some N' ∧ ((∃ t' l, t + 1 ≤ t' ∧ CH b n m W t' (q + l) (c + l) M' L N' K ∧ q + l + z ≤ t' ∧ c + l + 2 ≤ t' + B0 ∧ Sg W q c l M' N' ∧ Eo (cE W q) M M' ∧ CH b n m W t q c M L N K) ∨ Dd b n m M' N') ∧ Eo (mE c (B0 + 420)) N N' := by
  have h12 := Lw_12 hW
  rcases h with ⟨hC, s1, s2⟩ | hd
  · obtain ⟨hT, hl, x1, x2, x3⟩ := id hC
    have hm := hT.m400
    have htm := hl.2.2.2.2
    have hX : XS b n m z W q c B0 t 0 [] 0 (uM (uM M 3 11 0) 3 10 0) L (uM N 401 48 0) K := by
      refine ⟨hT.keep (fun j => by rw [uM_diff (by omega), uM_diff (by omega)]) (fun j => by rw [uM_diff (by omega), uM_diff (by omega)]) (fun _ => rfl) (fun j => uM_diff (by omega)) (fun j => uM_diff (by omega)) (fun j => uM_diff (by omega)) (fun _ => rfl), hl.at (by rw [uM_diff (by omega), uM_diff (by omega)]) (by rw [uM_diff (by omega), uM_diff (by omega)]) (uM_diff (by omega)) (uM_diff (by omega)), ⟨by rw [uM_diff (by omega), uM_diff (by omega)]; exact x1, by rw [uM_diff (by omega)]; exact x2, fun k hk => absurd hk (Nat.not_lt_zero _), rfl, fun k d hk hv => ?_, uM_same, uM_same, trivial, trivial⟩, by rw [uM_diff (by omega), uM_same]; rfl, by rw [uM_diff (by omega), x3]; rfl, Nat.zero_le _, by simp only [List.length_nil]; omega, by simp only [List.length_nil]; omega⟩
      have hk0 : k = 0 := by omega
      subst hk0
      have : some 0 = some d := hv
      have := Option.some.inj this
      omega
    obtain ⟨g, hg⟩ := FU_k 1 (by decide)
    have hS := (p_sumL (b := b) (n := n) (m := m) (z := z) (L := L) (K := K) (c0 := c) (b0 := q) hz hW hB (401 - t) t rfl).1 [] 0 0 FU g FU _ _ hX (by omega) (by unfold FU; omega) (by unfold FU at hg; omega) (by unfold FU; omega)
    have hS2 : SumR b n m z W q c B0 (t + 1) M L N K (F_Reader_takeSum W M L) (F_Mod_expression N) := by
      have e1 : F_Reader_takeSum W M L = H_Reader_takeSum_14 W L FU 1 (nI 0) (uM (uM M 3 11 0) 3 10 0) := by unfold F_Reader_takeSum; rw [nmM_e, nmM_e]; rfl
      have e2 : F_Mod_expression N = H_Mod_expression_23 (H_Mod_expression_12 0 g) 0 FU (uM N 401 48 0) := by
        unfold F_Mod_expression
        rw [nmM_e, nmI_e, uM_diff (by omega), x3, hg]
        show B_Mod_expression_12 0 (H_Mod_expression_12 0 g) 1 (uM N 401 48 0) = _
        unfold B_Mod_expression_12
        rw [if_neg (by decide), uM_diff (by omega), hl.2.2.2.1, if_pos rfl, hg]
      rw [e1, e2]
      exact hS.from (Nat.le_refl _) ((Eo.rf.u (by unfold cE; omega)).u (by unfold cE; omega)) (Eo.rf.u (by unfold mE; omega))
    obtain ⟨M', N', g1, g2, g3, g4⟩ := hS2
    refine ⟨M', N', g1, g2, ?_, g4⟩
    rcases g3 with ⟨t', l, a1, a2, a3⟩ | g3
    · obtain ⟨y1, y2, y3, y4, y5, y6, y7, y8⟩ := a2
      simp only [List.length_nil] at y7 y8
      refine Or.inl ⟨t', l, a1, ⟨y1, y2, y3.hl, y3.hc, y5⟩, by omega, by omega, ⟨?_, y3.cs, y3.vd, y3.dp⟩, a3, hC⟩
      rcases Nat.eq_zero_or_pos l with w | w
      · subst w
        have := y3.vd
        have : some 0 = some 1 := this
        cases this
      · exact w
    · exact Or.inr g3
  · obtain ⟨k2, ft, u, a1, a2, a3, a4, a5, a6, a7, a8⟩ := id hd
    obtain ⟨M', e1, e2⟩ := tq_Reader_takeSum (Wl1 := W) (M := M) (L := L) hW
    exact ⟨M', uM N 401 48 0, e1, q_exprD a5 a1, Or.inr ((hd.cl e2).mo (uM_diff (by omega)) (uM_diff (by omega)) (uM_diff (by omega))), Eo.rf.u (by unfold mE; omega)⟩
/-- one sum, left out by the model behind a fault -/
theorem h_sum2 (hz : 2 ≤ z) {W B0 t q c : Nat} {M N : gM} {L K : gL} (hW : isLw W) (hB : B0 ≤ 420) (h : (CH b n m W t q c M L N K ∧ q + z ≤ t ∧ c + 2 ≤ t + B0) ∨ Dd b n m M N) :
    ∃ M' N', F_Reader_takeSum W M L = some M' ∧ (if N 401 13 = 0 then F_Mod_expression N else some N) = some N' ∧ ((∃ t' l, t + 1 ≤ t' ∧ CH b n m W t' (q + l) (c + l) M' L N' K ∧ q + l + z ≤ t' ∧ c + l + 2 ≤ t' + B0 ∧ Sg W q c l M' N' ∧ Eo (cE W q) M M' ∧ CH b n m W t q c M L N K) ∨ Dd b n m M' N') ∧ Eo (mE c (B0 + 420)) N N' := by
  rcases h with h | hd
  · rw [if_pos h.1.2.1.2.2.2.1]
    exact h_sum hz hW hB (Or.inl h)
  · rw [if_neg hd.nf.1]
    obtain ⟨M', e1, e2⟩ := tq_Reader_takeSum (Wl1 := W) (M := M) (L := L) hW
    exact ⟨M', N, e1, rfl, Or.inr (hd.cl e2), Eo.rf⟩
theorem CH.need {W t t' q c : Nat} {M N M' N' : gM} {L K : gL} (h : CH b n m W t q c M L N K) (hW : 12 ≤ W) (hl : Lv m t' M' N') (h1 : Eo cS M M') (h2 : Eo mS N N') : CH b n m W t' q c M' L N' K :=
  ⟨h.1.eo (h1.mono cS_cI) (h2.mono mS_mI), hl, by rw [h1 W 1 (by unfold cS; omega)]; exact h.2.2.1, by rw [h2 401 44 (by unfold mS; omega)]; exact h.2.2.2.1, by rw [h2 401 12 (by unfold mS; omega)]; exact h.2.2.2.2⟩
/-- need and must, between sums -/
theorem h_need {W t q c k : Nat} {kk kq : Int32} {M N : gM} {L K : gL} (hW : 12 ≤ W) (hkk : kk = nI k) (hkq : kq = nI (phi k)) (hk : kdom k) (h2 : 2 ≤ k) (h : CH b n m W t q c M L N K ∨ Dd b n m M N) :
    ∃ M' N', F_Reader_need kk M = some M' ∧ F_Mod_must kq N = some N' ∧ ((CH b n m W (t + 1) q c M' L N' K ∧ Eo cS M M' ∧ CH b n m W t q c M L N K) ∨ Dd b n m M' N') ∧ Eo mS N N' := by
  obtain ⟨M', N', g1, g2, g3, g4⟩ := p_need (b := b) (n := n) (m := m) (M := M) (N := N) (L := L) (K := K) (t := t) hkk hkq hk h2 (h.imp (fun q => ⟨q.1, q.2.1⟩) id)
  refine ⟨M', N', g1, g2, ?_, g4⟩
  rcases g3 with ⟨a1, a2, a3, a4⟩ | g3
  · rcases h with h | h
    · exact Or.inl ⟨h.need hW a1 a4 g4, a4, h⟩
    · exact absurd h a2.nd
  · exact Or.inr g3
/-- an IF of the class's code and of the model's rows -/
def Br (B0 W i q q' c' : Nat) (M N : gM) : Prop := ∃ c1 l1 l2 l3, N 426 i = 1 ∧ N 427 i = nI c1 ∧ N 428 i = nI (c1 + l1) ∧ N 429 i = nI (c1 + l1 + l2) ∧ N 430 i = nI (c1 + l1 + l2 + l3) ∧ Sg W q c1 l1 M N ∧ Sg W (q + l1) (c1 + l1) l2 M N ∧ M (W + 1) (q + l1 + l2) = nI 20060 ∧ M (W + 1) (q + l1 + l2 + 1) = nI (q + l1 + l2 + l3 + 3) ∧ Sg W (q + l1 + l2 + 2) (c1 + l1 + l2) l3 M N ∧ M (W + 1) (q + l1 + l2 + l3 + 2) = nI 20059 ∧ q' = q + l1 + l2 + l3 + 3 ∧ c1 + l1 + l2 + l3 ≤ c' ∧ B0 ≤ c1
/-- its end -/
def Ls (B0 W i q q' c' : Nat) (M N : gM) : Prop := ∃ c1 l, N 426 i = 0 ∧ N 429 i = nI c1 ∧ N 430 i = nI (c1 + l) ∧ Sg W q c1 l M N ∧ q' = q + l ∧ c1 + l ≤ c' ∧ B0 ≤ c1
theorem Br.keep {B0 W i q q' c' c'' : Nat} {M N M' N' : gM} (h : Br B0 W i q q' c' M N) (hc : c' ≤ c'') (h1 : ∀ j, j < q' → M' (W + 1) j = M (W + 1) j) (h2 : ∀ j, B0 ≤ j → j < c' → N' 431 j = N 431 j ∧ N' 432 j = N 432 j) (h3 : ∀ c, 426 ≤ c → c ≤ 430 → N' c i = N c i) : Br B0 W i q q' c'' M' N' := by
  obtain ⟨c1, l1, l2, l3, a1, a2, a3, a4, a5, a6, a7, a8, a9, a10, a11, rfl, a12, a13⟩ := h
  refine ⟨c1, l1, l2, l3, by rw [h3 426 (by omega) (by omega)]; exact a1, by rw [h3 427 (by omega) (by omega)]; exact a2, by rw [h3 428 (by omega) (by omega)]; exact a3, by rw [h3 429 (by omega) (by omega)]; exact a4, by rw [h3 430 (by omega) (by omega)]; exact a5, a6.keep (fun j _ _ => h1 j (by omega)) (fun j _ _ => (h2 j (by omega) (by omega)).1) (fun j _ _ => (h2 j (by omega) (by omega)).2), a7.keep (fun j _ _ => h1 j (by omega)) (fun j _ _ => (h2 j (by omega) (by omega)).1) (fun j _ _ => (h2 j (by omega) (by omega)).2), by rw [h1 _ (by omega)]; exact a8, by rw [h1 _ (by omega)]; exact a9, a10.keep (fun j _ _ => h1 j (by omega)) (fun j _ _ => (h2 j (by omega) (by omega)).1) (fun j _ _ => (h2 j (by omega) (by omega)).2), by rw [h1 _ (by omega)]; exact a11, rfl, by omega, a13⟩
theorem Ls.keep {B0 W i q q' c' c'' : Nat} {M N M' N' : gM} (h : Ls B0 W i q q' c' M N) (hc : c' ≤ c'') (h1 : ∀ j, j < q' → M' (W + 1) j = M (W + 1) j) (h2 : ∀ j, B0 ≤ j → j < c' → N' 431 j = N 431 j ∧ N' 432 j = N 432 j) (h3 : ∀ c, 426 ≤ c → c ≤ 430 → N' c i = N c i) : Ls B0 W i q q' c'' M' N' := by
  obtain ⟨c1, l, a1, a2, a3, a4, rfl, a5, a6⟩ := h
  exact ⟨c1, l, by rw [h3 426 (by omega) (by omega)]; exact a1, by rw [h3 429 (by omega) (by omega)]; exact a2, by rw [h3 430 (by omega) (by omega)]; exact a3, a4.keep (fun j _ _ => h1 j (by omega)) (fun j _ _ => (h2 j (by omega) (by omega)).1) (fun j _ _ => (h2 j (by omega) (by omega)).2), rfl, by omega, a6⟩
/-- what an IF or an end may change of the model's rows -/
def mF (i c B : Nat) (cc j : Nat) : Prop := mE c B cc j ∨ ((426 ≤ cc ∧ cc ≤ 430) ∧ j = i) ∨ (cc = 401 ∧ j = 38)
theorem mE_mF {i c B : Nat} : ∀ cc j, mE c B cc j → mF i c B cc j := fun _ _ h => Or.inl h
theorem mE_mono {c c' B : Nat} (h : c ≤ c') : ∀ cc j, mE c' B cc j → mE c B cc j := fun cc j q => by unfold mE at q ⊢; omega
theorem cE_mono {W q q' : Nat} (h : q ≤ q') : ∀ cc j, cE W q' cc j → cE W q cc j := fun cc j g => by unfold cE at g ⊢; omega
theorem bI_ite {α β : Type} {p : Prop} [Decidable p] (x y : Option α) (f : α → Option β) : bI (if p then x else y) f = if p then bI x f else bI y f := by split <;> rfl
theorem CH.mo {W t q c : Nat} {M N N' : gM} {L K : gL} (h : CH b n m W t q c M L N K) (f : Eo (fun cc j => (426 ≤ cc ∧ cc ≤ 430) ∨ (cc = 401 ∧ j = 38)) N N') : CH b n m W t q c M L N' K :=
  ⟨h.1.keep (fun _ => rfl) (fun _ => rfl) (fun _ => rfl) (fun j => f 404 j (by omega)) (fun j => f 405 j (by omega)) (fun j => f 406 j (by omega)) (fun _ => rfl), h.2.1.at rfl rfl (f 401 11 (by omega)) (f 401 13 (by omega)), h.2.2.1, by rw [f 401 44 (by omega)]; exact h.2.2.2.1, by rw [f 401 12 (by omega)]; exact h.2.2.2.2⟩
theorem Dd.mo2 {M N N' : gM} (h : Dd b n m M N) (f : Eo (fun cc j => (426 ≤ cc ∧ cc ≤ 430) ∨ (cc = 401 ∧ j = 38)) N N') : Dd b n m M N' := h.mo (f 401 13 (by omega)) (f 401 14 (by omega)) (f 401 11 (by omega))
theorem c_openIf {W q : Nat} {M : gM} (h : M W 1 = nI q) (hq : q + 1 < 400) : F_Law_openIf W M = some (nI (q + 1), uM (uM (uM (uM M (W + 1) q (nI 20060)) W 1 (nI (q + 1))) (W + 1) (q + 1) (nI 0)) W 1 (nI (q + 2))) := by
  unfold F_Law_openIf
  rw [show (20060 : Int32) = nI 20060 from rfl, c_add h (by omega), bI_s, c_add (q := q + 1) uM_same hq, bI_s, uM_same, show (1 : Int32) = nI 1 from rfl, nI_sub (by omega)]
  rfl
theorem c_closeIf {W q g : Nat} {M : gM} (h : M W 1 = nI q) (hq : q < 400) (hg : g < 400) : F_Law_closeIf W (nI g) M = some (uM (uM (uM M (W + 1) q (nI 20059)) W 1 (nI (q + 1))) (W + 1) g (nI (q + 1))) := by
  unfold F_Law_closeIf
  rw [show (20059 : Int32) = nI 20059 from rfl, c_add h hq, bI_s, uM_same, s_put hg (by decide), bI_s]
theorem bI_ite2 {α β : Type} {p : Prop} [Decidable p] (x : Option α) (a : α) (f : α → Option β) : (if p then bI x f else f a) = bI (if p then x else some a) f := by split <;> rfl
/-- one IF -/
theorem h_if {W B0 t q c i : Nat} {M N : gM} {L K : gL} (hW : isLw W) (hB : B0 ≤ 420) (hC : CH b n m W t q c M L N K) (s1 : q + 2 ≤ t) (s2 : c + 2 ≤ t + B0) (s3 : B0 ≤ c) (h38 : N 401 38 = nI i) (hi : i < 260) (hk : tkK b n t = 137) (v1 v2 v3 : Int32) (K12 : Int32 → gM → Option gM) (K16 : gM → Option gM) :
    ∃ M' N', bI (F_Reader_take M) (fun M18 => bI (F_Reader_takeSum W M18 L) (fun M20 => bI (F_Reader_need 60 M20) (fun M22 => bI (F_Reader_takeSum W M22 L) (fun M24 => bI (F_Reader_need 138 M24) (fun M26 => bI2 (F_Law_openIf W M26) (fun r28 M29 => bI (F_Reader_takeSum W M29 L) (fun M31 => bI (F_Reader_need 139 M31) (fun M33 => bI (F_Law_closeIf W r28 M33) (fun M35 => K16 M35))))))))) = K16 M' ∧ J_Mod_tellLaw_38 K12 v1 v2 v3 N = K12 (v3 + 1) N' ∧
    ((∃ t' q' c', t + 4 ≤ t' ∧ CH b n m W t' q' c' M' L N' K ∧ q' + 2 ≤ t' ∧ c ≤ c' ∧ q ≤ q' ∧ c' + 2 ≤ t' + B0 ∧ Br B0 W i q q' c' M' N' ∧ Eo (cE W q) M M') ∨ Dd b n m M' N') ∧ N' 401 38 = nI (i + 1) ∧ Eo (mF i c (B0 + 420)) N N' := by
  have h12 := Lw_12 hW
  obtain ⟨hT, hl, x1, x2, x3⟩ := id hC
  have hm := hT.m400
  have htm := hl.2.2.2.2
  unfold J_Mod_tellLaw_38
  rw [hl.2.2.2.1, if_pos (by decide), nmI_e]
  -- IF
  obtain ⟨M1, N1, g1, g2, g3, g4⟩ := p_take hT hl (by omega) (by omega)
  have n38 : N1 401 38 = nI i := by rw [g4 401 38 (by unfold mS; omega)]; exact h38
  have hgi : ¬ (nI i < 0 ∨ 260 ≤ i) := nI_inc hi (by omega)
  have hvp : vp_nar .boolean 1 = 1 := by decide
  rw [g1, bI_s, g2, bI_s, n38, nI_clamp (by omega), if_neg hgi, nmM_e, uM_diff (by omega), n38, nI_clamp (by omega), if_neg hgi, nmM_e, uM_diff (by omega), hvp]
  generalize hN1' : uM (uM N1 426 i 1) 427 i (N1 401 44) = N1'
  have f1 : Eo (fun cc j => (cc = 426 ∨ cc = 427) ∧ j = i) N1 N1' := by
    rw [← hN1']; exact (Eo.rf.u ⟨Or.inl rfl, rfl⟩).u ⟨Or.inr rfl, rfl⟩
  have f1' := f1.mono (S' := fun cc j => (426 ≤ cc ∧ cc ≤ 430) ∨ (cc = 401 ∧ j = 38)) (fun cc j q => by omega)
  have O1 : (CH b n m W (t + 1) q c M1 L N1' K ∧ q + 3 ≤ t + 1 ∧ c + 2 ≤ t + 1 + B0) ∨ Dd b n m M1 N1' := by
    rcases g3 with ⟨a1, a2⟩ | g3
    · exact Or.inl ⟨(hC.need h12 a1 a2 g4).mo f1', by omega, by omega⟩
    · exact Or.inr (g3.mo2 f1')
  have z1 : CH b n m W (t + 1) q c M1 L N1' K → N1' 427 i = nI c ∧ N1' 426 i = 1 ∧ Eo cS M M1 := by
    intro hc1
    rcases g3 with ⟨a1, a2⟩ | g3
    · refine ⟨?_, ?_, a2⟩
      · rw [← hN1', uM_same, g4 401 44 (by unfold mS; omega)]; exact x2
      · rw [← hN1', uM_diff (by omega), uM_same]
    · exact absurd (g3.mo2 f1') hc1.2.1.nd
  -- the first sum
  obtain ⟨M2, N2, g5, g6, g7, g8⟩ := h_sum (z := 3) (by decide) hW hB O1
  rw [g5, bI_s, g6, bI_s]
  have hO2 : ∃ t' q2 c2, (CH b n m W t' q2 c2 M2 L N2 K ∨ Dd b n m M2 N2) ∧ ((∃ l, t + 2 ≤ t' ∧ q2 = q + l ∧ c2 = c + l ∧ q2 + 3 ≤ t' ∧ c2 + 2 ≤ t' + B0 ∧ Sg W q c l M2 N2 ∧ Eo (cE W q) M M2 ∧ N2 427 i = nI c ∧ N2 426 i = 1) ∨ (c2 = c ∧ Dd b n m M2 N2)) := by
    rcases g7 with ⟨t', l, a1, a2, a3, a4, a5, a6, a7⟩ | g7
    · obtain ⟨z2, z3, z4⟩ := z1 a7
      exact ⟨t', q + l, c + l, Or.inl a2, Or.inl ⟨l, by omega, rfl, rfl, a3, a4, a5, (z4.mono cS_cE).tr a6, by rw [g8 427 i (by unfold mE; omega)]; exact z2, by rw [g8 426 i (by unfold mE; omega)]; exact z3⟩⟩
    · exact ⟨t, q, c, Or.inr g7, Or.inr ⟨rfl, g7⟩⟩
  obtain ⟨t2, q2, c2, P2, Q2⟩ := hO2
  have hcc2 : c ≤ c2 := by rcases Q2 with ⟨l, _, _, e, _⟩ | ⟨e, _⟩ <;> omega
  -- <
  obtain ⟨M3, N3, g9, g10, g11, g12⟩ := h_need (k := 60) (kk := 60) (kq := 13) h12 rfl rfl (Or.inr (Or.inl rfl)) (by decide) P2
  rw [g9, bI_s, g10, bI_s]
  have n38c : N3 401 38 = nI i := by rw [g12 401 38 (by unfold mS; omega), g8 401 38 (by unfold mE; omega), f1 401 38 (by omega)]; exact n38
  rw [n38c, nI_clamp (by omega), if_neg hgi, nmM_e]
  generalize hN3' : uM N3 428 i (N3 401 44) = N3'
  have f3 : Eo (fun cc j => cc = 428 ∧ j = i) N3 N3' := by rw [← hN3']; exact Eo.rf.u ⟨rfl, rfl⟩
  have f3' := f3.mono (S' := fun cc j => (426 ≤ cc ∧ cc ≤ 430) ∨ (cc = 401 ∧ j = 38)) (fun cc j q => by omega)
  have O3 : (CH b n m W (t2 + 1) q2 c2 M3 L N3' K ∧ q2 + 4 ≤ t2 + 1 ∧ c2 + 2 ≤ t2 + 1 + B0) ∨ Dd b n m M3 N3' := by
    rcases g11 with ⟨a1, a2, a3⟩ | g11
    · rcases Q2 with ⟨l, b1, b2, b3, b4, b5, b6⟩ | ⟨_, Q2⟩
      · exact Or.inl ⟨a1.mo f3', by omega, by omega⟩
      · exact absurd Q2 a3.2.1.nd
    · exact Or.inr (g11.mo2 f3')
  have z3 : CH b n m W (t2 + 1) q2 c2 M3 L N3' K → ∃ l1, t + 2 ≤ t2 ∧ q2 = q + l1 ∧ c2 = c + l1 ∧ Sg W q c l1 M3 N3' ∧ Eo (cE W q) M M3 ∧ N3' 427 i = nI c ∧ N3' 426 i = 1 ∧ N3' 428 i = nI c2 := by
    intro hc
    rcases g11 with ⟨a1, a2, a3⟩ | g11
    · rcases Q2 with ⟨l, b1, b2, b3, b4, b5, b6, b7, b8, b9⟩ | ⟨_, Q2⟩
      · refine ⟨l, b1, b2, b3, b6.keep (fun j _ _ => a2 (W + 1) j (by unfold cS; omega)) (fun j _ _ => by rw [f3 431 j (by omega), g12 431 j (by unfold mS; omega)]) (fun j _ _ => by rw [f3 432 j (by omega), g12 432 j (by unfold mS; omega)]), b7.tr (a2.mono cS_cE), by rw [f3 427 i (by omega), g12 427 i (by unfold mS; omega)]; exact b8, by rw [f3 426 i (by omega), g12 426 i (by unfold mS; omega)]; exact b9, ?_⟩
        rw [← hN3', uM_same]; exact a1.2.2.2.1
      · exact absurd Q2 a3.2.1.nd
    · exact absurd (g11.mo2 f3') hc.2.1.nd
  -- the second sum
  obtain ⟨M4, N4, g13, g14, g15, g16⟩ := h_sum2 (z := 4) (by decide) hW hB O3
  rw [g13, bI_s, bI_ite2, g14, bI_s]
  unfold J_Mod_tellLaw_110 F_Mod_term J_Mod_term_24
  have hO4 : ∃ t' q4 c4, (CH b n m W t' q4 c4 M4 L N4 K ∨ Dd b n m M4 N4) ∧ ((∃ l1 l2, t + 4 ≤ t' ∧ q4 = q + l1 + l2 ∧ c4 = c + l1 + l2 ∧ q4 + 4 ≤ t' ∧ c4 + 2 ≤ t' + B0 ∧ Sg W q c l1 M4 N4 ∧ Sg W (q + l1) (c + l1) l2 M4 N4 ∧ Eo (cE W q) M M4 ∧ N4 427 i = nI c ∧ N4 426 i = 1 ∧ N4 428 i = nI (c + l1)) ∨ (c4 = c ∧ Dd b n m M4 N4)) := by
    rcases g15 with ⟨t', l, a1, a2, a3, a4, a5, a6, a7⟩ | g7
    · obtain ⟨l1, y1, y2, y3, y4, y5, y6, y7, y8⟩ := z3 a7
      subst y2 y3
      exact ⟨t', q + l1 + l, c + l1 + l, Or.inl a2, Or.inl ⟨l1, l, by omega, rfl, rfl, a3, a4, y4.keep (fun j _ _ => a6 (W + 1) j (by unfold cE; omega)) (fun j _ _ => g16 431 j (by unfold mE; omega)) (fun j _ _ => g16 432 j (by unfold mE; omega)), a5, y5.tr (a6.mono (cE_mono (by omega))), by rw [g16 427 i (by unfold mE; omega)]; exact y6, by rw [g16 426 i (by unfold mE; omega)]; exact y7, by rw [g16 428 i (by unfold mE; omega)]; exact y8⟩⟩
    · exact ⟨t, q, c, Or.inr g7, Or.inr ⟨rfl, g7⟩⟩
  obtain ⟨t4, q4, c4, P4, Q4⟩ := hO4
  have hcc4 : c ≤ c4 := by rcases Q4 with ⟨l, l2, _, _, e, _⟩ | ⟨e, _⟩ <;> omega
  -- THEN
  obtain ⟨M5, N5, g17, g18, g19, g20⟩ := h_need (k := 138) (kk := 138) (kq := 30) h12 rfl rfl (Or.inr (Or.inr ⟨by decide, by decide⟩)) (by decide) P4
  rw [g17, bI_s, g18, bI_s]
  have n38d : N5 401 38 = nI i := by rw [g20 401 38 (by unfold mS; omega), g16 401 38 (by unfold mE; omega), f3 401 38 (by omega)]; exact n38c
  rw [n38d, nI_clamp (by omega), if_neg hgi, nmM_e]
  generalize hN5' : uM N5 429 i (N5 401 44) = N5'
  have f5 : Eo (fun cc j => cc = 429 ∧ j = i) N5 N5' := by rw [← hN5']; exact Eo.rf.u ⟨rfl, rfl⟩
  have f5' := f5.mono (S' := fun cc j => (426 ≤ cc ∧ cc ≤ 430) ∨ (cc = 401 ∧ j = 38)) (fun cc j q => by omega)
  obtain ⟨r28, M5', hop, hopL⟩ : ∃ r28 M5', F_Law_openIf W M5 = some (r28, M5') ∧ ((∃ l1 l2, t + 4 ≤ t4 ∧ q4 = q + l1 + l2 ∧ c4 = c + l1 + l2 ∧ q4 + 4 ≤ t4 ∧ c4 + 2 ≤ t4 + B0 ∧ r28 = nI (q4 + 1) ∧ CH b n m W (t4 + 1) (q4 + 2) c4 M5' L N5' K ∧ Sg W q c l1 M5' N5' ∧ Sg W (q + l1) (c + l1) l2 M5' N5' ∧ M5' (W + 1) q4 = nI 20060 ∧ Eo (cE W q) M M5' ∧ N5' 427 i = nI c ∧ N5' 426 i = 1 ∧ N5' 428 i = nI (c + l1) ∧ N5' 429 i = nI c4) ∨ Dd b n m M5' N5') := by
    rcases g19 with ⟨a1, a2, a3⟩ | g19
    · rcases Q4 with ⟨l1, l2, b1, b2, b3, b4, b5, b6, b7, b8, b9, b10, b11⟩ | ⟨_, Q4⟩
      · have hd := a1.2.1.2.2.2.2
        refine ⟨_, _, c_openIf a1.2.2.1 (by omega), Or.inl ⟨l1, l2, b1, b2, b3, b4, b5, rfl, ?_, ?_, ?_, ?_, ?_, ?_, ?_, ?_, ?_⟩⟩
        · have a1' := a1.mo f5'
          refine ⟨a1'.1.keep (fun j => ?_) (fun j => ?_) (fun _ => rfl) (fun _ => rfl) (fun _ => rfl) (fun _ => rfl) (fun _ => rfl), a1'.2.1.at ?_ ?_ rfl rfl, uM_same, a1'.2.2.2.1, a1'.2.2.2.2⟩ <;> rw [uM_diff (by omega), uM_diff (by omega), uM_diff (by omega), uM_diff (by omega)]
        · exact b6.keep (fun j _ _ => by rw [uM_diff (by omega), uM_diff (by omega), uM_diff (by omega), uM_diff (by omega)]; exact a2 (W + 1) j (by unfold cS; omega)) (fun j _ _ => by rw [f5 431 j (by omega), g20 431 j (by unfold mS; omega)]) (fun j _ _ => by rw [f5 432 j (by omega), g20 432 j (by unfold mS; omega)])
        · exact b7.keep (fun j _ _ => by rw [uM_diff (by omega), uM_diff (by omega), uM_diff (by omega), uM_diff (by omega)]; exact a2 (W + 1) j (by unfold cS; omega)) (fun j _ _ => by rw [f5 431 j (by omega), g20 431 j (by unfold mS; omega)]) (fun j _ _ => by rw [f5 432 j (by omega), g20 432 j (by unfold mS; omega)])
        · rw [uM_diff (by omega), uM_diff (by omega), uM_diff (by omega), uM_same]
        · refine (b8.tr (a2.mono cS_cE)).tr ?_
          refine (((Eo.rf.u ?_).u ?_).u ?_).u ?_ <;> unfold cE <;> omega
        · rw [f5 427 i (by omega), g20 427 i (by unfold mS; omega)]; exact b9
        · rw [f5 426 i (by omega), g20 426 i (by unfold mS; omega)]; exact b10
        · rw [f5 428 i (by omega), g20 428 i (by unfold mS; omega)]; exact b11
        · rw [← hN5', uM_same]; exact a1.2.2.2.1
      · exact absurd Q4 a3.2.1.nd
    · obtain ⟨r, M', e1, -, e2⟩ := tq_Law_openIf (Wl0 := W) (M := M5) (L := L) hW
      exact ⟨r, M', e1, Or.inr ((g19.cl e2).mo2 f5')⟩
  rw [hop, bI2_s]
  have O5 : (CH b n m W (t4 + 1) (q4 + 2) c4 M5' L N5' K ∧ q4 + 2 + 3 ≤ t4 + 1 ∧ c4 + 2 ≤ t4 + 1 + B0) ∨ Dd b n m M5' N5' := by
    rcases hopL with ⟨l1, l2, b1, b2, b3, b4, b5, b6, b7, _⟩ | h
    · exact Or.inl ⟨b7, by omega, by omega⟩
    · exact Or.inr h
  -- the third sum
  obtain ⟨M6, N6, g21, g22, g23, g24⟩ := h_sum2 (z := 3) (by decide) hW hB O5
  have n38e : N6 401 38 = nI i := by rw [g24 401 38 (by unfold mE; omega), f5 401 38 (by omega)]; exact n38d
  rw [g21, bI_s, bI_ite2, g22, bI_s, n38e, nI_clamp (by omega), if_neg hgi, nmM_e, nmM_e, uM_diff (by omega), n38e, nI_1, bI_s]
  generalize hN6' : uM (uM N6 430 i (N6 401 44)) 401 38 (nI (i + 1)) = N6'
  have f6 : Eo (fun cc j => (cc = 430 ∧ j = i) ∨ (cc = 401 ∧ j = 38)) N6 N6' := by rw [← hN6']; exact (Eo.rf.u (Or.inl ⟨rfl, rfl⟩)).u (Or.inr ⟨rfl, rfl⟩)
  have f6' := f6.mono (S' := fun cc j => (426 ≤ cc ∧ cc ≤ 430) ∨ (cc = 401 ∧ j = 38)) (fun cc j q => by omega)
  have hO6 : ∃ t' q6 c6, (CH b n m W t' q6 c6 M6 L N6' K ∨ Dd b n m M6 N6') ∧ ((∃ l1 l2 l3, t + 4 ≤ t' ∧ q6 = q + l1 + l2 + 2 + l3 ∧ c6 = c + l1 + l2 + l3 ∧ q6 + 3 ≤ t' ∧ c6 + 2 ≤ t' + B0 ∧ r28 = nI (q + l1 + l2 + 1) ∧ Sg W q c l1 M6 N6' ∧ Sg W (q + l1) (c + l1) l2 M6 N6' ∧ M6 (W + 1) (q + l1 + l2) = nI 20060 ∧ Sg W (q + l1 + l2 + 2) (c + l1 + l2) l3 M6 N6' ∧ Eo (cE W q) M M6 ∧ N6' 427 i = nI c ∧ N6' 426 i = 1 ∧ N6' 428 i = nI (c + l1) ∧ N6' 429 i = nI (c + l1 + l2) ∧ N6' 430 i = nI (c + l1 + l2 + l3)) ∨ (c6 = c ∧ Dd b n m M6 N6')) := by
    rcases g23 with ⟨t', l3, a1, a2, a3, a4, a5, a6, a7⟩ | g7
    · rcases hopL with ⟨l1, l2, b1, b2, b3, b4, b5, b6, b7, b8, b9, b10, b11, b12, b13, b14, b15⟩ | h
      · subst b2 b3
        have k1 : ∀ j, N6' 431 j = N6 431 j := fun j => f6 431 j (by omega)
        have k2 : ∀ j, N6' 432 j = N6 432 j := fun j => f6 432 j (by omega)
        refine ⟨t', q + l1 + l2 + 2 + l3, c + l1 + l2 + l3, Or.inl (a2.mo f6'), Or.inl ⟨l1, l2, l3, by omega, rfl, rfl, a3, a4, b6, ?_, ?_, ?_, ?_, b11.tr (a6.mono (cE_mono (by omega))), ?_, ?_, ?_, ?_, ?_⟩⟩
        · exact b8.keep (fun j _ _ => a6 (W + 1) j (by unfold cE; omega)) (fun j _ _ => by rw [k1]; exact g24 431 j (by unfold mE; omega)) (fun j _ _ => by rw [k2]; exact g24 432 j (by unfold mE; omega))
        · exact b9.keep (fun j _ _ => a6 (W + 1) j (by unfold cE; omega)) (fun j _ _ => by rw [k1]; exact g24 431 j (by unfold mE; omega)) (fun j _ _ => by rw [k2]; exact g24 432 j (by unfold mE; omega))
        · rw [a6 (W + 1) _ (by unfold cE; omega)]; exact b10
        · exact a5.keep (fun _ _ _ => rfl) (fun j _ _ => k1 j) (fun j _ _ => k2 j)
        · rw [f6 427 i (by omega), g24 427 i (by unfold mE; omega)]; exact b12
        · rw [f6 426 i (by omega), g24 426 i (by unfold mE; omega)]; exact b13
        · rw [f6 428 i (by omega), g24 428 i (by unfold mE; omega)]; exact b14
        · rw [f6 429 i (by omega), g24 429 i (by unfold mE; omega)]; exact b15
        · rw [← hN6', uM_diff (by omega), uM_same]; exact a2.2.2.2.1
      · exact absurd h a7.2.1.nd
    · exact ⟨t, q, c, Or.inr (g7.mo2 f6'), Or.inr ⟨rfl, g7.mo2 f6'⟩⟩
  obtain ⟨t6, q6, c6, P6, Q6⟩ := hO6
  -- ELSE
  obtain ⟨M7, N7, g25, g26, g27, g28⟩ := h_need (k := 139) (kk := 139) (kq := 31) h12 rfl rfl (Or.inr (Or.inr ⟨by decide, by decide⟩)) (by decide) P6
  rw [g25, bI_s, g26, bI_s]
  have hN38 : N7 401 38 = nI (i + 1) := by rw [g28 401 38 (by unfold mS; omega), ← hN6', uM_same]
  have hmF : Eo (mF i c (B0 + 420)) N N7 := by
    have e1 : Eo (mF i c (B0 + 420)) N N1 := g4.mono (fun cc j q => mE_mF _ _ (mS_mE _ _ q))
    have e2 : Eo (mF i c (B0 + 420)) N1 N1' := f1.mono (fun cc j q => Or.inr (Or.inl (by omega)))
    have e3 : Eo (mF i c (B0 + 420)) N1' N2 := g8.mono mE_mF
    have e4 : Eo (mF i c (B0 + 420)) N2 N3 := g12.mono (fun cc j q => mE_mF _ _ (mS_mE _ _ q))
    have e5 : Eo (mF i c (B0 + 420)) N3 N3' := f3.mono (fun cc j q => Or.inr (Or.inl (by omega)))
    have e6 : Eo (mF i c (B0 + 420)) N3' N4 := g16.mono (fun cc j q => mE_mF _ _ (mE_mono hcc2 _ _ q))
    have e7 : Eo (mF i c (B0 + 420)) N4 N5 := g20.mono (fun cc j q => mE_mF _ _ (mS_mE _ _ q))
    have e8 : Eo (mF i c (B0 + 420)) N5 N5' := f5.mono (fun cc j q => Or.inr (Or.inl (by omega)))
    have e9 : Eo (mF i c (B0 + 420)) N5' N6 := g24.mono (fun cc j q => mE_mF _ _ (mE_mono hcc4 _ _ q))
    have e10 : Eo (mF i c (B0 + 420)) N6 N6' := f6.mono (fun cc j q => by rcases q with q | q; exact Or.inr (Or.inl (by omega)); exact Or.inr (Or.inr q))
    have e11 : Eo (mF i c (B0 + 420)) N6' N7 := g28.mono (fun cc j q => mE_mF _ _ (mS_mE _ _ q))
    exact (((((((((e1.tr e2).tr e3).tr e4).tr e5).tr e6).tr e7).tr e8).tr e9).tr e10).tr e11
  rcases g27 with ⟨a1, a2, a3⟩ | g27
  · rcases Q6 with ⟨l1, l2, l3, b1, b2, b3, b4, b5, b6, b7, b8, b9, b10, b11, b12, b13, b14, b15, b16⟩ | ⟨_, Q6⟩
    · have hd := a1.2.1.2.2.2.2
      subst b2 b3 b6
      rw [c_closeIf a1.2.2.1 (by omega) (by omega), bI_s]
      refine ⟨_, N7, rfl, rfl, Or.inl ⟨t6 + 1, q + l1 + l2 + l3 + 3, c + l1 + l2 + l3, by omega, ?_, by omega, by omega, by omega, by omega, ⟨c, l1, l2, l3, ?_, ?_, ?_, ?_, ?_, ?_, ?_, ?_, ?_, ?_, ?_, rfl, Nat.le_refl _, s3⟩, ?_⟩, hN38, hmF⟩
      · refine ⟨a1.1.keep (fun j => ?_) (fun j => ?_) (fun _ => rfl) (fun _ => rfl) (fun _ => rfl) (fun _ => rfl) (fun _ => rfl), a1.2.1.at ?_ ?_ rfl rfl, ?_, a1.2.2.2.1, a1.2.2.2.2⟩
        · rw [uM_diff (by omega), uM_diff (by omega), uM_diff (by omega)]
        · rw [uM_diff (by omega), uM_diff (by omega), uM_diff (by omega)]
        · rw [uM_diff (by omega), uM_diff (by omega), uM_diff (by omega)]
        · rw [uM_diff (by omega), uM_diff (by omega), uM_diff (by omega)]
        · rw [uM_diff (by omega), uM_same, show q + l1 + l2 + 2 + l3 + 1 = q + l1 + l2 + l3 + 3 by omega]
      · rw [g28 426 i (by unfold mS; omega)]; exact b13
      · rw [g28 427 i (by unfold mS; omega)]; exact b12
      · rw [g28 428 i (by unfold mS; omega)]; exact b14
      · rw [g28 429 i (by unfold mS; omega)]; exact b15
      · rw [g28 430 i (by unfold mS; omega)]; exact b16
      · exact b7.keep (fun j _ _ => by rw [uM_diff (by omega), uM_diff (by omega), uM_diff (by omega)]; exact a2 (W + 1) j (by unfold cS; omega)) (fun j _ _ => g28 431 j (by unfold mS; omega)) (fun j _ _ => g28 432 j (by unfold mS; omega))
      · exact b8.keep (fun j _ _ => by rw [uM_diff (by omega), uM_diff (by omega), uM_diff (by omega)]; exact a2 (W + 1) j (by unfold cS; omega)) (fun j _ _ => g28 431 j (by unfold mS; omega)) (fun j _ _ => g28 432 j (by unfold mS; omega))
      · rw [uM_diff (by omega), uM_diff (by omega), uM_diff (by omega), a2 (W + 1) _ (by unfold cS; omega)]; exact b9
      · rw [uM_same, show q + l1 + l2 + 2 + l3 + 1 = q + l1 + l2 + l3 + 3 by omega]
      · exact b10.keep (fun j _ _ => by rw [uM_diff (by omega), uM_diff (by omega), uM_diff (by omega)]; exact a2 (W + 1) j (by unfold cS; omega)) (fun j _ _ => g28 431 j (by unfold mS; omega)) (fun j _ _ => g28 432 j (by unfold mS; omega))
      · rw [uM_diff (by omega), uM_diff (by omega), show q + l1 + l2 + l3 + 2 = q + l1 + l2 + 2 + l3 by omega, uM_same]
      · refine (b11.tr (a2.mono cS_cE)).tr ?_
        refine ((Eo.rf.u ?_).u ?_).u ?_ <;> unfold cE <;> omega
    · exact absurd Q6 a3.2.1.nd
  · obtain ⟨M', e1, e2⟩ := tq_Law_closeIf (Wl0 := W) (p1 := r28) (M := M7) (L := L) hW
    rw [e1, bI_s]
    exact ⟨M', N7, rfl, rfl, Or.inr (g27.cl e2), hN38, hmF⟩
end PAR6
