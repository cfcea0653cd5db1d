/-! the steps of an item -/
section PAR8
variable {b : Nat → Nat} {n m : Nat}
/-- live, at the token t -/
def IS (b : Nat → Nat) (n m t : Nat) (M : gM) (L : gL) (N : gM) (K : gL) : Prop := Tk b n m M L N K ∧ Lv m t M N ∧ ∃ lf, Lt b n t lf M N
theorem IS.lf0 {t lf : Nat} {M N : gM} (h : Lt b n t lf M N) : M 3 4 = 0 ↔ lf = 0 := by
  rw [h.1]
  exact ⟨fun (q : nI lf = nI 0) => (nI_eq (by have := h.2.2.1; omega) (by decide)).mp q, fun q => by rw [q]; rfl⟩
theorem IS.nd {t : Nat} {M N : gM} {L K : gL} (h : IS b n m t M L N K) : ¬ Dd b n m M N := h.2.1.nd
/-- rows of both are written -/
theorem IS.put {t a p q p' : Nat} {x y : Int32} {M N : gM} {L K : gL} (h : IS b n m t M L N K) (ha : 12 ≤ a) (hq : 408 ≤ q) : IS b n m t (uM M a p x) L (uM N q p' y) K := by
  obtain ⟨h1, h2, lf, h3⟩ := h
  exact ⟨h1.keep (fun j => uM_diff (by omega)) (fun j => uM_diff (by omega)) (fun _ => rfl) (fun j => uM_diff (by omega)) (fun j => uM_diff (by omega)) (fun j => uM_diff (by omega)) (fun _ => rfl), h2.at (uM_diff (by omega)) (uM_diff (by omega)) (uM_diff (by omega)) (uM_diff (by omega)), lf, h3.up (Nat.le_refl _) (uM_diff (by omega)) (uM_diff (by omega)) (uM_diff (by omega)) (uM_diff (by omega))⟩
theorem Dd.put {a p q p' : Nat} {x y : Int32} {M N : gM} (h : Dd b n m M N) (ha : 12 ≤ a) (hq : 408 ≤ q) : Dd b n m (uM M a p x) (uM N q p' y) := by
  obtain ⟨k, ft, u, a1, a2, a3, a4, a5, a6, a7, a8⟩ := h
  exact ⟨k, ft, u, a1, a2, by rw [uM_diff (by omega)]; exact a3, by rw [uM_diff (by omega)]; exact a4, by rw [uM_diff (by omega)]; exact a5, by rw [uM_diff (by omega)]; exact a6, a7, by rw [uM_diff (by omega)]; exact a8⟩
theorem Dd.put1 {a p : Nat} {x : Int32} {M N : gM} (h : Dd b n m M N) (ha : 12 ≤ a) : Dd b n m (uM M a p x) N := by
  obtain ⟨k, ft, u, a1, a2, a3, a4, a5, a6, a7, a8⟩ := h
  exact ⟨k, ft, u, a1, a2, by rw [uM_diff (by omega)]; exact a3, by rw [uM_diff (by omega)]; exact a4, a5, a6, a7, a8⟩
theorem O_put {t a p q p' : Nat} {x y : Int32} {M N : gM} {L K : gL} (h : IS b n m t M L N K ∨ Dd b n m M N) (ha : 12 ≤ a) (hq : 408 ≤ q) : IS b n m t (uM M a p x) L (uM N q p' y) K ∨ Dd b n m (uM M a p x) (uM N q p' y) := h.imp (fun h => h.put ha hq) (fun h => h.put ha hq)
theorem i_take {t : Nat} {M N : gM} {L K : gL} (h : IS b n m t M L N K) (h0 : tkK b n t ≠ 0) (h1 : tkK b n t ≠ 1) : ∃ M' N', F_Reader_take M = some M' ∧ F_Mod_goesOn N = some N' ∧ ((IS b n m (t + 1) M' L N' K ∧ Eo cS M M') ∨ Dd b n m M' N') ∧ Eo mS N N' := by
  obtain ⟨a1, a2, lf, a3⟩ := h
  obtain ⟨M', N', g1, g2, g3, g4⟩ := p_take a1 a2 h0 h1
  refine ⟨M', N', g1, g2, ?_, g4⟩
  rcases g3 with ⟨x1, x2⟩ | g3
  · exact Or.inl ⟨⟨a1.eo (x2.mono cS_cI) (g4.mono mS_mI), x1, lf, a3.keep (by omega) x2 g4⟩, x2⟩
  · exact Or.inr g3
theorem i_int {t mo : Nat} {kk : Int32} {M N : gM} {L K : gL} (hkk : kk = nI mo) (hmo : mo ≤ 9999) (h : IS b n m t M L N K ∨ Dd b n m M N) : ∃ r M' r' N', F_Reader_takeInt kk M L = some (r, M') ∧ F_Mod_bounded 0 kk N = some (r', N') ∧
    ((IS b n m (t + 1) M' L N' K ∧ IS b n m t M L N K ∧ (∃ v, r = nI v ∧ r' = nI v ∧ (M' 3 4 = 0 → M 3 4 = 0 ∧ v ≤ mo)) ∧ Eo cI M M') ∨ Dd b n m M' N') ∧ Eo mI N N' := by
  rcases h with h | hd
  · obtain ⟨a1, a2, lf, a3⟩ := id h
    obtain ⟨r, M', r', N', g1, g2, g3, g4⟩ := p_int (lf := lf) hkk hmo (Or.inl ⟨a1, a2, a3⟩)
    refine ⟨r, M', r', N', g1, g2, ?_, g4⟩
    rcases g3 with ⟨x1, x2, x3, x4, ⟨lf', x5, x6⟩, x7⟩ | g3
    · refine Or.inl ⟨⟨a1.eo x7 g4, x1, lf', x5⟩, h, ⟨_, x3, x4, fun q => ?_⟩, x7⟩
      obtain ⟨y1, y2⟩ := x6 ((IS.lf0 x5).mp q)
      exact ⟨(IS.lf0 a3).mpr y1, y2⟩
    · exact Or.inr g3
  · obtain ⟨r, M', r', N', g1, g2, g3, g4⟩ := p_int (b := b) (n := n) (m := m) (M := M) (N := N) (L := L) (K := K) (t := t) (lf := 0) hkk hmo (Or.inr hd)
    refine ⟨r, M', r', N', g1, g2, ?_, g4⟩
    rcases g3 with ⟨x1, x2, x3, x4, x5, x7⟩ | g3
    · exfalso
      obtain ⟨r2, M2, e1, -, e2⟩ := tq_Reader_takeInt (p1 := kk) (M := M) (L := L)
      have e3 : M2 = M' := by have := e1.symm.trans g1; injection this with q; injection q
      have e4 := e2.2.2 hd.nf.2
      rw [e3] at e4
      exact hd.nf.2 (by rw [← e4.1]; exact x1.2.1)
    · exact Or.inr g3
theorem i_need {t k : Nat} {kk kq : Int32} {M N : gM} {L K : gL} (hkk : kk = nI k) (hkq : kq = nI (phi k)) (hk : kdom k) (h2 : 2 ≤ k) (h : IS b n m t M L N K ∨ Dd b n m M N) : ∃ M' N', F_Reader_need kk M = some M' ∧ F_Mod_must kq N = some N' ∧ ((IS b n m (t + 1) M' L N' K ∧ IS b n m t M L N K ∧ Eo cS M M') ∨ Dd b n m M' N') ∧ Eo mS N N' := by
  rcases h with h | hd
  · obtain ⟨a1, a2, lf, a3⟩ := id h
    obtain ⟨M', N', g1, g2, g3, g4⟩ := p_need (t := t) hkk hkq hk h2 (Or.inl ⟨a1, a2⟩)
    refine ⟨M', N', g1, g2, ?_, g4⟩
    rcases g3 with ⟨x1, x2, x3, x4⟩ | g3
    · exact Or.inl ⟨⟨a1.eo (x4.mono cS_cI) (g4.mono mS_mI), x1, lf, a3.keep (by omega) x4 g4⟩, h, x4⟩
    · exact Or.inr g3
  · obtain ⟨M', N', g1, g2, g3, g4⟩ := p_need (b := b) (n := n) (m := m) (M := M) (N := N) (L := L) (K := K) (t := t) hkk hkq hk h2 (Or.inr hd)
    refine ⟨M', N', g1, g2, ?_, g4⟩
    rcases g3 with ⟨x1, x2, x3, x4⟩ | g3
    · exact absurd hd x2.nd
    · exact Or.inr g3
theorem i_name {t nc : Nat} {l : Nat → List Nat} {a : Nat → Int32} {fc : Int32} {M N : gM} {L K : gL} (hn : nc ≤ 20) (h : (IS b n m t M L N K ∧ Mn nc l a N K ∧ (M 3 4 = 0 → Cn nc l a M L)) ∨ Dd b n m M N) :
    ∃ M' L' r' N', F_Reader_takeNewName fc M L = some (M', L') ∧ F_Mod_named N K = some (r', N') ∧
    ((IS b n m (t + 1) M' L' N' K ∧ IS b n m t M L N K ∧ tkK b n t = 2 ∧ r' = nI t ∧ (M' 3 4 = 0 → M 3 4 = 0 ∧ (∀ k, k < nc → l k ≠ tokL b n (tkF b n t)) ∧ Cn (nc + 1) (fun k => if k = nc then tokL b n (tkF b n t) else l k) (fun k => if k = nc then fc else a k) M' L') ∧ Eo cN M M' ∧ (∀ c j, c ≠ 9 → L' c j = L c j)) ∨ Dd b n m M' N') ∧ Eo mI N N' := by
  rcases h with ⟨h, hM, hC⟩ | hd
  · obtain ⟨a1, a2, lf, a3⟩ := id h
    obtain ⟨M', L', r', N', g1, g2, g3, g4⟩ := p_name (lf := lf) (fc := fc) hn (Or.inl ⟨a1, a2, a3, hM, fun q => hC ((IS.lf0 a3).mpr q)⟩)
    refine ⟨M', L', r', N', g1, g2, ?_, g4⟩
    rcases g3 with ⟨x1, x2, x3, ⟨lf', x5, x6⟩, x7, x8⟩ | g3
    · refine Or.inl ⟨⟨a1.keep (fun j => x7 6 j (by unfold cN; omega)) (fun j => x7 7 j (by unfold cN; omega)) (fun j => x8 8 j (by decide)) (fun j => g4 404 j (by unfold mI; omega)) (fun j => g4 405 j (by unfold mI; omega)) (fun j => g4 406 j (by unfold mI; omega)) (fun _ => rfl), x1, lf', x5⟩, h, x2, x3, fun q => ?_, x7, x8⟩
      obtain ⟨y1, y2, y3⟩ := x6 ((IS.lf0 x5).mp q)
      exact ⟨(IS.lf0 a3).mpr y1, y2, y3⟩
    · exact Or.inr g3
  · obtain ⟨M', L', r', N', g1, g2, g3, g4⟩ := p_name (b := b) (n := n) (m := m) (M := M) (N := N) (L := L) (K := K) (t := t) (lf := 0) (l := l) (a := a) (fc := fc) hn (Or.inr hd)
    refine ⟨M', L', r', N', g1, g2, ?_, g4⟩
    rcases g3 with ⟨x1, x2, x3, x5, x7, x8⟩ | g3
    · exfalso
      obtain ⟨M2, L2, e1, e2⟩ := tq_Reader_takeNewName (p1 := fc) (M := M) (L := L)
      have e3 : M2 = M' := by have := e1.symm.trans g1; injection this with q; injection q
      have e4 := e2.2.2 hd.nf.2
      rw [e3] at e4
      exact hd.nf.2 (by rw [← e4.1]; exact x1.2.1)
    · exact Or.inr g3
/-- need ';' and ends -/
theorem i_ends {t t0 nc : Nat} {l : Nat → List Nat} {a : Nat → Int32} {fc r0 : Int32} {M N : gM} {L K : gL} (hn : nc ≤ 20) (hr : IS b n m t M L N K → r0 = nI t0 ∧ t0 ≤ 400 ∧ tkK b n t0 = 2 ∧ okN (tokL b n (tkF b n t0)) ∧ K 407 t0 = lN (enc 27 (tokL b n (tkF b n t0))) ∧ Mn nc l a N K) (h : IS b n m t M L N K ∨ Dd b n m M N) :
    ∃ M' N' K', F_Reader_need 59 M = some M' ∧ F_Mod_ends r0 fc N K = some (N', K') ∧ ((IS b n m (t + 1) M' L N' K' ∧ IS b n m t M L N K ∧ Eo cS M M' ∧ Mn (nc + 1) (fun k => if k = nc then tokL b n (tkF b n t0) else l k) (fun k => if k = nc then fc else a k) N' K') ∨ (Dd b n m M' N' ∧ K' = K)) ∧ Eo (fun c j => mS c j ∨ c = 410 ∨ (c = 401 ∧ j = 20)) N N' ∧ (∀ c j, c ≠ 409 → K' c j = K c j) := by
  obtain ⟨M', N1, g1, g2, g3, g4⟩ := i_need (k := 59) (kk := 59) (kq := 4) rfl rfl (Or.inr (Or.inl rfl)) (by decide) h
  unfold F_Mod_ends
  rw [g1, g2, bI_s]
  have g4' : Eo (fun c j => mS c j ∨ c = 410 ∨ (c = 401 ∧ j = 20)) N N1 := g4.mono (fun c j q => Or.inl q)
  rcases g3 with ⟨x1, x2, x3⟩ | g3
  · obtain ⟨y1, y2, y3, y4, y5, y6⟩ := hr x2
    have n20 : N1 401 20 = nI nc := by rw [g4 401 20 (by unfold mS; omega)]; exact y6.1
    rw [if_pos (by rw [x1.2.1.2.2.2.1]; decide), y1, nI_clamp (by omega), if_neg (nI_inc (by omega) (by omega)), n20, nI_clamp (by omega), if_neg (nI_inc (by omega) (by omega)), nmL_e, if_neg (nI_inc (by omega) (by omega)), nmM_e, nmM_e, uM_diff (by omega), n20, nI_1]
    have f1 : Eo (fun c j => c = 410 ∨ (c = 401 ∧ j = 20)) N1 (uM (uM N1 410 nc fc) 401 20 (nI (nc + 1))) := (Eo.rf.u (Or.inl rfl)).u (Or.inr ⟨rfl, rfl⟩)
    refine ⟨M', _, _, rfl, rfl, Or.inl ⟨⟨x1.1.keep (fun _ => rfl) (fun _ => rfl) (fun _ => rfl) (fun j => f1 404 j (by omega)) (fun j => f1 405 j (by omega)) (fun j => f1 406 j (by omega)) (fun j => by rw [uL_ne _ _ _ (by decide)]), x1.2.1.at rfl rfl (f1 401 11 (by omega)) (f1 401 13 (by omega)), ?_⟩, x2, x3, ?_⟩, g4'.tr (f1.mono (fun c j q => Or.inr q)), fun c j q => by rw [uL_ne _ _ _ q]⟩
    · obtain ⟨lf, x4⟩ := x1.2.2
      exact ⟨lf, x4.up (Nat.le_refl _) rfl rfl (f1 401 15 (by omega)) (f1 401 16 (by omega))⟩
    · refine ⟨uM_same, fun k hk => ?_⟩
      by_cases e : k = nc
      · subst e
        dsimp only
        rw [if_pos rfl, if_pos rfl]
        exact ⟨y4, by rw [uL_at, if_pos ⟨rfl, rfl⟩]; exact y5, by rw [uM_diff (by omega), uM_same]⟩
      · obtain ⟨z1, z2, z3⟩ := y6.2 k (by omega)
        dsimp only
        rw [if_neg e, if_neg e]
        exact ⟨z1, by rw [uL_at, if_neg (fun q => e q.2)]; exact z2, by rw [uM_diff (by omega), uM_diff (by omega), g4 410 k (by unfold mS; omega)]; exact z3⟩
  · rw [if_neg (by obtain ⟨k2, ft, u, a1, a2, a3, a4, a5, a6, a7, a8⟩ := id g3; rw [a5]; exact nI_nle (by omega) (by omega))]
    exact ⟨M', N1, K, rfl, rfl, Or.inr ⟨g3, rfl⟩, g4', fun _ _ _ => rfl⟩
end PAR8
