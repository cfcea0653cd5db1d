def Fz (n : Nat) (M : gM) (L : gL) (R : gR) : Prop := ∀ c, n ≤ c → ∀ i, M c i = 0 ∧ L c i = 0 ∧ R c i = none
theorem Fz.up {n : Nat} {M : gM} {L : gL} {R : gR} (h : Fz n M L R) : Fz (n + 1) M L R := fun c hc => h c (by omega)
theorem Fz.wM {n a i : Nat} {x : Int32} {M M' : gM} {L : gL} {R : gR} (h : Fz n M L R) (ha : a < n) (e : M' = uM M a i x) : Fz n M' L R := fun c hc j => by
  have h1 := h c hc j
  rw [e, uM_at, if_neg (fun q => by omega)]
  exact h1
theorem Fz.wL {n a i : Nat} {x : Int64} {M : gM} {L L' : gL} {R : gR} (h : Fz n M L R) (ha : a < n) (e : L' = uL L a i x) : Fz n M L' R := fun c hc j => by
  have h1 := h c hc j
  rw [e, uL_at, if_neg (fun q => by omega)]
  exact h1
theorem Fz.wR {n a i : Nat} {x : Option Nat} {M : gM} {L : gL} {R R' : gR} (h : Fz n M L R) (ha : a < n) (e : R' = uR R a i x) : Fz n M L R' := fun c hc j => by
  have h1 := h c hc j
  rw [e, uR_at, if_neg (fun q => by omega)]
  exact h1
theorem rdR_ne {R' R : gR} {a i c j : Nat} {x : Option Nat} (e : R' = uR R a i x) (h : ¬ (c = a ∧ j = i)) : R' c j = R c j := by rw [e, uR_at, if_neg h]
theorem rdR_eq {R' R : gR} {a i : Nat} {x : Option Nat} (e : R' = uR R a i x) : R' a i = x := by rw [e, uR_at, if_pos ⟨rfl, rfl⟩]
theorem rdL_ne {L' L : gL} {a i c j : Nat} {x : Int64} (e : L' = uL L a i x) (h : ¬ (c = a ∧ j = i)) : L' c j = L c j := by rw [e, uL_at, if_neg h]
theorem rdL_eq {L' L : gL} {a i : Nat} {x : Int64} (e : L' = uL L a i x) : L' a i = x := by rw [e, uL_at, if_pos ⟨rfl, rfl⟩]
section RULES7
variable {l : Launch} {Y : gY} {E : Nat × Nat × Nat} {n k z pc pc1 : Nat} {lv lv' : List (Nat × Value)} {st : List Value} {M : gM} {L : gL} {R : gR} {Q : Option Value → gM → gL → gR → Prop}
theorem Wp.topR (kk : ∀ R' : gR, R' = R → Wp l Y E n k z pc lv st M L R' Q) : Wp l Y E n k z pc lv st M L R Q := kk R rfl
theorem Wp.vall {x y : Int64} (h : x = y) (kk : Wp l Y E n k z pc lv (.long y :: st) M L R Q) : Wp l Y E n k z pc lv (.long x :: st) M L R Q := by rw [h]; exact kk
end RULES7
def kM_Tape_init (M : gM) : gM := M
def kL_Tape_init (L : gL) : gL := L
def kR_Tape_init (R : gR) : gR := (uR R 1 0 (some 2))
set_option maxHeartbeats 4000000 in
set_option maxRecDepth 20000 in
theorem t0_Tape_init {l : Launch} {M : gM} {L : gL} {R : gR} {Q : Option Value → gM → gL → gR → Prop} (hF : Fz 2 M L R) (hQ : ∀ (M' : gM) (L' : gL) (R' : gR), M' = kM_Tape_init M → L' = kL_Tape_init L → R' = kR_Tape_init R → Fz 3 M' L' R' → Q none M' L' R') : Tm l y_Tape_init (1, 2000, 3) 2 [.ref 1] M L R Q := by
  refine Tm.of (by decide) (Nat.le_of_ble_eq_true rfl) ?_
  show Wp l y_Tape_init (1, 2000, 3) 2 0 0 0 [(0, .ref 1)] [] M L R Q
  refine g_aload_n (pc1 := 1) d_Tape_init_0 rfl 0 rfl ?_
  refine g_objInit (pc1 := 4) d_Tape_init_1 rfl ml_Tape_3 mi_objectInit mc_objectInit (by decide) (Nat.le_of_ble_eq_true rfl) ?_
  refine g_aload_n (pc1 := 5) d_Tape_init_4 rfl 0 rfl ?_
  refine g_sipush (pc1 := 8) (v := 2000) d_Tape_init_5 rfl (by decide) ?_
  refine g_newI (pc1 := 10) d_Tape_init_8 rfl ca_int sh_2 (fun i => (hF _ (Nat.le_refl _) i).1) (by decide) (by decide) (by decide) (Nat.le_of_ble_eq_true rfl) (Nat.le_of_ble_eq_true rfl) ?_
  refine g_putF (pc1 := 13) (v := .ref 2) (M' := M) (R' := uR R 1 0 (some 2)) d_Tape_init_10 rfl rfl ff_Tape_9 (fun _ => po_1_0 _) sh_1 (by decide) (fun _ => fvl_R_self) (fun _ q h => fvl_R_ne q h) (fun _ _ _ h => ent_neR h) ?_
  refine Wp.topR (fun R1 eR1 => ?_)
  refine g_return rfl d_Tape_init_13 rfl ?_
  exact hQ _ _ _ (by subst_vars; rfl) (by subst_vars; rfl) (by subst_vars; rfl) (Fz.wR (Fz.up hF) (by decide) eR1)
def kM_Law_init (Wl : Nat) (M : gM) : gM := M
def kL_Law_init (Wl : Nat) (L : gL) : gL := L
def kR_Law_init (Wl : Nat) (R : gR) : gR := (uR (uR (uR R Wl 0 (some (Wl + 1))) Wl 2 (some (Wl + 2))) Wl 3 (some (Wl + 3)))
set_option maxHeartbeats 4000000 in
set_option maxRecDepth 20000 in
theorem t0_Law_init {l : Launch} {M : gM} {L : gL} {R : gR} {Q : Option Value → gM → gL → gR → Prop} (Wl : Nat) (hWl : isLw Wl) (hF : Fz (Wl + 1) M L R) (hQ : ∀ (M' : gM) (L' : gL) (R' : gR), M' = kM_Law_init Wl M → L' = kL_Law_init Wl L → R' = kR_Law_init Wl R → Fz (Wl + 4) M' L' R' → Q none M' L' R') : Tm l y_Law_init (3, 441, (Wl + 4)) (Wl + 1) [.ref Wl] M L R Q := by
  refine Tm.of (by decide) (Nat.le_of_ble_eq_true rfl) ?_
  show Wp l y_Law_init (3, 441, (Wl + 4)) (Wl + 1) 0 0 0 [(0, .ref Wl)] [] M L R Q
  refine g_aload_n (pc1 := 1) d_Law_init_0 rfl 0 rfl ?_
  refine g_objInit (pc1 := 4) d_Law_init_1 rfl ml_Law_5 mi_objectInit mc_objectInit (by decide) (Nat.le_of_ble_eq_true rfl) ?_
  refine g_aload_n (pc1 := 5) d_Law_init_4 rfl 0 rfl ?_
  refine g_sipush (pc1 := 8) (v := 400) d_Law_init_5 rfl (by decide) ?_
  refine g_newI (pc1 := 10) d_Law_init_8 rfl ca_int (shLw_1 hWl) (fun i => (hF _ (Nat.le_refl _) i).1) (by decide) (by decide) (by decide) (Nat.le_of_ble_eq_true rfl) (Nat.le_of_ble_eq_true rfl) ?_
  refine g_putF (pc1 := 13) (v := .ref (Wl + 1)) (M' := M) (R' := uR R Wl 0 (some (Wl + 1))) d_Law_init_10 rfl rfl ff_Law_11 (fun _ => po_5_0 _) (shLw_0 hWl) (by omega) (fun _ => fvl_R_self) (fun _ q h => fvl_R_ne q h) (fun _ _ _ h => ent_neR h) ?_
  refine Wp.topR (fun R2 eR2 => ?_)
  refine g_aload_n (pc1 := 14) d_Law_init_13 rfl 0 rfl ?_
  refine g_bipush (pc1 := 16) (v := 9) d_Law_init_14 rfl (by decide) ?_
  refine g_newI (pc1 := 18) d_Law_init_16 rfl ca_int (shLw_2 hWl) (fun i => ((Fz.wR (Fz.up hF) (by omega) eR2) _ (Nat.le_refl _) i).1) (by decide) (by decide) (by decide) (Nat.le_of_ble_eq_true rfl) (Nat.le_of_ble_eq_true rfl) ?_
  refine g_putF (pc1 := 21) (v := .ref (Wl + 2)) (M' := M) (R' := uR R2 Wl 2 (some (Wl + 2))) d_Law_init_18 rfl rfl ff_Law_15 (fun _ => po_5_2 _) (shLw_0 hWl) (by omega) (fun _ => fvl_R_self) (fun _ q h => fvl_R_ne q h) (fun _ _ _ h => ent_neR h) ?_
  refine Wp.topR (fun R3 eR3 => ?_)
  refine g_aload_n (pc1 := 22) d_Law_init_21 rfl 0 rfl ?_
  refine g_bipush (pc1 := 24) (v := 32) d_Law_init_22 rfl (by decide) ?_
  refine g_newI (pc1 := 26) d_Law_init_24 rfl ca_int (shLw_3 hWl) (fun i => ((Fz.wR (Fz.up (Fz.wR (Fz.up hF) (by omega) eR2)) (by omega) eR3) _ (Nat.le_refl _) i).1) (by decide) (by decide) (by decide) (Nat.le_of_ble_eq_true rfl) (Nat.le_of_ble_eq_true rfl) ?_
  refine g_putF (pc1 := 29) (v := .ref (Wl + 3)) (M' := M) (R' := uR R3 Wl 3 (some (Wl + 3))) d_Law_init_26 rfl rfl ff_Law_18 (fun _ => po_5_3 _) (shLw_0 hWl) (by omega) (fun _ => fvl_R_self) (fun _ q h => fvl_R_ne q h) (fun _ _ _ h => ent_neR h) ?_
  refine Wp.topR (fun R4 eR4 => ?_)
  refine g_return rfl d_Law_init_29 rfl ?_
  exact hQ _ _ _ (by subst_vars; rfl) (by subst_vars; rfl) (by subst_vars; rfl) (Fz.wR (Fz.up (Fz.wR (Fz.up (Fz.wR (Fz.up hF) (by omega) eR2)) (by omega) eR3)) (by omega) eR4)
def kM_State_init (X : Nat) (M : gM) : gM := (uM M X 3 (-2))
def kL_State_init (X : Nat) (L : gL) : gL := L
def kR_State_init (X : Nat) (R : gR) : gR := (uR (uR (uR (uR (uR (uR R X 4 (some (X + 1))) X 5 (some (X + 2))) X 6 (some (X + 3))) X 7 (some (X + 4))) X 8 (some (X + 5))) X 9 (some (X + 6)))
set_option maxHeartbeats 4000000 in
set_option maxRecDepth 20000 in
theorem t0_State_init {l : Launch} {M : gM} {L : gL} {R : gR} {Q : Option Value → gM → gL → gR → Prop} (X : Nat) (hX : isSt X) (hF : Fz (X + 1) M L R) (hQ : ∀ (M' : gM) (L' : gL) (R' : gR), M' = kM_State_init X M → L' = kL_State_init X L → R' = kR_State_init X R → Fz (X + 7) M' L' R' → Q none M' L' R') : Tm l y_State_init (6, 34, (X + 7)) (X + 1) [.ref X] M L R Q := by
  refine Tm.of (by decide) (Nat.le_of_ble_eq_true rfl) ?_
  show Wp l y_State_init (6, 34, (X + 7)) (X + 1) 0 0 0 [(0, .ref X)] [] M L R Q
  refine g_aload_n (pc1 := 1) d_State_init_0 rfl 0 rfl ?_
  refine g_objInit (pc1 := 4) d_State_init_1 rfl ml_State_3 mi_objectInit mc_objectInit (by decide) (Nat.le_of_ble_eq_true rfl) ?_
  refine g_aload_n (pc1 := 5) d_State_init_4 rfl 0 rfl ?_
  refine g_bipush (pc1 := 7) (v := (-2)) d_State_init_5 rfl (by decide) ?_
  refine g_puti (pc1 := 10) d_State_init_7 rfl fo_State_9 (po_6_3 _) (shSt_0 hX) (by omega) ?_
  refine Wp.topM (fun M5 eM5 => ?_)
  refine g_aload_n (pc1 := 11) d_State_init_10 rfl 0 rfl ?_
  refine g_iconst (pc1 := 12) (v := 3) d_State_init_11 rfl (by decide) ?_
  refine g_newI (pc1 := 14) d_State_init_12 rfl ca_int (shSt_1 hX) (fun i => ((Fz.wM hF (by omega) eM5) _ (Nat.le_refl _) i).1) (by decide) (by decide) (by decide) (Nat.le_of_ble_eq_true rfl) (Nat.le_of_ble_eq_true rfl) ?_
  refine g_putF (pc1 := 17) (v := .ref (X + 1)) (M' := M5) (R' := uR R X 4 (some (X + 1))) d_State_init_14 rfl rfl ff_State_15 (fun _ => po_6_4 _) (shSt_0 hX) (by omega) (fun _ => fvl_R_self) (fun _ q h => fvl_R_ne q h) (fun _ _ _ h => ent_neR h) ?_
  refine Wp.topR (fun R6 eR6 => ?_)
  refine g_aload_n (pc1 := 18) d_State_init_17 rfl 0 rfl ?_
  refine g_bipush (pc1 := 20) (v := 6) d_State_init_18 rfl (by decide) ?_
  refine g_newI (pc1 := 22) d_State_init_20 rfl ca_int (shSt_2 hX) (fun i => ((Fz.wR (Fz.up (Fz.wM hF (by omega) eM5)) (by omega) eR6) _ (Nat.le_refl _) i).1) (by decide) (by decide) (by decide) (Nat.le_of_ble_eq_true rfl) (Nat.le_of_ble_eq_true rfl) ?_
  refine g_putF (pc1 := 25) (v := .ref (X + 2)) (M' := M5) (R' := uR R6 X 5 (some (X + 2))) d_State_init_22 rfl rfl ff_State_19 (fun _ => po_6_5 _) (shSt_0 hX) (by omega) (fun _ => fvl_R_self) (fun _ q h => fvl_R_ne q h) (fun _ _ _ h => ent_neR h) ?_
  refine Wp.topR (fun R7 eR7 => ?_)
  refine g_aload_n (pc1 := 26) d_State_init_25 rfl 0 rfl ?_
  refine g_iconst (pc1 := 27) (v := 5) d_State_init_26 rfl (by decide) ?_
  refine g_newI (pc1 := 29) d_State_init_27 rfl ca_int (shSt_3 hX) (fun i => ((Fz.wR (Fz.up (Fz.wR (Fz.up (Fz.wM hF (by omega) eM5)) (by omega) eR6)) (by omega) eR7) _ (Nat.le_refl _) i).1) (by decide) (by decide) (by decide) (Nat.le_of_ble_eq_true rfl) (Nat.le_of_ble_eq_true rfl) ?_
  refine g_putF (pc1 := 32) (v := .ref (X + 3)) (M' := M5) (R' := uR R7 X 6 (some (X + 3))) d_State_init_29 rfl rfl ff_State_22 (fun _ => po_6_6 _) (shSt_0 hX) (by omega) (fun _ => fvl_R_self) (fun _ q h => fvl_R_ne q h) (fun _ _ _ h => ent_neR h) ?_
  refine Wp.topR (fun R8 eR8 => ?_)
  refine g_aload_n (pc1 := 33) d_State_init_32 rfl 0 rfl ?_
  refine g_iconst (pc1 := 34) (v := 4) d_State_init_33 rfl (by decide) ?_
  refine g_newI (pc1 := 36) d_State_init_34 rfl ca_int (shSt_4 hX) (fun i => ((Fz.wR (Fz.up (Fz.wR (Fz.up (Fz.wR (Fz.up (Fz.wM hF (by omega) eM5)) (by omega) eR6)) (by omega) eR7)) (by omega) eR8) _ (Nat.le_refl _) i).1) (by decide) (by decide) (by decide) (Nat.le_of_ble_eq_true rfl) (Nat.le_of_ble_eq_true rfl) ?_
  refine g_putF (pc1 := 39) (v := .ref (X + 4)) (M' := M5) (R' := uR R8 X 7 (some (X + 4))) d_State_init_36 rfl rfl ff_State_25 (fun _ => po_6_7 _) (shSt_0 hX) (by omega) (fun _ => fvl_R_self) (fun _ q h => fvl_R_ne q h) (fun _ _ _ h => ent_neR h) ?_
  refine Wp.topR (fun R9 eR9 => ?_)
  refine g_aload_n (pc1 := 40) d_State_init_39 rfl 0 rfl ?_
  refine g_iconst (pc1 := 41) (v := 4) d_State_init_40 rfl (by decide) ?_
  refine g_newI (pc1 := 43) d_State_init_41 rfl ca_int (shSt_5 hX) (fun i => ((Fz.wR (Fz.up (Fz.wR (Fz.up (Fz.wR (Fz.up (Fz.wR (Fz.up (Fz.wM hF (by omega) eM5)) (by omega) eR6)) (by omega) eR7)) (by omega) eR8)) (by omega) eR9) _ (Nat.le_refl _) i).1) (by decide) (by decide) (by decide) (Nat.le_of_ble_eq_true rfl) (Nat.le_of_ble_eq_true rfl) ?_
  refine g_putF (pc1 := 46) (v := .ref (X + 5)) (M' := M5) (R' := uR R9 X 8 (some (X + 5))) d_State_init_43 rfl rfl ff_State_28 (fun _ => po_6_8 _) (shSt_0 hX) (by omega) (fun _ => fvl_R_self) (fun _ q h => fvl_R_ne q h) (fun _ _ _ h => ent_neR h) ?_
  refine Wp.topR (fun R10 eR10 => ?_)
  refine g_aload_n (pc1 := 47) d_State_init_46 rfl 0 rfl ?_
  refine g_bipush (pc1 := 49) (v := 12) d_State_init_47 rfl (by decide) ?_
  refine g_newI (pc1 := 51) d_State_init_49 rfl ca_int (shSt_6 hX) (fun i => ((Fz.wR (Fz.up (Fz.wR (Fz.up (Fz.wR (Fz.up (Fz.wR (Fz.up (Fz.wR (Fz.up (Fz.wM hF (by omega) eM5)) (by omega) eR6)) (by omega) eR7)) (by omega) eR8)) (by omega) eR9)) (by omega) eR10) _ (Nat.le_refl _) i).1) (by decide) (by decide) (by decide) (Nat.le_of_ble_eq_true rfl) (Nat.le_of_ble_eq_true rfl) ?_
  refine g_putF (pc1 := 54) (v := .ref (X + 6)) (M' := M5) (R' := uR R10 X 9 (some (X + 6))) d_State_init_51 rfl rfl ff_State_31 (fun _ => po_6_9 _) (shSt_0 hX) (by omega) (fun _ => fvl_R_self) (fun _ q h => fvl_R_ne q h) (fun _ _ _ h => ent_neR h) ?_
  refine Wp.topR (fun R11 eR11 => ?_)
  refine g_return rfl d_State_init_54 rfl ?_
  exact hQ _ _ _ (by subst_vars; rfl) (by subst_vars; rfl) (by subst_vars; rfl) (Fz.wR (Fz.up (Fz.wR (Fz.up (Fz.wR (Fz.up (Fz.wR (Fz.up (Fz.wR (Fz.up (Fz.wR (Fz.up (Fz.wM hF (by omega) eM5)) (by omega) eR6)) (by omega) eR7)) (by omega) eR8)) (by omega) eR9)) (by omega) eR10)) (by omega) eR11)
def kM_Land_init (Ld : Nat) (M : gM) : gM := (kM_Law_init (Ld + 21) (kM_Law_init (Ld + 17) (kM_Law_init (Ld + 13) (kM_Law_init (Ld + 9) M))))
def kL_Land_init (Ld : Nat) (L : gL) : gL := (kL_Law_init (Ld + 21) (kL_Law_init (Ld + 17) (kL_Law_init (Ld + 13) (kL_Law_init (Ld + 9) L))))
def kR_Land_init (Ld : Nat) (R : gR) : gR := (uR (uR (kR_Law_init (Ld + 21) (uR (kR_Law_init (Ld + 17) (uR (kR_Law_init (Ld + 13) (uR (kR_Law_init (Ld + 9) (uR (uR (uR (uR (uR (uR (uR (uR R Ld 5 (some (Ld + 1))) Ld 6 (some (Ld + 2))) Ld 7 (some (Ld + 3))) Ld 8 (some (Ld + 4))) Ld 9 (some (Ld + 5))) Ld 10 (some (Ld + 6))) Ld 11 (some (Ld + 7))) Ld 12 (some (Ld + 8)))) Ld 13 (some (Ld + 9)))) Ld 14 (some (Ld + 13)))) Ld 15 (some (Ld + 17)))) Ld 16 (some (Ld + 21))) Ld 17 (some (Ld + 25)))
set_option maxHeartbeats 4000000 in
set_option maxRecDepth 20000 in
theorem t0_Land_init {l : Launch} {M : gM} {L : gL} {R : gR} {Q : Option Value → gM → gL → gR → Prop} (Ld : Nat) (hLd : isLa Ld) (hF : Fz (Ld + 1) M L R) (hQ : ∀ (M' : gM) (L' : gL) (R' : gR), M' = kM_Land_init Ld M → L' = kL_Land_init Ld L → R' = kR_Land_init Ld R → Fz (Ld + 26) M' L' R' → Q none M' L' R') : Tm l y_Land_init (25, 1864, (Ld + 26)) (Ld + 1) [.ref Ld] M L R Q := by
  refine Tm.of (by decide) (Nat.le_of_ble_eq_true rfl) ?_
  show Wp l y_Land_init (25, 1864, (Ld + 26)) (Ld + 1) 0 0 0 [(0, .ref Ld)] [] M L R Q
  refine g_aload_n (pc1 := 1) d_Land_init_0 rfl 0 rfl ?_
  refine g_objInit (pc1 := 4) d_Land_init_1 rfl ml_Land_3 mi_objectInit mc_objectInit (by decide) (Nat.le_of_ble_eq_true rfl) ?_
  refine g_aload_n (pc1 := 5) d_Land_init_4 rfl 0 rfl ?_
  refine g_bipush (pc1 := 7) (v := 6) d_Land_init_5 rfl (by decide) ?_
  refine g_newI (pc1 := 9) d_Land_init_7 rfl ca_int (shLa_1 hLd) (fun i => (hF _ (Nat.le_refl _) i).1) (by decide) (by decide) (by decide) (Nat.le_of_ble_eq_true rfl) (Nat.le_of_ble_eq_true rfl) ?_
  refine g_putF (pc1 := 12) (v := .ref (Ld + 1)) (M' := M) (R' := uR R Ld 5 (some (Ld + 1))) d_Land_init_9 rfl rfl ff_Land_9 (fun _ => po_4_5 _) (shLa_0 hLd) (by omega) (fun _ => fvl_R_self) (fun _ q h => fvl_R_ne q h) (fun _ _ _ h => ent_neR h) ?_
  refine Wp.topR (fun R12 eR12 => ?_)
  refine g_aload_n (pc1 := 13) d_Land_init_12 rfl 0 rfl ?_
  refine g_bipush (pc1 := 15) (v := 6) d_Land_init_13 rfl (by decide) ?_
  refine g_newI (pc1 := 17) d_Land_init_15 rfl ca_int (shLa_2 hLd) (fun i => ((Fz.wR (Fz.up hF) (by omega) eR12) _ (Nat.le_refl _) i).1) (by decide) (by decide) (by decide) (Nat.le_of_ble_eq_true rfl) (Nat.le_of_ble_eq_true rfl) ?_
  refine g_putF (pc1 := 20) (v := .ref (Ld + 2)) (M' := M) (R' := uR R12 Ld 6 (some (Ld + 2))) d_Land_init_17 rfl rfl ff_Land_15 (fun _ => po_4_6 _) (shLa_0 hLd) (by omega) (fun _ => fvl_R_self) (fun _ q h => fvl_R_ne q h) (fun _ _ _ h => ent_neR h) ?_
  refine Wp.topR (fun R13 eR13 => ?_)
  refine g_aload_n (pc1 := 21) d_Land_init_20 rfl 0 rfl ?_
  refine g_bipush (pc1 := 23) (v := 18) d_Land_init_21 rfl (by decide) ?_
  refine g_newI (pc1 := 25) d_Land_init_23 rfl ca_int (shLa_3 hLd) (fun i => ((Fz.wR (Fz.up (Fz.wR (Fz.up hF) (by omega) eR12)) (by omega) eR13) _ (Nat.le_refl _) i).1) (by decide) (by decide) (by decide) (Nat.le_of_ble_eq_true rfl) (Nat.le_of_ble_eq_true rfl) ?_
  refine g_putF (pc1 := 28) (v := .ref (Ld + 3)) (M' := M) (R' := uR R13 Ld 7 (some (Ld + 3))) d_Land_init_25 rfl rfl ff_Land_18 (fun _ => po_4_7 _) (shLa_0 hLd) (by omega) (fun _ => fvl_R_self) (fun _ q h => fvl_R_ne q h) (fun _ _ _ h => ent_neR h) ?_
  refine Wp.topR (fun R14 eR14 => ?_)
  refine g_aload_n (pc1 := 29) d_Land_init_28 rfl 0 rfl ?_
  refine g_iconst (pc1 := 30) (v := 5) d_Land_init_29 rfl (by decide) ?_
  refine g_newI (pc1 := 32) d_Land_init_30 rfl ca_int (shLa_4 hLd) (fun i => ((Fz.wR (Fz.up (Fz.wR (Fz.up (Fz.wR (Fz.up hF) (by omega) eR12)) (by omega) eR13)) (by omega) eR14) _ (Nat.le_refl _) i).1) (by decide) (by decide) (by decide) (Nat.le_of_ble_eq_true rfl) (Nat.le_of_ble_eq_true rfl) ?_
  refine g_putF (pc1 := 35) (v := .ref (Ld + 4)) (M' := M) (R' := uR R14 Ld 8 (some (Ld + 4))) d_Land_init_32 rfl rfl ff_Land_21 (fun _ => po_4_8 _) (shLa_0 hLd) (by omega) (fun _ => fvl_R_self) (fun _ q h => fvl_R_ne q h) (fun _ _ _ h => ent_neR h) ?_
  refine Wp.topR (fun R15 eR15 => ?_)
  refine g_aload_n (pc1 := 36) d_Land_init_35 rfl 0 rfl ?_
  refine g_bipush (pc1 := 38) (v := 30) d_Land_init_36 rfl (by decide) ?_
  refine g_newI (pc1 := 40) d_Land_init_38 rfl ca_int (shLa_5 hLd) (fun i => ((Fz.wR (Fz.up (Fz.wR (Fz.up (Fz.wR (Fz.up (Fz.wR (Fz.up hF) (by omega) eR12)) (by omega) eR13)) (by omega) eR14)) (by omega) eR15) _ (Nat.le_refl _) i).1) (by decide) (by decide) (by decide) (Nat.le_of_ble_eq_true rfl) (Nat.le_of_ble_eq_true rfl) ?_
  refine g_putF (pc1 := 43) (v := .ref (Ld + 5)) (M' := M) (R' := uR R15 Ld 9 (some (Ld + 5))) d_Land_init_40 rfl rfl ff_Land_24 (fun _ => po_4_9 _) (shLa_0 hLd) (by omega) (fun _ => fvl_R_self) (fun _ q h => fvl_R_ne q h) (fun _ _ _ h => ent_neR h) ?_
  refine Wp.topR (fun R16 eR16 => ?_)
  refine g_aload_n (pc1 := 44) d_Land_init_43 rfl 0 rfl ?_
  refine g_iconst (pc1 := 45) (v := 4) d_Land_init_44 rfl (by decide) ?_
  refine g_newI (pc1 := 47) d_Land_init_45 rfl ca_int (shLa_6 hLd) (fun i => ((Fz.wR (Fz.up (Fz.wR (Fz.up (Fz.wR (Fz.up (Fz.wR (Fz.up (Fz.wR (Fz.up hF) (by omega) eR12)) (by omega) eR13)) (by omega) eR14)) (by omega) eR15)) (by omega) eR16) _ (Nat.le_refl _) i).1) (by decide) (by decide) (by decide) (Nat.le_of_ble_eq_true rfl) (Nat.le_of_ble_eq_true rfl) ?_
  refine g_putF (pc1 := 50) (v := .ref (Ld + 6)) (M' := M) (R' := uR R16 Ld 10 (some (Ld + 6))) d_Land_init_47 rfl rfl ff_Land_27 (fun _ => po_4_10 _) (shLa_0 hLd) (by omega) (fun _ => fvl_R_self) (fun _ q h => fvl_R_ne q h) (fun _ _ _ h => ent_neR h) ?_
  refine Wp.topR (fun R17 eR17 => ?_)
  refine g_aload_n (pc1 := 51) d_Land_init_50 rfl 0 rfl ?_
  refine g_bipush (pc1 := 53) (v := 6) d_Land_init_51 rfl (by decide) ?_
  refine g_newI (pc1 := 55) d_Land_init_53 rfl ca_int (shLa_7 hLd) (fun i => ((Fz.wR (Fz.up (Fz.wR (Fz.up (Fz.wR (Fz.up (Fz.wR (Fz.up (Fz.wR (Fz.up (Fz.wR (Fz.up hF) (by omega) eR12)) (by omega) eR13)) (by omega) eR14)) (by omega) eR15)) (by omega) eR16)) (by omega) eR17) _ (Nat.le_refl _) i).1) (by decide) (by decide) (by decide) (Nat.le_of_ble_eq_true rfl) (Nat.le_of_ble_eq_true rfl) ?_
  refine g_putF (pc1 := 58) (v := .ref (Ld + 7)) (M' := M) (R' := uR R17 Ld 11 (some (Ld + 7))) d_Land_init_55 rfl rfl ff_Land_30 (fun _ => po_4_11 _) (shLa_0 hLd) (by omega) (fun _ => fvl_R_self) (fun _ q h => fvl_R_ne q h) (fun _ _ _ h => ent_neR h) ?_
  refine Wp.topR (fun R18 eR18 => ?_)
  refine g_aload_n (pc1 := 59) d_Land_init_58 rfl 0 rfl ?_
  refine g_bipush (pc1 := 61) (v := 6) d_Land_init_59 rfl (by decide) ?_
  refine g_newI (pc1 := 63) d_Land_init_61 rfl ca_int (shLa_8 hLd) (fun i => ((Fz.wR (Fz.up (Fz.wR (Fz.up (Fz.wR (Fz.up (Fz.wR (Fz.up (Fz.wR (Fz.up (Fz.wR (Fz.up (Fz.wR (Fz.up hF) (by omega) eR12)) (by omega) eR13)) (by omega) eR14)) (by omega) eR15)) (by omega) eR16)) (by omega) eR17)) (by omega) eR18) _ (Nat.le_refl _) i).1) (by decide) (by decide) (by decide) (Nat.le_of_ble_eq_true rfl) (Nat.le_of_ble_eq_true rfl) ?_
  refine g_putF (pc1 := 66) (v := .ref (Ld + 8)) (M' := M) (R' := uR R18 Ld 12 (some (Ld + 8))) d_Land_init_63 rfl rfl ff_Land_33 (fun _ => po_4_12 _) (shLa_0 hLd) (by omega) (fun _ => fvl_R_self) (fun _ q h => fvl_R_ne q h) (fun _ _ _ h => ent_neR h) ?_
  refine Wp.topR (fun R19 eR19 => ?_)
  refine g_aload_n (pc1 := 67) d_Land_init_66 rfl 0 rfl ?_
  refine g_new (pc1 := 70) (T := T_Law) (ty := ty_Law) d_Land_init_67 rfl rfl (fun w h => gtb_of (in_Law w h).1 (in_Law w h).2) tyk_Law (by decide) ck_Land_36 cn_Law cz_Law (shLw_0 (isLw_9 hLd)) (fun i => ((Fz.wR (Fz.up (Fz.wR (Fz.up (Fz.wR (Fz.up (Fz.wR (Fz.up (Fz.wR (Fz.up (Fz.wR (Fz.up (Fz.wR (Fz.up (Fz.wR (Fz.up hF) (by omega) eR12)) (by omega) eR13)) (by omega) eR14)) (by omega) eR15)) (by omega) eR16)) (by omega) eR17)) (by omega) eR18)) (by omega) eR19) _ (Nat.le_refl _) i).1) (fun i => ((Fz.wR (Fz.up (Fz.wR (Fz.up (Fz.wR (Fz.up (Fz.wR (Fz.up (Fz.wR (Fz.up (Fz.wR (Fz.up (Fz.wR (Fz.up (Fz.wR (Fz.up hF) (by omega) eR12)) (by omega) eR13)) (by omega) eR14)) (by omega) eR15)) (by omega) eR16)) (by omega) eR17)) (by omega) eR18)) (by omega) eR19) _ (Nat.le_refl _) i).2.2) (Nat.le_of_ble_eq_true rfl) (Nat.le_of_ble_eq_true rfl) ?_
  refine g_dup (pc1 := 71) d_Land_init_70 rfl rfl ?_
  refine g_callI (pc1 := 74) (E' := (3, 441, (Ld + 13))) (As := []) (rest := [.ref (Ld + 9), .ref Ld]) d_Land_init_71 rfl mo_Land_38 mi_Law_init rfl rfl (by decide) rfl rfl (Nat.le_of_ble_eq_true rfl) ⟨Nat.le_of_ble_eq_true rfl, Nat.le_of_ble_eq_true rfl⟩ rfl ?_
  refine t0_Law_init (Ld + 9) (isLw_9 hLd) (Fz.up (Fz.wR (Fz.up (Fz.wR (Fz.up (Fz.wR (Fz.up (Fz.wR (Fz.up (Fz.wR (Fz.up (Fz.wR (Fz.up (Fz.wR (Fz.up (Fz.wR (Fz.up hF) (by omega) eR12)) (by omega) eR13)) (by omega) eR14)) (by omega) eR15)) (by omega) eR16)) (by omega) eR17)) (by omega) eR18)) (by omega) eR19)) (fun M20 L21 R22 eM20 eL21 eR22 F23 => ?_)
  dsimp only
  refine g_putF (pc1 := 77) (v := .ref (Ld + 9)) (M' := M20) (R' := uR R22 Ld 13 (some (Ld + 9))) d_Land_init_74 rfl rfl ff_Land_39 (fun _ => po_4_13 _) (shLa_0 hLd) (by omega) (fun _ => fvl_R_self) (fun _ q h => fvl_R_ne q h) (fun _ _ _ h => ent_neR h) ?_
  refine Wp.topR (fun R24 eR24 => ?_)
  refine g_aload_n (pc1 := 78) d_Land_init_77 rfl 0 rfl ?_
  refine g_new (pc1 := 81) (T := T_Law) (ty := ty_Law) d_Land_init_78 rfl rfl (fun w h => gtb_of (in_Law w h).1 (in_Law w h).2) tyk_Law (by decide) ck_Land_36 cn_Law cz_Law (shLw_0 (isLw_13 hLd)) (fun i => ((Fz.wR F23 (by omega) eR24) _ (Nat.le_refl _) i).1) (fun i => ((Fz.wR F23 (by omega) eR24) _ (Nat.le_refl _) i).2.2) (Nat.le_of_ble_eq_true rfl) (Nat.le_of_ble_eq_true rfl) ?_
  refine g_dup (pc1 := 82) d_Land_init_81 rfl rfl ?_
  refine g_callI (pc1 := 85) (E' := (3, 441, (Ld + 17))) (As := []) (rest := [.ref (Ld + 13), .ref Ld]) d_Land_init_82 rfl mo_Land_38 mi_Law_init rfl rfl (by decide) rfl rfl (Nat.le_of_ble_eq_true rfl) ⟨Nat.le_of_ble_eq_true rfl, Nat.le_of_ble_eq_true rfl⟩ rfl ?_
  refine t0_Law_init (Ld + 13) (isLw_13 hLd) (Fz.up (Fz.wR F23 (by omega) eR24)) (fun M25 L26 R27 eM25 eL26 eR27 F28 => ?_)
  dsimp only
  refine g_putF (pc1 := 88) (v := .ref (Ld + 13)) (M' := M25) (R' := uR R27 Ld 14 (some (Ld + 13))) d_Land_init_85 rfl rfl ff_Land_43 (fun _ => po_4_14 _) (shLa_0 hLd) (by omega) (fun _ => fvl_R_self) (fun _ q h => fvl_R_ne q h) (fun _ _ _ h => ent_neR h) ?_
  refine Wp.topR (fun R29 eR29 => ?_)
  refine g_aload_n (pc1 := 89) d_Land_init_88 rfl 0 rfl ?_
  refine g_new (pc1 := 92) (T := T_Law) (ty := ty_Law) d_Land_init_89 rfl rfl (fun w h => gtb_of (in_Law w h).1 (in_Law w h).2) tyk_Law (by decide) ck_Land_36 cn_Law cz_Law (shLw_0 (isLw_17 hLd)) (fun i => ((Fz.wR F28 (by omega) eR29) _ (Nat.le_refl _) i).1) (fun i => ((Fz.wR F28 (by omega) eR29) _ (Nat.le_refl _) i).2.2) (Nat.le_of_ble_eq_true rfl) (Nat.le_of_ble_eq_true rfl) ?_
  refine g_dup (pc1 := 93) d_Land_init_92 rfl rfl ?_
  refine g_callI (pc1 := 96) (E' := (3, 441, (Ld + 21))) (As := []) (rest := [.ref (Ld + 17), .ref Ld]) d_Land_init_93 rfl mo_Land_38 mi_Law_init rfl rfl (by decide) rfl rfl (Nat.le_of_ble_eq_true rfl) ⟨Nat.le_of_ble_eq_true rfl, Nat.le_of_ble_eq_true rfl⟩ rfl ?_
  refine t0_Law_init (Ld + 17) (isLw_17 hLd) (Fz.up (Fz.wR F28 (by omega) eR29)) (fun M30 L31 R32 eM30 eL31 eR32 F33 => ?_)
  dsimp only
  refine g_putF (pc1 := 99) (v := .ref (Ld + 17)) (M' := M30) (R' := uR R32 Ld 15 (some (Ld + 17))) d_Land_init_96 rfl rfl ff_Land_46 (fun _ => po_4_15 _) (shLa_0 hLd) (by omega) (fun _ => fvl_R_self) (fun _ q h => fvl_R_ne q h) (fun _ _ _ h => ent_neR h) ?_
  refine Wp.topR (fun R34 eR34 => ?_)
  refine g_aload_n (pc1 := 100) d_Land_init_99 rfl 0 rfl ?_
  refine g_new (pc1 := 103) (T := T_Law) (ty := ty_Law) d_Land_init_100 rfl rfl (fun w h => gtb_of (in_Law w h).1 (in_Law w h).2) tyk_Law (by decide) ck_Land_36 cn_Law cz_Law (shLw_0 (isLw_21 hLd)) (fun i => ((Fz.wR F33 (by omega) eR34) _ (Nat.le_refl _) i).1) (fun i => ((Fz.wR F33 (by omega) eR34) _ (Nat.le_refl _) i).2.2) (Nat.le_of_ble_eq_true rfl) (Nat.le_of_ble_eq_true rfl) ?_
  refine g_dup (pc1 := 104) d_Land_init_103 rfl rfl ?_
  refine g_callI (pc1 := 107) (E' := (3, 441, (Ld + 25))) (As := []) (rest := [.ref (Ld + 21), .ref Ld]) d_Land_init_104 rfl mo_Land_38 mi_Law_init rfl rfl (by decide) rfl rfl (Nat.le_of_ble_eq_true rfl) ⟨Nat.le_of_ble_eq_true rfl, Nat.le_of_ble_eq_true rfl⟩ rfl ?_
  refine t0_Law_init (Ld + 21) (isLw_21 hLd) (Fz.up (Fz.wR F33 (by omega) eR34)) (fun M35 L36 R37 eM35 eL36 eR37 F38 => ?_)
  dsimp only
  refine g_putF (pc1 := 110) (v := .ref (Ld + 21)) (M' := M35) (R' := uR R37 Ld 16 (some (Ld + 21))) d_Land_init_107 rfl rfl ff_Land_49 (fun _ => po_4_16 _) (shLa_0 hLd) (by omega) (fun _ => fvl_R_self) (fun _ q h => fvl_R_ne q h) (fun _ _ _ h => ent_neR h) ?_
  refine Wp.topR (fun R39 eR39 => ?_)
  refine g_aload_n (pc1 := 111) d_Land_init_110 rfl 0 rfl ?_
  refine g_iconst (pc1 := 112) (v := 3) d_Land_init_111 rfl (by decide) ?_
  refine g_newI (pc1 := 114) d_Land_init_112 rfl ca_int (shLa_25 hLd) (fun i => ((Fz.wR F38 (by omega) eR39) _ (Nat.le_refl _) i).1) (by decide) (by decide) (by decide) (Nat.le_of_ble_eq_true rfl) (Nat.le_of_ble_eq_true rfl) ?_
  refine g_putF (pc1 := 117) (v := .ref (Ld + 25)) (M' := M35) (R' := uR R39 Ld 17 (some (Ld + 25))) d_Land_init_114 rfl rfl ff_Land_52 (fun _ => po_4_17 _) (shLa_0 hLd) (by omega) (fun _ => fvl_R_self) (fun _ q h => fvl_R_ne q h) (fun _ _ _ h => ent_neR h) ?_
  refine Wp.topR (fun R40 eR40 => ?_)
  refine g_return rfl d_Land_init_117 rfl ?_
  exact hQ _ _ _ (by subst_vars; rfl) (by subst_vars; rfl) (by subst_vars; rfl) (Fz.wR (Fz.up (Fz.wR F38 (by omega) eR39)) (by omega) eR40)
def kM_Told_init (M : gM) : gM := M
def kL_Told_init (L : gL) : gL := L
def kR_Told_init (R : gR) : gR := (uR (uR (uR (uR (uR (uR (uR R 383 0 (some 384)) 383 1 (some 385)) 383 2 (some 386)) 383 4 (some 387)) 383 5 (some 388)) 383 6 (some 389)) 383 8 (some 390))
set_option maxHeartbeats 4000000 in
set_option maxRecDepth 20000 in
theorem t0_Told_init {l : Launch} {M : gM} {L : gL} {R : gR} {Q : Option Value → gM → gL → gR → Prop} (hF : Fz 384 M L R) (hQ : ∀ (M' : gM) (L' : gL) (R' : gR), M' = kM_Told_init M → L' = kL_Told_init L → R' = kR_Told_init R → Fz 391 M' L' R' → Q none M' L' R') : Tm l y_Told_init (7, 485, 391) 384 [.ref 383] M L R Q := by
  refine Tm.of (by decide) (Nat.le_of_ble_eq_true rfl) ?_
  show Wp l y_Told_init (7, 485, 391) 384 0 0 0 [(0, .ref 383)] [] M L R Q
  refine g_aload_n (pc1 := 1) d_Told_init_0 rfl 0 rfl ?_
  refine g_objInit (pc1 := 4) d_Told_init_1 rfl ml_Told_5 mi_objectInit mc_objectInit (by decide) (Nat.le_of_ble_eq_true rfl) ?_
  refine g_aload_n (pc1 := 5) d_Told_init_4 rfl 0 rfl ?_
  refine g_bipush (pc1 := 7) (v := 20) d_Told_init_5 rfl (by decide) ?_
  refine g_newI (pc1 := 9) d_Told_init_7 rfl ca_int sh_384 (fun i => (hF _ (Nat.le_refl _) i).1) (by decide) (by decide) (by decide) (Nat.le_of_ble_eq_true rfl) (Nat.le_of_ble_eq_true rfl) ?_
  refine g_putF (pc1 := 12) (v := .ref 384) (M' := M) (R' := uR R 383 0 (some 384)) d_Told_init_9 rfl rfl ff_Told_11 (fun _ => po_9_0 _) sh_383 (by decide) (fun _ => fvl_R_self) (fun _ q h => fvl_R_ne q h) (fun _ _ _ h => ent_neR h) ?_
  refine Wp.topR (fun R41 eR41 => ?_)
  refine g_aload_n (pc1 := 13) d_Told_init_12 rfl 0 rfl ?_
  refine g_bipush (pc1 := 15) (v := 20) d_Told_init_13 rfl (by decide) ?_
  refine g_newI (pc1 := 17) d_Told_init_15 rfl ca_int sh_385 (fun i => ((Fz.wR (Fz.up hF) (by decide) eR41) _ (Nat.le_refl _) i).1) (by decide) (by decide) (by decide) (Nat.le_of_ble_eq_true rfl) (Nat.le_of_ble_eq_true rfl) ?_
  refine g_putF (pc1 := 20) (v := .ref 385) (M' := M) (R' := uR R41 383 1 (some 385)) d_Told_init_17 rfl rfl ff_Told_15 (fun _ => po_9_1 _) sh_383 (by decide) (fun _ => fvl_R_self) (fun _ q h => fvl_R_ne q h) (fun _ _ _ h => ent_neR h) ?_
  refine Wp.topR (fun R42 eR42 => ?_)
  refine g_aload_n (pc1 := 21) d_Told_init_20 rfl 0 rfl ?_
  refine g_bipush (pc1 := 23) (v := 20) d_Told_init_21 rfl (by decide) ?_
  refine g_newI (pc1 := 25) d_Told_init_23 rfl ca_int sh_386 (fun i => ((Fz.wR (Fz.up (Fz.wR (Fz.up hF) (by decide) eR41)) (by decide) eR42) _ (Nat.le_refl _) i).1) (by decide) (by decide) (by decide) (Nat.le_of_ble_eq_true rfl) (Nat.le_of_ble_eq_true rfl) ?_
  refine g_putF (pc1 := 28) (v := .ref 386) (M' := M) (R' := uR R42 383 2 (some 386)) d_Told_init_25 rfl rfl ff_Told_18 (fun _ => po_9_2 _) sh_383 (by decide) (fun _ => fvl_R_self) (fun _ q h => fvl_R_ne q h) (fun _ _ _ h => ent_neR h) ?_
  refine Wp.topR (fun R43 eR43 => ?_)
  refine g_aload_n (pc1 := 29) d_Told_init_28 rfl 0 rfl ?_
  refine g_bipush (pc1 := 31) (v := 65) d_Told_init_29 rfl (by decide) ?_
  refine g_newI (pc1 := 33) d_Told_init_31 rfl ca_int sh_387 (fun i => ((Fz.wR (Fz.up (Fz.wR (Fz.up (Fz.wR (Fz.up hF) (by decide) eR41)) (by decide) eR42)) (by decide) eR43) _ (Nat.le_refl _) i).1) (by decide) (by decide) (by decide) (Nat.le_of_ble_eq_true rfl) (Nat.le_of_ble_eq_true rfl) ?_
  refine g_putF (pc1 := 36) (v := .ref 387) (M' := M) (R' := uR R43 383 4 (some 387)) d_Told_init_33 rfl rfl ff_Told_21 (fun _ => po_9_4 _) sh_383 (by decide) (fun _ => fvl_R_self) (fun _ q h => fvl_R_ne q h) (fun _ _ _ h => ent_neR h) ?_
  refine Wp.topR (fun R44 eR44 => ?_)
  refine g_aload_n (pc1 := 37) d_Told_init_36 rfl 0 rfl ?_
  refine g_bipush (pc1 := 39) (v := 65) d_Told_init_37 rfl (by decide) ?_
  refine g_newI (pc1 := 41) d_Told_init_39 rfl ca_int sh_388 (fun i => ((Fz.wR (Fz.up (Fz.wR (Fz.up (Fz.wR (Fz.up (Fz.wR (Fz.up hF) (by decide) eR41)) (by decide) eR42)) (by decide) eR43)) (by decide) eR44) _ (Nat.le_refl _) i).1) (by decide) (by decide) (by decide) (Nat.le_of_ble_eq_true rfl) (Nat.le_of_ble_eq_true rfl) ?_
  refine g_putF (pc1 := 44) (v := .ref 388) (M' := M) (R' := uR R44 383 5 (some 388)) d_Told_init_41 rfl rfl ff_Told_24 (fun _ => po_9_5 _) sh_383 (by decide) (fun _ => fvl_R_self) (fun _ q h => fvl_R_ne q h) (fun _ _ _ h => ent_neR h) ?_
  refine Wp.topR (fun R45 eR45 => ?_)
  refine g_aload_n (pc1 := 45) d_Told_init_44 rfl 0 rfl ?_
  refine g_sipush (pc1 := 48) (v := 195) d_Told_init_45 rfl (by decide) ?_
  refine g_newI (pc1 := 50) d_Told_init_48 rfl ca_int sh_389 (fun i => ((Fz.wR (Fz.up (Fz.wR (Fz.up (Fz.wR (Fz.up (Fz.wR (Fz.up (Fz.wR (Fz.up hF) (by decide) eR41)) (by decide) eR42)) (by decide) eR43)) (by decide) eR44)) (by decide) eR45) _ (Nat.le_refl _) i).1) (by decide) (by decide) (by decide) (Nat.le_of_ble_eq_true rfl) (Nat.le_of_ble_eq_true rfl) ?_
  refine g_putF (pc1 := 53) (v := .ref 389) (M' := M) (R' := uR R45 383 6 (some 389)) d_Told_init_50 rfl rfl ff_Told_27 (fun _ => po_9_6 _) sh_383 (by decide) (fun _ => fvl_R_self) (fun _ q h => fvl_R_ne q h) (fun _ _ _ h => ent_neR h) ?_
  refine Wp.topR (fun R46 eR46 => ?_)
  refine g_aload_n (pc1 := 54) d_Told_init_53 rfl 0 rfl ?_
  refine g_bipush (pc1 := 56) (v := 100) d_Told_init_54 rfl (by decide) ?_
  refine g_newI (pc1 := 58) d_Told_init_56 rfl ca_int sh_390 (fun i => ((Fz.wR (Fz.up (Fz.wR (Fz.up (Fz.wR (Fz.up (Fz.wR (Fz.up (Fz.wR (Fz.up (Fz.wR (Fz.up hF) (by decide) eR41)) (by decide) eR42)) (by decide) eR43)) (by decide) eR44)) (by decide) eR45)) (by decide) eR46) _ (Nat.le_refl _) i).1) (by decide) (by decide) (by decide) (Nat.le_of_ble_eq_true rfl) (Nat.le_of_ble_eq_true rfl) ?_
  refine g_putF (pc1 := 61) (v := .ref 390) (M' := M) (R' := uR R46 383 8 (some 390)) d_Told_init_58 rfl rfl ff_Told_30 (fun _ => po_9_8 _) sh_383 (by decide) (fun _ => fvl_R_self) (fun _ q h => fvl_R_ne q h) (fun _ _ _ h => ent_neR h) ?_
  refine Wp.topR (fun R47 eR47 => ?_)
  refine g_return rfl d_Told_init_61 rfl ?_
  exact hQ _ _ _ (by subst_vars; rfl) (by subst_vars; rfl) (by subst_vars; rfl) (Fz.wR (Fz.up (Fz.wR (Fz.up (Fz.wR (Fz.up (Fz.wR (Fz.up (Fz.wR (Fz.up (Fz.wR (Fz.up (Fz.wR (Fz.up hF) (by decide) eR41)) (by decide) eR42)) (by decide) eR43)) (by decide) eR44)) (by decide) eR45)) (by decide) eR46)) (by decide) eR47)
def kM_PotSearch_init (M : gM) : gM := M
def kL_PotSearch_init (L : gL) : gL := L
def kR_PotSearch_init (R : gR) : gR := (uR (uR (uR (uR R 391 0 (some 392)) 391 1 (some 393)) 391 2 (some 394)) 391 5 (some 395))
set_option maxHeartbeats 4000000 in
set_option maxRecDepth 20000 in
theorem t0_PotSearch_init {l : Launch} {M : gM} {L : gL} {R : gR} {Q : Option Value → gM → gL → gR → Prop} (hF : Fz 392 M L R) (hQ : ∀ (M' : gM) (L' : gL) (R' : gR), M' = kM_PotSearch_init M → L' = kL_PotSearch_init L → R' = kR_PotSearch_init R → Fz 396 M' L' R' → Q none M' L' R') : Tm l y_PotSearch_init (4, 18, 396) 392 [.ref 391] M L R Q := by
  refine Tm.of (by decide) (Nat.le_of_ble_eq_true rfl) ?_
  show Wp l y_PotSearch_init (4, 18, 396) 392 0 0 0 [(0, .ref 391)] [] M L R Q
  refine g_aload_n (pc1 := 1) d_PotSearch_init_0 rfl 0 rfl ?_
  refine g_objInit (pc1 := 4) d_PotSearch_init_1 rfl ml_PotSearch_3 mi_objectInit mc_objectInit (by decide) (Nat.le_of_ble_eq_true rfl) ?_
  refine g_aload_n (pc1 := 5) d_PotSearch_init_4 rfl 0 rfl ?_
  refine g_iconst (pc1 := 6) (v := 3) d_PotSearch_init_5 rfl (by decide) ?_
  refine g_newI (pc1 := 8) d_PotSearch_init_6 rfl ca_int sh_392 (fun i => (hF _ (Nat.le_refl _) i).1) (by decide) (by decide) (by decide) (Nat.le_of_ble_eq_true rfl) (Nat.le_of_ble_eq_true rfl) ?_
  refine g_putF (pc1 := 11) (v := .ref 392) (M' := M) (R' := uR R 391 0 (some 392)) d_PotSearch_init_8 rfl rfl ff_PotSearch_9 (fun _ => po_10_0 _) sh_391 (by decide) (fun _ => fvl_R_self) (fun _ q h => fvl_R_ne q h) (fun _ _ _ h => ent_neR h) ?_
  refine Wp.topR (fun R48 eR48 => ?_)
  refine g_aload_n (pc1 := 12) d_PotSearch_init_11 rfl 0 rfl ?_
  refine g_bipush (pc1 := 14) (v := 6) d_PotSearch_init_12 rfl (by decide) ?_
  refine g_newI (pc1 := 16) d_PotSearch_init_14 rfl ca_int sh_393 (fun i => ((Fz.wR (Fz.up hF) (by decide) eR48) _ (Nat.le_refl _) i).1) (by decide) (by decide) (by decide) (Nat.le_of_ble_eq_true rfl) (Nat.le_of_ble_eq_true rfl) ?_
  refine g_putF (pc1 := 19) (v := .ref 393) (M' := M) (R' := uR R48 391 1 (some 393)) d_PotSearch_init_16 rfl rfl ff_PotSearch_15 (fun _ => po_10_1 _) sh_391 (by decide) (fun _ => fvl_R_self) (fun _ q h => fvl_R_ne q h) (fun _ _ _ h => ent_neR h) ?_
  refine Wp.topR (fun R49 eR49 => ?_)
  refine g_aload_n (pc1 := 20) d_PotSearch_init_19 rfl 0 rfl ?_
  refine g_iconst (pc1 := 21) (v := 3) d_PotSearch_init_20 rfl (by decide) ?_
  refine g_newI (pc1 := 23) d_PotSearch_init_21 rfl ca_int sh_394 (fun i => ((Fz.wR (Fz.up (Fz.wR (Fz.up hF) (by decide) eR48)) (by decide) eR49) _ (Nat.le_refl _) i).1) (by decide) (by decide) (by decide) (Nat.le_of_ble_eq_true rfl) (Nat.le_of_ble_eq_true rfl) ?_
  refine g_putF (pc1 := 26) (v := .ref 394) (M' := M) (R' := uR R49 391 2 (some 394)) d_PotSearch_init_23 rfl rfl ff_PotSearch_18 (fun _ => po_10_2 _) sh_391 (by decide) (fun _ => fvl_R_self) (fun _ q h => fvl_R_ne q h) (fun _ _ _ h => ent_neR h) ?_
  refine Wp.topR (fun R50 eR50 => ?_)
  refine g_aload_n (pc1 := 27) d_PotSearch_init_26 rfl 0 rfl ?_
  refine g_bipush (pc1 := 29) (v := 6) d_PotSearch_init_27 rfl (by decide) ?_
  refine g_newI (pc1 := 31) d_PotSearch_init_29 rfl ca_int sh_395 (fun i => ((Fz.wR (Fz.up (Fz.wR (Fz.up (Fz.wR (Fz.up hF) (by decide) eR48)) (by decide) eR49)) (by decide) eR50) _ (Nat.le_refl _) i).1) (by decide) (by decide) (by decide) (Nat.le_of_ble_eq_true rfl) (Nat.le_of_ble_eq_true rfl) ?_
  refine g_putF (pc1 := 34) (v := .ref 395) (M' := M) (R' := uR R50 391 5 (some 395)) d_PotSearch_init_31 rfl rfl ff_PotSearch_21 (fun _ => po_10_5 _) sh_391 (by decide) (fun _ => fvl_R_self) (fun _ q h => fvl_R_ne q h) (fun _ _ _ h => ent_neR h) ?_
  refine Wp.topR (fun R51 eR51 => ?_)
  refine g_return rfl d_PotSearch_init_34 rfl ?_
  exact hQ _ _ _ (by subst_vars; rfl) (by subst_vars; rfl) (by subst_vars; rfl) (Fz.wR (Fz.up (Fz.wR (Fz.up (Fz.wR (Fz.up (Fz.wR (Fz.up hF) (by decide) eR48)) (by decide) eR49)) (by decide) eR50)) (by decide) eR51)
def kM_MenuSearch_init (M : gM) : gM := M
def kL_MenuSearch_init (L : gL) : gL := L
def kR_MenuSearch_init (R : gR) : gR := (uR (uR (uR (uR R 396 0 (some 397)) 396 1 (some 398)) 396 2 (some 399)) 396 3 (some 400))
set_option maxHeartbeats 4000000 in
set_option maxRecDepth 20000 in
theorem t0_MenuSearch_init {l : Launch} {M : gM} {L : gL} {R : gR} {Q : Option Value → gM → gL → gR → Prop} (hF : Fz 397 M L R) (hQ : ∀ (M' : gM) (L' : gL) (R' : gR), M' = kM_MenuSearch_init M → L' = kL_MenuSearch_init L → R' = kR_MenuSearch_init R → Fz 401 M' L' R' → Q none M' L' R') : Tm l y_MenuSearch_init (4, 92, 401) 397 [.ref 396] M L R Q := by
  refine Tm.of (by decide) (Nat.le_of_ble_eq_true rfl) ?_
  show Wp l y_MenuSearch_init (4, 92, 401) 397 0 0 0 [(0, .ref 396)] [] M L R Q
  refine g_aload_n (pc1 := 1) d_MenuSearch_init_0 rfl 0 rfl ?_
  refine g_objInit (pc1 := 4) d_MenuSearch_init_1 rfl ml_MenuSearch_3 mi_objectInit mc_objectInit (by decide) (Nat.le_of_ble_eq_true rfl) ?_
  refine g_aload_n (pc1 := 5) d_MenuSearch_init_4 rfl 0 rfl ?_
  refine g_iconst (pc1 := 6) (v := 4) d_MenuSearch_init_5 rfl (by decide) ?_
  refine g_newZ (pc1 := 8) d_MenuSearch_init_6 rfl ca_boolean sh_397 (fun i => (hF _ (Nat.le_refl _) i).1) (by decide) (by decide) (by decide) (Nat.le_of_ble_eq_true rfl) (Nat.le_of_ble_eq_true rfl) ?_
  refine g_putF (pc1 := 11) (v := .ref 397) (M' := M) (R' := uR R 396 0 (some 397)) d_MenuSearch_init_8 rfl rfl ff_MenuSearch_9 (fun _ => po_11_0 _) sh_396 (by decide) (fun _ => fvl_R_self) (fun _ q h => fvl_R_ne q h) (fun _ _ _ h => ent_neR h) ?_
  refine Wp.topR (fun R52 eR52 => ?_)
  refine g_aload_n (pc1 := 12) d_MenuSearch_init_11 rfl 0 rfl ?_
  refine g_bipush (pc1 := 14) (v := 80) d_MenuSearch_init_12 rfl (by decide) ?_
  refine g_newZ (pc1 := 16) d_MenuSearch_init_14 rfl ca_boolean sh_398 (fun i => ((Fz.wR (Fz.up hF) (by decide) eR52) _ (Nat.le_refl _) i).1) (by decide) (by decide) (by decide) (Nat.le_of_ble_eq_true rfl) (Nat.le_of_ble_eq_true rfl) ?_
  refine g_putF (pc1 := 19) (v := .ref 398) (M' := M) (R' := uR R52 396 1 (some 398)) d_MenuSearch_init_16 rfl rfl ff_MenuSearch_15 (fun _ => po_11_1 _) sh_396 (by decide) (fun _ => fvl_R_self) (fun _ q h => fvl_R_ne q h) (fun _ _ _ h => ent_neR h) ?_
  refine Wp.topR (fun R53 eR53 => ?_)
  refine g_aload_n (pc1 := 20) d_MenuSearch_init_19 rfl 0 rfl ?_
  refine g_iconst (pc1 := 21) (v := 4) d_MenuSearch_init_20 rfl (by decide) ?_
  refine g_newI (pc1 := 23) d_MenuSearch_init_21 rfl ca_int sh_399 (fun i => ((Fz.wR (Fz.up (Fz.wR (Fz.up hF) (by decide) eR52)) (by decide) eR53) _ (Nat.le_refl _) i).1) (by decide) (by decide) (by decide) (Nat.le_of_ble_eq_true rfl) (Nat.le_of_ble_eq_true rfl) ?_
  refine g_putF (pc1 := 26) (v := .ref 399) (M' := M) (R' := uR R53 396 2 (some 399)) d_MenuSearch_init_23 rfl rfl ff_MenuSearch_18 (fun _ => po_11_2 _) sh_396 (by decide) (fun _ => fvl_R_self) (fun _ q h => fvl_R_ne q h) (fun _ _ _ h => ent_neR h) ?_
  refine Wp.topR (fun R54 eR54 => ?_)
  refine g_aload_n (pc1 := 27) d_MenuSearch_init_26 rfl 0 rfl ?_
  refine g_iconst (pc1 := 28) (v := 4) d_MenuSearch_init_27 rfl (by decide) ?_
  refine g_newI (pc1 := 30) d_MenuSearch_init_28 rfl ca_int sh_400 (fun i => ((Fz.wR (Fz.up (Fz.wR (Fz.up (Fz.wR (Fz.up hF) (by decide) eR52)) (by decide) eR53)) (by decide) eR54) _ (Nat.le_refl _) i).1) (by decide) (by decide) (by decide) (Nat.le_of_ble_eq_true rfl) (Nat.le_of_ble_eq_true rfl) ?_
  refine g_putF (pc1 := 33) (v := .ref 400) (M' := M) (R' := uR R54 396 3 (some 400)) d_MenuSearch_init_30 rfl rfl ff_MenuSearch_22 (fun _ => po_11_3 _) sh_396 (by decide) (fun _ => fvl_R_self) (fun _ q h => fvl_R_ne q h) (fun _ _ _ h => ent_neR h) ?_
  refine Wp.topR (fun R55 eR55 => ?_)
  refine g_return rfl d_MenuSearch_init_33 rfl ?_
  exact hQ _ _ _ (by subst_vars; rfl) (by subst_vars; rfl) (by subst_vars; rfl) (Fz.wR (Fz.up (Fz.wR (Fz.up (Fz.wR (Fz.up (Fz.wR (Fz.up hF) (by decide) eR52)) (by decide) eR53)) (by decide) eR54)) (by decide) eR55)
