def appI (p : Int64) (c : Int32) : Int64 := if c = 0 then p else 27 * p + (c - nI 97 + nI 1).toInt64
theorem x_Mod_app {l : Launch} {ld : Nat} {M : gM} {L : gL} {Q : Option Value → gM → gL → gR → Prop} {p0 : Int64} {p1 : Int32} (hQ : Q (some (.long (appI p0 p1))) M L (rf ld)) : Tm l y_Mod_appends (0, 0, 447) 447 [.long p0, .int p1] M L (rf ld) Q := by
  refine x_Mod_appends (fun h => ?_) (fun h => ?_)
  · unfold appI at hQ; rw [if_pos h] at hQ; exact hQ
  · unfold appI at hQ; rw [if_neg h] at hQ; exact hQ
set_option maxHeartbeats 4000000 in
set_option maxRecDepth 20000 in
theorem x_Mod_word {l : Launch} {ld : Nat} {M : gM} {L : gL} {Q : Option Value → gM → gL → gR → Prop} {p0 : Int32} {p1 : Int32} {p2 : Int32} {p3 : Int32} {p4 : Int32} {p5 : Int32} {p6 : Int32} (hQ : Q (some (.long (appI (appI (appI (appI (appI (appI (appI 0 p0) p1) p2) p3) p4) p5) p6))) M L (rf ld)) : Tm l y_Mod_word (0, 0, 447) 447 [.int p0, .int p1, .int p2, .int p3, .int p4, .int p5, .int p6] M L (rf ld) Q := by
  refine Tm.of (by decide) (Nat.le_of_ble_eq_true rfl) ?_
  show Wp l y_Mod_word (0, 0, 447) 447 0 0 0 [(0, .int p0), (1, .int p1), (2, .int p2), (3, .int p3), (4, .int p4), (5, .int p5), (6, .int p6)] [] M L (rf ld) Q
  refine g_lconst (pc1 := 1) (v := 0) d_Mod_word_0 rfl (by decide) ?_
  refine g_iload_n (pc1 := 2) d_Mod_word_1 rfl 0 rfl ?_
  refine g_callS0 (pc1 := 5) (As := [.long 0, .int p0]) (rest := []) d_Mod_word_2 rfl mo_Mod_180 ms_Mod_appends (by decide) rfl rfl (Nat.le_of_ble_eq_true rfl) ?_
  refine x_Mod_app ?_
  dsimp only [psh]
  refine g_iload_n (pc1 := 6) d_Mod_word_5 rfl 1 rfl ?_
  refine g_callS0 (pc1 := 9) (As := [.long ((appI 0 p0)), .int p1]) (rest := []) d_Mod_word_6 rfl mo_Mod_180 ms_Mod_appends (by decide) rfl rfl (Nat.le_of_ble_eq_true rfl) ?_
  refine x_Mod_app ?_
  dsimp only [psh]
  refine g_iload_n (pc1 := 10) d_Mod_word_9 rfl 2 rfl ?_
  refine g_callS0 (pc1 := 13) (As := [.long ((appI (appI 0 p0) p1)), .int p2]) (rest := []) d_Mod_word_10 rfl mo_Mod_180 ms_Mod_appends (by decide) rfl rfl (Nat.le_of_ble_eq_true rfl) ?_
  refine x_Mod_app ?_
  dsimp only [psh]
  refine g_iload_n (pc1 := 14) d_Mod_word_13 rfl 3 rfl ?_
  refine g_callS0 (pc1 := 17) (As := [.long ((appI (appI (appI 0 p0) p1) p2)), .int p3]) (rest := []) d_Mod_word_14 rfl mo_Mod_180 ms_Mod_appends (by decide) rfl rfl (Nat.le_of_ble_eq_true rfl) ?_
  refine x_Mod_app ?_
  dsimp only [psh]
  refine g_iload (pc1 := 19) d_Mod_word_17 rfl 4 rfl ?_
  refine g_callS0 (pc1 := 22) (As := [.long ((appI (appI (appI (appI 0 p0) p1) p2) p3)), .int p4]) (rest := []) d_Mod_word_19 rfl mo_Mod_180 ms_Mod_appends (by decide) rfl rfl (Nat.le_of_ble_eq_true rfl) ?_
  refine x_Mod_app ?_
  dsimp only [psh]
  refine g_iload (pc1 := 24) d_Mod_word_22 rfl 5 rfl ?_
  refine g_callS0 (pc1 := 27) (As := [.long ((appI (appI (appI (appI (appI 0 p0) p1) p2) p3) p4)), .int p5]) (rest := []) d_Mod_word_24 rfl mo_Mod_180 ms_Mod_appends (by decide) rfl rfl (Nat.le_of_ble_eq_true rfl) ?_
  refine x_Mod_app ?_
  dsimp only [psh]
  refine g_iload (pc1 := 29) d_Mod_word_27 rfl 6 rfl ?_
  refine g_callS0 (pc1 := 32) (As := [.long ((appI (appI (appI (appI (appI (appI 0 p0) p1) p2) p3) p4) p5)), .int p6]) (rest := []) d_Mod_word_29 rfl mo_Mod_180 ms_Mod_appends (by decide) rfl rfl (Nat.le_of_ble_eq_true rfl) ?_
  refine x_Mod_app ?_
  dsimp only [psh]
  refine g_lreturn rfl d_Mod_word_32 rfl ?_
  exact hQ
def kR_Mod_init (R : gR) : gR := (uR (uR (uR (uR (uR (uR (uR (uR (uR (uR (uR (uR (uR (uR (uR (uR (uR (uR (uR (uR (uR (uR (uR (uR (uR (uR (uR (uR (uR (uR (uR (uR (uR (uR (uR (uR (uR (uR (uR (uR (uR (uR (uR (uR (uR R 401 1 (some 402)) 401 3 (some 403)) 401 5 (some 404)) 401 6 (some 405)) 401 7 (some 406)) 401 8 (some 407)) 401 9 (some 408)) 401 21 (some 409)) 401 22 (some 410)) 401 23 (some 411)) 401 24 (some 412)) 401 25 (some 413)) 401 26 (some 414)) 401 27 (some 415)) 401 28 (some 416)) 401 29 (some 417)) 401 30 (some 418)) 401 31 (some 419)) 401 32 (some 420)) 401 33 (some 421)) 401 34 (some 422)) 401 35 (some 423)) 401 36 (some 424)) 401 37 (some 425)) 401 39 (some 426)) 401 40 (some 427)) 401 41 (some 428)) 401 42 (some 429)) 401 43 (some 430)) 401 45 (some 431)) 401 46 (some 432)) 401 47 (some 433)) 401 49 (some 434)) 401 50 (some 435)) 401 52 (some 436)) 401 53 (some 437)) 401 55 (some 438)) 401 56 (some 439)) 401 58 (some 440)) 401 65 (some 441)) 401 66 (some 442)) 401 67 (some 443)) 401 68 (some 444)) 401 69 (some 445)) 401 70 (some 446))
def sameR (n : Nat) (R R' : gR) : Prop := ∀ a, a < n → (∀ ci, SH a = (0, ci) → ∀ q ∈ fks ci, q.1 ≠ 0 → q.1 ≠ 2 → R a q.2 = R' a q.2) ∧ ((SH a).1 = 5 → ∀ j, R a j = R' a j)
def shR : List (Nat × Nat) := shl.filter (fun q => !(decide (q.1 ≤ 5)))
theorem shl_5 : ∀ q ∈ shl, q.1 ≤ 5 := by decide +kernel
theorem sameR.wd {n : Nat} {R R' : gR} (h : sameR n R R') (hn : n ≤ 447) (cA : Nat → ClassId) (b : Nat) (M : gM) (L : gL) : Wd cA b n M L R = Wd cA b n M L R' := by
  unfold Wd
  apply List.map_congr_left
  intro a ha
  have ha : a < n := List.mem_range.mp ha
  have h1 := h a ha
  have hs : (SH a).1 ≤ 5 := by
    unfold SH
    have hl : a < shl.length := Nat.lt_of_lt_of_le (Nat.lt_of_lt_of_le ha hn) (by decide +kernel)
    rw [List.getD_eq_getElem?_getD, List.getElem?_eq_getElem hl]
    exact shl_5 _ (List.getElem_mem hl)
  congr 1
  rcases e : SH a with ⟨k, m⟩
  rw [e] at h1 hs
  match k, h1, hs, e with
  | 0, h1, _, e =>
    rw [ent_obj e, ent_obj e]
    congr 2
    apply List.map_congr_left
    intro q hq
    unfold fvl
    have g := h1.1 m rfl q hq
    split
    · rfl
    · rfl
    · rw [g (by assumption) (by assumption)]
  | 1, _, _, e => rw [ent_1 e, ent_1 e]
  | 2, _, _, e => rw [ent_2 e, ent_2 e]
  | 3, _, _, e => rw [ent_3 e, ent_3 e]
  | 4, _, _, e => rw [ent_4 e, ent_4 e]
  | 5, h1, _, e => rw [ent_5 e, ent_5 e]; simp only [h1.2 rfl]
  | k + 6, _, hs, _ => exact absurd hs (by simp)
theorem Wp.eqR {l : Launch} {Y : gY} {E : Nat × Nat × Nat} {n k z pc : Nat} {lv : List (Nat × Value)} {st : List Value} {M : gM} {L : gL} {R R' : gR} {Q : Option Value → gM → gL → gR → Prop} (h : sameR n R R') (hn : n ≤ 447) (kk : Wp l Y E n k z pc lv st M L R' Q) : Wp l Y E n k z pc lv st M L R Q := by
  intro b D cA p e s m args below meth c H locs ls C hz hP hS hl
  rw [h.wd hn] at hP
  exact kk b D cA p e s m args below meth c H locs ls C hz hP hS hl
def kM_Mod_pl (M : gM) : gM := (uM (uM (uM (uM (uM (uM (uM (uM (uM (uM (uM (uM (uM (uM M 401 17 (-1)) 411 0 (nI 0)) 415 0 (nI 0)) 418 0 (nI 0)) 420 0 (nI 0)) 423 0 (nI 0)) 424 0 (nI 0)) 425 0 (nI 0)) 424 1 (nI 0)) 425 1 (nI 0)) 424 2 (nI 0)) 425 2 (nI 0)) 424 3 (nI 0)) 425 3 (nI 0))
def kM_Mod_bg (M : gM) : gM := uM (fl (uM (fl (fl M 437 0 38 (fun _ => nI 0)) 437 0 0 (fun f => M 412 (6 * 0 + f))) 437 11 (-2)) 437 15 4 (fun _ => (-2))) 401 54 (M 423 0)
def kM_Mod_init (M : gM) : gM := fl (kM_Mod_bg (kM_Mod_pl M)) 436 0 38 (kM_Mod_bg (kM_Mod_pl M) 437)
def kL_Mod_init (L : gL) : gL := (uL (uL (uL (uL (uL (uL (uL (uL (uL (uL (uL (uL (uL (uL (uL (uL (uL (uL (uL (uL (uL L 408 0 129442) 408 1 85814) 408 2 4137608) 408 3 82516) 408 4 3497099) 408 5 1250362) 408 6 3374884) 408 7 10340587) 408 8 377761) 408 9 249) 408 10 399641) 408 11 107681) 408 12 14431) 408 13 161156) 408 14 223456) 408 15 257011) 408 16 2968) 408 17 230351423) 408 18 933) 408 19 10502066) 408 20 8863997)
set_option maxHeartbeats 4000000 in
set_option maxRecDepth 20000 in
theorem x_Mod_init {l : Launch} {M : gM} {L : gL} {R : gR} {Q : Option Value → gM → gL → gR → Prop} (hF : Fz 401 M L R) (hR : sameR 447 (kR_Mod_init R) (rf 12)) (hQ : Q none (kM_Mod_init M) (kL_Mod_init L) (rf 12)) : Tm l y_Mod_init (45, 14101, 447) 402 [.ref 401] M L R Q := by
  refine Tm.of (by decide) (Nat.le_of_ble_eq_true rfl) ?_
  show Wp l y_Mod_init (45, 14101, 447) 402 0 0 0 [(0, .ref 401)] [] M L R Q
  have hF0 := hF
  replace hF := Fz.up hF
  refine g_aload_n (pc1 := 1) d_Mod_init_0 rfl 0 rfl ?_
  refine g_objInit (pc1 := 4) d_Mod_init_1 rfl ml_Mod_7 mi_objectInit mc_objectInit (by decide) (Nat.le_of_ble_eq_true rfl) ?_
  refine g_aload_n (pc1 := 5) d_Mod_init_4 rfl 0 rfl ?_
  refine g_sipush (pc1 := 8) (v := 2000) d_Mod_init_5 rfl (by decide) ?_
  refine g_newB (pc1 := 10) d_Mod_init_8 rfl ca_byte sh_402 (fun i => (hF _ (Nat.le_refl _) i).1) (by decide) (by decide) (by decide) (Nat.le_of_ble_eq_true rfl) (Nat.le_of_ble_eq_true rfl) ?_
  refine g_putF (pc1 := 13) (v := .ref 402) (M' := M) (R' := uR R 401 1 (some 402)) d_Mod_init_10 rfl rfl ff_Mod_13 (fun _ => po_12_1 _) sh_401 (by decide) (fun _ => fvl_R_self) (fun _ q h => fvl_R_ne q h) (fun _ _ _ h => ent_neR h) ?_
  refine Wp.topR (fun R113 eR113 => ?_)
  refine g_aload_n (pc1 := 14) d_Mod_init_13 rfl 0 rfl ?_
  refine g_sipush (pc1 := 17) (v := 2000) d_Mod_init_14 rfl (by decide) ?_
  refine g_newB (pc1 := 19) d_Mod_init_17 rfl ca_byte sh_403 (fun i => ((Fz.wR (Fz.up hF) (by decide) eR113) _ (Nat.le_refl _) i).1) (by decide) (by decide) (by decide) (Nat.le_of_ble_eq_true rfl) (Nat.le_of_ble_eq_true rfl) ?_
  refine g_putF (pc1 := 22) (v := .ref 403) (M' := M) (R' := uR R113 401 3 (some 403)) d_Mod_init_19 rfl rfl ff_Mod_17 (fun _ => po_12_3 _) sh_401 (by decide) (fun _ => fvl_R_self) (fun _ q h => fvl_R_ne q h) (fun _ _ _ h => ent_neR h) ?_
  refine Wp.topR (fun R114 eR114 => ?_)
  refine g_aload_n (pc1 := 23) d_Mod_init_22 rfl 0 rfl ?_
  refine g_sipush (pc1 := 26) (v := 403) d_Mod_init_23 rfl (by decide) ?_
  refine g_newI (pc1 := 28) d_Mod_init_26 rfl ca_int sh_404 (fun i => ((Fz.wR (Fz.up (Fz.wR (Fz.up hF) (by decide) eR113)) (by decide) eR114) _ (Nat.le_refl _) i).1) (by decide) (by decide) (by decide) (Nat.le_of_ble_eq_true rfl) (Nat.le_of_ble_eq_true rfl) ?_
  refine g_putF (pc1 := 31) (v := .ref 404) (M' := M) (R' := uR R114 401 5 (some 404)) d_Mod_init_28 rfl rfl ff_Mod_20 (fun _ => po_12_5 _) sh_401 (by decide) (fun _ => fvl_R_self) (fun _ q h => fvl_R_ne q h) (fun _ _ _ h => ent_neR h) ?_
  refine Wp.topR (fun R115 eR115 => ?_)
  refine g_aload_n (pc1 := 32) d_Mod_init_31 rfl 0 rfl ?_
  refine g_sipush (pc1 := 35) (v := 403) d_Mod_init_32 rfl (by decide) ?_
  refine g_newI (pc1 := 37) d_Mod_init_35 rfl ca_int sh_405 (fun i => ((Fz.wR (Fz.up (Fz.wR (Fz.up (Fz.wR (Fz.up hF) (by decide) eR113)) (by decide) eR114)) (by decide) eR115) _ (Nat.le_refl _) i).1) (by decide) (by decide) (by decide) (Nat.le_of_ble_eq_true rfl) (Nat.le_of_ble_eq_true rfl) ?_
  refine g_putF (pc1 := 40) (v := .ref 405) (M' := M) (R' := uR R115 401 6 (some 405)) d_Mod_init_37 rfl rfl ff_Mod_24 (fun _ => po_12_6 _) sh_401 (by decide) (fun _ => fvl_R_self) (fun _ q h => fvl_R_ne q h) (fun _ _ _ h => ent_neR h) ?_
  refine Wp.topR (fun R116 eR116 => ?_)
  refine g_aload_n (pc1 := 41) d_Mod_init_40 rfl 0 rfl ?_
  refine g_sipush (pc1 := 44) (v := 403) d_Mod_init_41 rfl (by decide) ?_
  refine g_newI (pc1 := 46) d_Mod_init_44 rfl ca_int sh_406 (fun i => ((Fz.wR (Fz.up (Fz.wR (Fz.up (Fz.wR (Fz.up (Fz.wR (Fz.up hF) (by decide) eR113)) (by decide) eR114)) (by decide) eR115)) (by decide) eR116) _ (Nat.le_refl _) i).1) (by decide) (by decide) (by decide) (Nat.le_of_ble_eq_true rfl) (Nat.le_of_ble_eq_true rfl) ?_
  refine g_putF (pc1 := 49) (v := .ref 406) (M' := M) (R' := uR R116 401 7 (some 406)) d_Mod_init_46 rfl rfl ff_Mod_27 (fun _ => po_12_7 _) sh_401 (by decide) (fun _ => fvl_R_self) (fun _ q h => fvl_R_ne q h) (fun _ _ _ h => ent_neR h) ?_
  refine Wp.topR (fun R117 eR117 => ?_)
  refine g_aload_n (pc1 := 50) d_Mod_init_49 rfl 0 rfl ?_
  refine g_sipush (pc1 := 53) (v := 403) d_Mod_init_50 rfl (by decide) ?_
  refine g_newJ (pc1 := 55) d_Mod_init_53 rfl ca_long sh_407 (fun i => ((Fz.wR (Fz.up (Fz.wR (Fz.up (Fz.wR (Fz.up (Fz.wR (Fz.up (Fz.wR (Fz.up hF) (by decide) eR113)) (by decide) eR114)) (by decide) eR115)) (by decide) eR116)) (by decide) eR117) _ (Nat.le_refl _) i).2.1) (by decide) (by decide) (by decide) (Nat.le_of_ble_eq_true rfl) (Nat.le_of_ble_eq_true rfl) ?_
  refine g_putF (pc1 := 58) (v := .ref 407) (M' := M) (R' := uR R117 401 8 (some 407)) d_Mod_init_55 rfl rfl ff_Mod_30 (fun _ => po_12_8 _) sh_401 (by decide) (fun _ => fvl_R_self) (fun _ q h => fvl_R_ne q h) (fun _ _ _ h => ent_neR h) ?_
  refine Wp.topR (fun R118 eR118 => ?_)
  refine g_aload_n (pc1 := 59) d_Mod_init_58 rfl 0 rfl ?_
  refine g_bipush (pc1 := 61) (v := 21) d_Mod_init_59 rfl (by decide) ?_
  refine g_newJ (pc1 := 63) d_Mod_init_61 rfl ca_long sh_408 (fun i => ((Fz.wR (Fz.up (Fz.wR (Fz.up (Fz.wR (Fz.up (Fz.wR (Fz.up (Fz.wR (Fz.up (Fz.wR (Fz.up hF) (by decide) eR113)) (by decide) eR114)) (by decide) eR115)) (by decide) eR116)) (by decide) eR117)) (by decide) eR118) _ (Nat.le_refl _) i).2.1) (by decide) (by decide) (by decide) (Nat.le_of_ble_eq_true rfl) (Nat.le_of_ble_eq_true rfl) ?_
  refine g_putF (pc1 := 66) (v := .ref 408) (M' := M) (R' := uR R118 401 9 (some 408)) d_Mod_init_63 rfl rfl ff_Mod_34 (fun _ => po_12_9 _) sh_401 (by decide) (fun _ => fvl_R_self) (fun _ q h => fvl_R_ne q h) (fun _ _ _ h => ent_neR h) ?_
  refine Wp.topR (fun R119 eR119 => ?_)
  refine g_aload_n (pc1 := 67) d_Mod_init_66 rfl 0 rfl ?_
  refine g_iconst (pc1 := 68) (v := (-1)) d_Mod_init_67 rfl (by decide) ?_
  refine g_puti (pc1 := 71) d_Mod_init_68 rfl fo_Mod_37 (po_12_17 _) sh_401 (by decide) ?_
  refine Wp.topM (fun M120 eM120 => ?_)
  refine g_aload_n (pc1 := 72) d_Mod_init_71 rfl 0 rfl ?_
  refine g_bipush (pc1 := 74) (v := 21) d_Mod_init_72 rfl (by decide) ?_
  refine g_newJ (pc1 := 76) d_Mod_init_74 rfl ca_long sh_409 (fun i => ((Fz.wM (Fz.wR (Fz.up (Fz.wR (Fz.up (Fz.wR (Fz.up (Fz.wR (Fz.up (Fz.wR (Fz.up (Fz.wR (Fz.up (Fz.wR (Fz.up hF) (by decide) eR113)) (by decide) eR114)) (by decide) eR115)) (by decide) eR116)) (by decide) eR117)) (by decide) eR118)) (by decide) eR119) (by decide) eM120) _ (Nat.le_refl _) i).2.1) (by decide) (by decide) (by decide) (Nat.le_of_ble_eq_true rfl) (Nat.le_of_ble_eq_true rfl) ?_
  refine g_putF (pc1 := 79) (v := .ref 409) (M' := M120) (R' := uR R119 401 21 (some 409)) d_Mod_init_76 rfl rfl ff_Mod_40 (fun _ => po_12_21 _) sh_401 (by decide) (fun _ => fvl_R_self) (fun _ q h => fvl_R_ne q h) (fun _ _ _ h => ent_neR h) ?_
  refine Wp.topR (fun R121 eR121 => ?_)
  refine g_aload_n (pc1 := 80) d_Mod_init_79 rfl 0 rfl ?_
  refine g_bipush (pc1 := 82) (v := 21) d_Mod_init_80 rfl (by decide) ?_
  refine g_newI (pc1 := 84) d_Mod_init_82 rfl ca_int sh_410 (fun i => ((Fz.wR (Fz.up (Fz.wM (Fz.wR (Fz.up (Fz.wR (Fz.up (Fz.wR (Fz.up (Fz.wR (Fz.up (Fz.wR (Fz.up (Fz.wR (Fz.up (Fz.wR (Fz.up hF) (by decide) eR113)) (by decide) eR114)) (by decide) eR115)) (by decide) eR116)) (by decide) eR117)) (by decide) eR118)) (by decide) eR119) (by decide) eM120)) (by decide) eR121) _ (Nat.le_refl _) i).1) (by decide) (by decide) (by decide) (Nat.le_of_ble_eq_true rfl) (Nat.le_of_ble_eq_true rfl) ?_
  refine g_putF (pc1 := 87) (v := .ref 410) (M' := M120) (R' := uR R121 401 22 (some 410)) d_Mod_init_84 rfl rfl ff_Mod_43 (fun _ => po_12_22 _) sh_401 (by decide) (fun _ => fvl_R_self) (fun _ q h => fvl_R_ne q h) (fun _ _ _ h => ent_neR h) ?_
  refine Wp.topR (fun R122 eR122 => ?_)
  refine g_aload_n (pc1 := 88) d_Mod_init_87 rfl 0 rfl ?_
  refine g_iconst (pc1 := 89) (v := 2) d_Mod_init_88 rfl (by decide) ?_
  refine g_newI (pc1 := 91) d_Mod_init_89 rfl ca_int sh_411 (fun i => ((Fz.wR (Fz.up (Fz.wR (Fz.up (Fz.wM (Fz.wR (Fz.up (Fz.wR (Fz.up (Fz.wR (Fz.up (Fz.wR (Fz.up (Fz.wR (Fz.up (Fz.wR (Fz.up (Fz.wR (Fz.up hF) (by decide) eR113)) (by decide) eR114)) (by decide) eR115)) (by decide) eR116)) (by decide) eR117)) (by decide) eR118)) (by decide) eR119) (by decide) eM120)) (by decide) eR121)) (by decide) eR122) _ (Nat.le_refl _) i).1) (by decide) (by decide) (by decide) (Nat.le_of_ble_eq_true rfl) (Nat.le_of_ble_eq_true rfl) ?_
  refine g_putF (pc1 := 94) (v := .ref 411) (M' := M120) (R' := uR R122 401 23 (some 411)) d_Mod_init_91 rfl rfl ff_Mod_46 (fun _ => po_12_23 _) sh_401 (by decide) (fun _ => fvl_R_self) (fun _ q h => fvl_R_ne q h) (fun _ _ _ h => ent_neR h) ?_
  refine Wp.topR (fun R123 eR123 => ?_)
  refine g_aload_n (pc1 := 95) d_Mod_init_94 rfl 0 rfl ?_
  refine g_bipush (pc1 := 97) (v := 12) d_Mod_init_95 rfl (by decide) ?_
  refine g_newI (pc1 := 99) d_Mod_init_97 rfl ca_int sh_412 (fun i => ((Fz.wR (Fz.up (Fz.wR (Fz.up (Fz.wR (Fz.up (Fz.wM (Fz.wR (Fz.up (Fz.wR (Fz.up (Fz.wR (Fz.up (Fz.wR (Fz.up (Fz.wR (Fz.up (Fz.wR (Fz.up (Fz.wR (Fz.up hF) (by decide) eR113)) (by decide) eR114)) (by decide) eR115)) (by decide) eR116)) (by decide) eR117)) (by decide) eR118)) (by decide) eR119) (by decide) eM120)) (by decide) eR121)) (by decide) eR122)) (by decide) eR123) _ (Nat.le_refl _) i).1) (by decide) (by decide) (by decide) (Nat.le_of_ble_eq_true rfl) (Nat.le_of_ble_eq_true rfl) ?_
  refine g_putF (pc1 := 102) (v := .ref 412) (M' := M120) (R' := uR R123 401 24 (some 412)) d_Mod_init_99 rfl rfl ff_Mod_49 (fun _ => po_12_24 _) sh_401 (by decide) (fun _ => fvl_R_self) (fun _ q h => fvl_R_ne q h) (fun _ _ _ h => ent_neR h) ?_
  refine Wp.topR (fun R124 eR124 => ?_)
  refine g_aload_n (pc1 := 103) d_Mod_init_102 rfl 0 rfl ?_
  refine g_bipush (pc1 := 105) (v := 12) d_Mod_init_103 rfl (by decide) ?_
  refine g_newI (pc1 := 107) d_Mod_init_105 rfl ca_int sh_413 (fun i => ((Fz.wR (Fz.up (Fz.wR (Fz.up (Fz.wR (Fz.up (Fz.wR (Fz.up (Fz.wM (Fz.wR (Fz.up (Fz.wR (Fz.up (Fz.wR (Fz.up (Fz.wR (Fz.up (Fz.wR (Fz.up (Fz.wR (Fz.up (Fz.wR (Fz.up hF) (by decide) eR113)) (by decide) eR114)) (by decide) eR115)) (by decide) eR116)) (by decide) eR117)) (by decide) eR118)) (by decide) eR119) (by decide) eM120)) (by decide) eR121)) (by decide) eR122)) (by decide) eR123)) (by decide) eR124) _ (Nat.le_refl _) i).1) (by decide) (by decide) (by decide) (Nat.le_of_ble_eq_true rfl) (Nat.le_of_ble_eq_true rfl) ?_
  refine g_putF (pc1 := 110) (v := .ref 413) (M' := M120) (R' := uR R124 401 25 (some 413)) d_Mod_init_107 rfl rfl ff_Mod_52 (fun _ => po_12_25 _) sh_401 (by decide) (fun _ => fvl_R_self) (fun _ q h => fvl_R_ne q h) (fun _ _ _ h => ent_neR h) ?_
  refine Wp.topR (fun R125 eR125 => ?_)
  refine g_aload_n (pc1 := 111) d_Mod_init_110 rfl 0 rfl ?_
  refine g_bipush (pc1 := 113) (v := 36) d_Mod_init_111 rfl (by decide) ?_
  refine g_newI (pc1 := 115) d_Mod_init_113 rfl ca_int sh_414 (fun i => ((Fz.wR (Fz.up (Fz.wR (Fz.up (Fz.wR (Fz.up (Fz.wR (Fz.up (Fz.wR (Fz.up (Fz.wM (Fz.wR (Fz.up (Fz.wR (Fz.up (Fz.wR (Fz.up (Fz.wR (Fz.up (Fz.wR (Fz.up (Fz.wR (Fz.up (Fz.wR (Fz.up hF) (by decide) eR113)) (by decide) eR114)) (by decide) eR115)) (by decide) eR116)) (by decide) eR117)) (by decide) eR118)) (by decide) eR119) (by decide) eM120)) (by decide) eR121)) (by decide) eR122)) (by decide) eR123)) (by decide) eR124)) (by decide) eR125) _ (Nat.le_refl _) i).1) (by decide) (by decide) (by decide) (Nat.le_of_ble_eq_true rfl) (Nat.le_of_ble_eq_true rfl) ?_
  refine g_putF (pc1 := 118) (v := .ref 414) (M' := M120) (R' := uR R125 401 26 (some 414)) d_Mod_init_115 rfl rfl ff_Mod_55 (fun _ => po_12_26 _) sh_401 (by decide) (fun _ => fvl_R_self) (fun _ q h => fvl_R_ne q h) (fun _ _ _ h => ent_neR h) ?_
  refine Wp.topR (fun R126 eR126 => ?_)
  refine g_aload_n (pc1 := 119) d_Mod_init_118 rfl 0 rfl ?_
  refine g_iconst (pc1 := 120) (v := 2) d_Mod_init_119 rfl (by decide) ?_
  refine g_newI (pc1 := 122) d_Mod_init_120 rfl ca_int sh_415 (fun i => ((Fz.wR (Fz.up (Fz.wR (Fz.up (Fz.wR (Fz.up (Fz.wR (Fz.up (Fz.wR (Fz.up (Fz.wR (Fz.up (Fz.wM (Fz.wR (Fz.up (Fz.wR (Fz.up (Fz.wR (Fz.up (Fz.wR (Fz.up (Fz.wR (Fz.up (Fz.wR (Fz.up (Fz.wR (Fz.up hF) (by decide) eR113)) (by decide) eR114)) (by decide) eR115)) (by decide) eR116)) (by decide) eR117)) (by decide) eR118)) (by decide) eR119) (by decide) eM120)) (by decide) eR121)) (by decide) eR122)) (by decide) eR123)) (by decide) eR124)) (by decide) eR125)) (by decide) eR126) _ (Nat.le_refl _) i).1) (by decide) (by decide) (by decide) (Nat.le_of_ble_eq_true rfl) (Nat.le_of_ble_eq_true rfl) ?_
  refine g_putF (pc1 := 125) (v := .ref 415) (M' := M120) (R' := uR R126 401 27 (some 415)) d_Mod_init_122 rfl rfl ff_Mod_58 (fun _ => po_12_27 _) sh_401 (by decide) (fun _ => fvl_R_self) (fun _ q h => fvl_R_ne q h) (fun _ _ _ h => ent_neR h) ?_
  refine Wp.topR (fun R127 eR127 => ?_)
  refine g_aload_n (pc1 := 126) d_Mod_init_125 rfl 0 rfl ?_
  refine g_bipush (pc1 := 128) (v := 10) d_Mod_init_126 rfl (by decide) ?_
  refine g_newI (pc1 := 130) d_Mod_init_128 rfl ca_int sh_416 (fun i => ((Fz.wR (Fz.up (Fz.wR (Fz.up (Fz.wR (Fz.up (Fz.wR (Fz.up (Fz.wR (Fz.up (Fz.wR (Fz.up (Fz.wR (Fz.up (Fz.wM (Fz.wR (Fz.up (Fz.wR (Fz.up (Fz.wR (Fz.up (Fz.wR (Fz.up (Fz.wR (Fz.up (Fz.wR (Fz.up (Fz.wR (Fz.up hF) (by decide) eR113)) (by decide) eR114)) (by decide) eR115)) (by decide) eR116)) (by decide) eR117)) (by decide) eR118)) (by decide) eR119) (by decide) eM120)) (by decide) eR121)) (by decide) eR122)) (by decide) eR123)) (by decide) eR124)) (by decide) eR125)) (by decide) eR126)) (by decide) eR127) _ (Nat.le_refl _) i).1) (by decide) (by decide) (by decide) (Nat.le_of_ble_eq_true rfl) (Nat.le_of_ble_eq_true rfl) ?_
  refine g_putF (pc1 := 133) (v := .ref 416) (M' := M120) (R' := uR R127 401 28 (some 416)) d_Mod_init_130 rfl rfl ff_Mod_61 (fun _ => po_12_28 _) sh_401 (by decide) (fun _ => fvl_R_self) (fun _ q h => fvl_R_ne q h) (fun _ _ _ h => ent_neR h) ?_
  refine Wp.topR (fun R128 eR128 => ?_)
  refine g_aload_n (pc1 := 134) d_Mod_init_133 rfl 0 rfl ?_
  refine g_bipush (pc1 := 136) (v := 60) d_Mod_init_134 rfl (by decide) ?_
  refine g_newI (pc1 := 138) d_Mod_init_136 rfl ca_int sh_417 (fun i => ((Fz.wR (Fz.up (Fz.wR (Fz.up (Fz.wR (Fz.up (Fz.wR (Fz.up (Fz.wR (Fz.up (Fz.wR (Fz.up (Fz.wR (Fz.up (Fz.wR (Fz.up (Fz.wM (Fz.wR (Fz.up (Fz.wR (Fz.up (Fz.wR (Fz.up (Fz.wR (Fz.up (Fz.wR (Fz.up (Fz.wR (Fz.up (Fz.wR (Fz.up hF) (by decide) eR113)) (by decide) eR114)) (by decide) eR115)) (by decide) eR116)) (by decide) eR117)) (by decide) eR118)) (by decide) eR119) (by decide) eM120)) (by decide) eR121)) (by decide) eR122)) (by decide) eR123)) (by decide) eR124)) (by decide) eR125)) (by decide) eR126)) (by decide) eR127)) (by decide) eR128) _ (Nat.le_refl _) i).1) (by decide) (by decide) (by decide) (Nat.le_of_ble_eq_true rfl) (Nat.le_of_ble_eq_true rfl) ?_
  refine g_putF (pc1 := 141) (v := .ref 417) (M' := M120) (R' := uR R128 401 29 (some 417)) d_Mod_init_138 rfl rfl ff_Mod_64 (fun _ => po_12_29 _) sh_401 (by decide) (fun _ => fvl_R_self) (fun _ q h => fvl_R_ne q h) (fun _ _ _ h => ent_neR h) ?_
  refine Wp.topR (fun R129 eR129 => ?_)
  refine g_aload_n (pc1 := 142) d_Mod_init_141 rfl 0 rfl ?_
  refine g_iconst (pc1 := 143) (v := 2) d_Mod_init_142 rfl (by decide) ?_
  refine g_newI (pc1 := 145) d_Mod_init_143 rfl ca_int sh_418 (fun i => ((Fz.wR (Fz.up (Fz.wR (Fz.up (Fz.wR (Fz.up (Fz.wR (Fz.up (Fz.wR (Fz.up (Fz.wR (Fz.up (Fz.wR (Fz.up (Fz.wR (Fz.up (Fz.wR (Fz.up (Fz.wM (Fz.wR (Fz.up (Fz.wR (Fz.up (Fz.wR (Fz.up (Fz.wR (Fz.up (Fz.wR (Fz.up (Fz.wR (Fz.up (Fz.wR (Fz.up hF) (by decide) eR113)) (by decide) eR114)) (by decide) eR115)) (by decide) eR116)) (by decide) eR117)) (by decide) eR118)) (by decide) eR119) (by decide) eM120)) (by decide) eR121)) (by decide) eR122)) (by decide) eR123)) (by decide) eR124)) (by decide) eR125)) (by decide) eR126)) (by decide) eR127)) (by decide) eR128)) (by decide) eR129) _ (Nat.le_refl _) i).1) (by decide) (by decide) (by decide) (Nat.le_of_ble_eq_true rfl) (Nat.le_of_ble_eq_true rfl) ?_
  refine g_putF (pc1 := 148) (v := .ref 418) (M' := M120) (R' := uR R129 401 30 (some 418)) d_Mod_init_145 rfl rfl ff_Mod_67 (fun _ => po_12_30 _) sh_401 (by decide) (fun _ => fvl_R_self) (fun _ q h => fvl_R_ne q h) (fun _ _ _ h => ent_neR h) ?_
  refine Wp.topR (fun R130 eR130 => ?_)
  refine g_aload_n (pc1 := 149) d_Mod_init_148 rfl 0 rfl ?_
  refine g_bipush (pc1 := 151) (v := 8) d_Mod_init_149 rfl (by decide) ?_
  refine g_newI (pc1 := 153) d_Mod_init_151 rfl ca_int sh_419 (fun i => ((Fz.wR (Fz.up (Fz.wR (Fz.up (Fz.wR (Fz.up (Fz.wR (Fz.up (Fz.wR (Fz.up (Fz.wR (Fz.up (Fz.wR (Fz.up (Fz.wR (Fz.up (Fz.wR (Fz.up (Fz.wR (Fz.up (Fz.wM (Fz.wR (Fz.up (Fz.wR (Fz.up (Fz.wR (Fz.up (Fz.wR (Fz.up (Fz.wR (Fz.up (Fz.wR (Fz.up (Fz.wR (Fz.up hF) (by decide) eR113)) (by decide) eR114)) (by decide) eR115)) (by decide) eR116)) (by decide) eR117)) (by decide) eR118)) (by decide) eR119) (by decide) eM120)) (by decide) eR121)) (by decide) eR122)) (by decide) eR123)) (by decide) eR124)) (by decide) eR125)) (by decide) eR126)) (by decide) eR127)) (by decide) eR128)) (by decide) eR129)) (by decide) eR130) _ (Nat.le_refl _) i).1) (by decide) (by decide) (by decide) (Nat.le_of_ble_eq_true rfl) (Nat.le_of_ble_eq_true rfl) ?_
  refine g_putF (pc1 := 156) (v := .ref 419) (M' := M120) (R' := uR R130 401 31 (some 419)) d_Mod_init_153 rfl rfl ff_Mod_70 (fun _ => po_12_31 _) sh_401 (by decide) (fun _ => fvl_R_self) (fun _ q h => fvl_R_ne q h) (fun _ _ _ h => ent_neR h) ?_
  refine Wp.topR (fun R131 eR131 => ?_)
  refine g_aload_n (pc1 := 157) d_Mod_init_156 rfl 0 rfl ?_
  refine g_iconst (pc1 := 158) (v := 2) d_Mod_init_157 rfl (by decide) ?_
  refine g_newI (pc1 := 160) d_Mod_init_158 rfl ca_int sh_420 (fun i => ((Fz.wR (Fz.up (Fz.wR (Fz.up (Fz.wR (Fz.up (Fz.wR (Fz.up (Fz.wR (Fz.up (Fz.wR (Fz.up (Fz.wR (Fz.up (Fz.wR (Fz.up (Fz.wR (Fz.up (Fz.wR (Fz.up (Fz.wR (Fz.up (Fz.wM (Fz.wR (Fz.up (Fz.wR (Fz.up (Fz.wR (Fz.up (Fz.wR (Fz.up (Fz.wR (Fz.up (Fz.wR (Fz.up (Fz.wR (Fz.up hF) (by decide) eR113)) (by decide) eR114)) (by decide) eR115)) (by decide) eR116)) (by decide) eR117)) (by decide) eR118)) (by decide) eR119) (by decide) eM120)) (by decide) eR121)) (by decide) eR122)) (by decide) eR123)) (by decide) eR124)) (by decide) eR125)) (by decide) eR126)) (by decide) eR127)) (by decide) eR128)) (by decide) eR129)) (by decide) eR130)) (by decide) eR131) _ (Nat.le_refl _) i).1) (by decide) (by decide) (by decide) (Nat.le_of_ble_eq_true rfl) (Nat.le_of_ble_eq_true rfl) ?_
  refine g_putF (pc1 := 163) (v := .ref 420) (M' := M120) (R' := uR R131 401 32 (some 420)) d_Mod_init_160 rfl rfl ff_Mod_73 (fun _ => po_12_32 _) sh_401 (by decide) (fun _ => fvl_R_self) (fun _ q h => fvl_R_ne q h) (fun _ _ _ h => ent_neR h) ?_
  refine Wp.topR (fun R132 eR132 => ?_)
  refine g_aload_n (pc1 := 164) d_Mod_init_163 rfl 0 rfl ?_
  refine g_bipush (pc1 := 166) (v := 12) d_Mod_init_164 rfl (by decide) ?_
  refine g_newI (pc1 := 168) d_Mod_init_166 rfl ca_int sh_421 (fun i => ((Fz.wR (Fz.up (Fz.wR (Fz.up (Fz.wR (Fz.up (Fz.wR (Fz.up (Fz.wR (Fz.up (Fz.wR (Fz.up (Fz.wR (Fz.up (Fz.wR (Fz.up (Fz.wR (Fz.up (Fz.wR (Fz.up (Fz.wR (Fz.up (Fz.wR (Fz.up (Fz.wM (Fz.wR (Fz.up (Fz.wR (Fz.up (Fz.wR (Fz.up (Fz.wR (Fz.up (Fz.wR (Fz.up (Fz.wR (Fz.up (Fz.wR (Fz.up hF) (by decide) eR113)) (by decide) eR114)) (by decide) eR115)) (by decide) eR116)) (by decide) eR117)) (by decide) eR118)) (by decide) eR119) (by decide) eM120)) (by decide) eR121)) (by decide) eR122)) (by decide) eR123)) (by decide) eR124)) (by decide) eR125)) (by decide) eR126)) (by decide) eR127)) (by decide) eR128)) (by decide) eR129)) (by decide) eR130)) (by decide) eR131)) (by decide) eR132) _ (Nat.le_refl _) i).1) (by decide) (by decide) (by decide) (Nat.le_of_ble_eq_true rfl) (Nat.le_of_ble_eq_true rfl) ?_
  refine g_putF (pc1 := 171) (v := .ref 421) (M' := M120) (R' := uR R132 401 33 (some 421)) d_Mod_init_168 rfl rfl ff_Mod_76 (fun _ => po_12_33 _) sh_401 (by decide) (fun _ => fvl_R_self) (fun _ q h => fvl_R_ne q h) (fun _ _ _ h => ent_neR h) ?_
  refine Wp.topR (fun R133 eR133 => ?_)
  refine g_aload_n (pc1 := 172) d_Mod_init_171 rfl 0 rfl ?_
  refine g_bipush (pc1 := 174) (v := 12) d_Mod_init_172 rfl (by decide) ?_
  refine g_newI (pc1 := 176) d_Mod_init_174 rfl ca_int sh_422 (fun i => ((Fz.wR (Fz.up (Fz.wR (Fz.up (Fz.wR (Fz.up (Fz.wR (Fz.up (Fz.wR (Fz.up (Fz.wR (Fz.up (Fz.wR (Fz.up (Fz.wR (Fz.up (Fz.wR (Fz.up (Fz.wR (Fz.up (Fz.wR (Fz.up (Fz.wR (Fz.up (Fz.wR (Fz.up (Fz.wM (Fz.wR (Fz.up (Fz.wR (Fz.up (Fz.wR (Fz.up (Fz.wR (Fz.up (Fz.wR (Fz.up (Fz.wR (Fz.up (Fz.wR (Fz.up hF) (by decide) eR113)) (by decide) eR114)) (by decide) eR115)) (by decide) eR116)) (by decide) eR117)) (by decide) eR118)) (by decide) eR119) (by decide) eM120)) (by decide) eR121)) (by decide) eR122)) (by decide) eR123)) (by decide) eR124)) (by decide) eR125)) (by decide) eR126)) (by decide) eR127)) (by decide) eR128)) (by decide) eR129)) (by decide) eR130)) (by decide) eR131)) (by decide) eR132)) (by decide) eR133) _ (Nat.le_refl _) i).1) (by decide) (by decide) (by decide) (Nat.le_of_ble_eq_true rfl) (Nat.le_of_ble_eq_true rfl) ?_
  refine g_putF (pc1 := 179) (v := .ref 422) (M' := M120) (R' := uR R133 401 34 (some 422)) d_Mod_init_176 rfl rfl ff_Mod_79 (fun _ => po_12_34 _) sh_401 (by decide) (fun _ => fvl_R_self) (fun _ q h => fvl_R_ne q h) (fun _ _ _ h => ent_neR h) ?_
  refine Wp.topR (fun R134 eR134 => ?_)
  refine g_aload_n (pc1 := 180) d_Mod_init_179 rfl 0 rfl ?_
  refine g_iconst (pc1 := 181) (v := 2) d_Mod_init_180 rfl (by decide) ?_
  refine g_newI (pc1 := 183) d_Mod_init_181 rfl ca_int sh_423 (fun i => ((Fz.wR (Fz.up (Fz.wR (Fz.up (Fz.wR (Fz.up (Fz.wR (Fz.up (Fz.wR (Fz.up (Fz.wR (Fz.up (Fz.wR (Fz.up (Fz.wR (Fz.up (Fz.wR (Fz.up (Fz.wR (Fz.up (Fz.wR (Fz.up (Fz.wR (Fz.up (Fz.wR (Fz.up (Fz.wR (Fz.up (Fz.wM (Fz.wR (Fz.up (Fz.wR (Fz.up (Fz.wR (Fz.up (Fz.wR (Fz.up (Fz.wR (Fz.up (Fz.wR (Fz.up (Fz.wR (Fz.up hF) (by decide) eR113)) (by decide) eR114)) (by decide) eR115)) (by decide) eR116)) (by decide) eR117)) (by decide) eR118)) (by decide) eR119) (by decide) eM120)) (by decide) eR121)) (by decide) eR122)) (by decide) eR123)) (by decide) eR124)) (by decide) eR125)) (by decide) eR126)) (by decide) eR127)) (by decide) eR128)) (by decide) eR129)) (by decide) eR130)) (by decide) eR131)) (by decide) eR132)) (by decide) eR133)) (by decide) eR134) _ (Nat.le_refl _) i).1) (by decide) (by decide) (by decide) (Nat.le_of_ble_eq_true rfl) (Nat.le_of_ble_eq_true rfl) ?_
  refine g_putF (pc1 := 186) (v := .ref 423) (M' := M120) (R' := uR R134 401 35 (some 423)) d_Mod_init_183 rfl rfl ff_Mod_82 (fun _ => po_12_35 _) sh_401 (by decide) (fun _ => fvl_R_self) (fun _ q h => fvl_R_ne q h) (fun _ _ _ h => ent_neR h) ?_
  refine Wp.topR (fun R135 eR135 => ?_)
  refine g_aload_n (pc1 := 187) d_Mod_init_186 rfl 0 rfl ?_
  refine g_bipush (pc1 := 189) (v := 8) d_Mod_init_187 rfl (by decide) ?_
  refine g_newI (pc1 := 191) d_Mod_init_189 rfl ca_int sh_424 (fun i => ((Fz.wR (Fz.up (Fz.wR (Fz.up (Fz.wR (Fz.up (Fz.wR (Fz.up (Fz.wR (Fz.up (Fz.wR (Fz.up (Fz.wR (Fz.up (Fz.wR (Fz.up (Fz.wR (Fz.up (Fz.wR (Fz.up (Fz.wR (Fz.up (Fz.wR (Fz.up (Fz.wR (Fz.up (Fz.wR (Fz.up (Fz.wR (Fz.up (Fz.wM (Fz.wR (Fz.up (Fz.wR (Fz.up (Fz.wR (Fz.up (Fz.wR (Fz.up (Fz.wR (Fz.up (Fz.wR (Fz.up (Fz.wR (Fz.up hF) (by decide) eR113)) (by decide) eR114)) (by decide) eR115)) (by decide) eR116)) (by decide) eR117)) (by decide) eR118)) (by decide) eR119) (by decide) eM120)) (by decide) eR121)) (by decide) eR122)) (by decide) eR123)) (by decide) eR124)) (by decide) eR125)) (by decide) eR126)) (by decide) eR127)) (by decide) eR128)) (by decide) eR129)) (by decide) eR130)) (by decide) eR131)) (by decide) eR132)) (by decide) eR133)) (by decide) eR134)) (by decide) eR135) _ (Nat.le_refl _) i).1) (by decide) (by decide) (by decide) (Nat.le_of_ble_eq_true rfl) (Nat.le_of_ble_eq_true rfl) ?_
  refine g_putF (pc1 := 194) (v := .ref 424) (M' := M120) (R' := uR R135 401 36 (some 424)) d_Mod_init_191 rfl rfl ff_Mod_85 (fun _ => po_12_36 _) sh_401 (by decide) (fun _ => fvl_R_self) (fun _ q h => fvl_R_ne q h) (fun _ _ _ h => ent_neR h) ?_
  refine Wp.topR (fun R136 eR136 => ?_)
  refine g_aload_n (pc1 := 195) d_Mod_init_194 rfl 0 rfl ?_
  refine g_bipush (pc1 := 197) (v := 8) d_Mod_init_195 rfl (by decide) ?_
  refine g_newI (pc1 := 199) d_Mod_init_197 rfl ca_int sh_425 (fun i => ((Fz.wR (Fz.up (Fz.wR (Fz.up (Fz.wR (Fz.up (Fz.wR (Fz.up (Fz.wR (Fz.up (Fz.wR (Fz.up (Fz.wR (Fz.up (Fz.wR (Fz.up (Fz.wR (Fz.up (Fz.wR (Fz.up (Fz.wR (Fz.up (Fz.wR (Fz.up (Fz.wR (Fz.up (Fz.wR (Fz.up (Fz.wR (Fz.up (Fz.wR (Fz.up (Fz.wM (Fz.wR (Fz.up (Fz.wR (Fz.up (Fz.wR (Fz.up (Fz.wR (Fz.up (Fz.wR (Fz.up (Fz.wR (Fz.up (Fz.wR (Fz.up hF) (by decide) eR113)) (by decide) eR114)) (by decide) eR115)) (by decide) eR116)) (by decide) eR117)) (by decide) eR118)) (by decide) eR119) (by decide) eM120)) (by decide) eR121)) (by decide) eR122)) (by decide) eR123)) (by decide) eR124)) (by decide) eR125)) (by decide) eR126)) (by decide) eR127)) (by decide) eR128)) (by decide) eR129)) (by decide) eR130)) (by decide) eR131)) (by decide) eR132)) (by decide) eR133)) (by decide) eR134)) (by decide) eR135)) (by decide) eR136) _ (Nat.le_refl _) i).1) (by decide) (by decide) (by decide) (Nat.le_of_ble_eq_true rfl) (Nat.le_of_ble_eq_true rfl) ?_
  refine g_putF (pc1 := 202) (v := .ref 425) (M' := M120) (R' := uR R136 401 37 (some 425)) d_Mod_init_199 rfl rfl ff_Mod_88 (fun _ => po_12_37 _) sh_401 (by decide) (fun _ => fvl_R_self) (fun _ q h => fvl_R_ne q h) (fun _ _ _ h => ent_neR h) ?_
  refine Wp.topR (fun R137 eR137 => ?_)
  refine g_aload_n (pc1 := 203) d_Mod_init_202 rfl 0 rfl ?_
  refine g_sipush (pc1 := 206) (v := 260) d_Mod_init_203 rfl (by decide) ?_
  refine g_newZ (pc1 := 208) d_Mod_init_206 rfl ca_boolean sh_426 (fun i => ((Fz.wR (Fz.up (Fz.wR (Fz.up (Fz.wR (Fz.up (Fz.wR (Fz.up (Fz.wR (Fz.up (Fz.wR (Fz.up (Fz.wR (Fz.up (Fz.wR (Fz.up (Fz.wR (Fz.up (Fz.wR (Fz.up (Fz.wR (Fz.up (Fz.wR (Fz.up (Fz.wR (Fz.up (Fz.wR (Fz.up (Fz.wR (Fz.up (Fz.wR (Fz.up (Fz.wR (Fz.up (Fz.wM (Fz.wR (Fz.up (Fz.wR (Fz.up (Fz.wR (Fz.up (Fz.wR (Fz.up (Fz.wR (Fz.up (Fz.wR (Fz.up (Fz.wR (Fz.up hF) (by decide) eR113)) (by decide) eR114)) (by decide) eR115)) (by decide) eR116)) (by decide) eR117)) (by decide) eR118)) (by decide) eR119) (by decide) eM120)) (by decide) eR121)) (by decide) eR122)) (by decide) eR123)) (by decide) eR124)) (by decide) eR125)) (by decide) eR126)) (by decide) eR127)) (by decide) eR128)) (by decide) eR129)) (by decide) eR130)) (by decide) eR131)) (by decide) eR132)) (by decide) eR133)) (by decide) eR134)) (by decide) eR135)) (by decide) eR136)) (by decide) eR137) _ (Nat.le_refl _) i).1) (by decide) (by decide) (by decide) (Nat.le_of_ble_eq_true rfl) (Nat.le_of_ble_eq_true rfl) ?_
  refine g_putF (pc1 := 211) (v := .ref 426) (M' := M120) (R' := uR R137 401 39 (some 426)) d_Mod_init_208 rfl rfl ff_Mod_91 (fun _ => po_12_39 _) sh_401 (by decide) (fun _ => fvl_R_self) (fun _ q h => fvl_R_ne q h) (fun _ _ _ h => ent_neR h) ?_
  refine Wp.topR (fun R138 eR138 => ?_)
  refine g_aload_n (pc1 := 212) d_Mod_init_211 rfl 0 rfl ?_
  refine g_sipush (pc1 := 215) (v := 260) d_Mod_init_212 rfl (by decide) ?_
  refine g_newI (pc1 := 217) d_Mod_init_215 rfl ca_int sh_427 (fun i => ((Fz.wR (Fz.up (Fz.wR (Fz.up (Fz.wR (Fz.up (Fz.wR (Fz.up (Fz.wR (Fz.up (Fz.wR (Fz.up (Fz.wR (Fz.up (Fz.wR (Fz.up (Fz.wR (Fz.up (Fz.wR (Fz.up (Fz.wR (Fz.up (Fz.wR (Fz.up (Fz.wR (Fz.up (Fz.wR (Fz.up (Fz.wR (Fz.up (Fz.wR (Fz.up (Fz.wR (Fz.up (Fz.wR (Fz.up (Fz.wM (Fz.wR (Fz.up (Fz.wR (Fz.up (Fz.wR (Fz.up (Fz.wR (Fz.up (Fz.wR (Fz.up (Fz.wR (Fz.up (Fz.wR (Fz.up hF) (by decide) eR113)) (by decide) eR114)) (by decide) eR115)) (by decide) eR116)) (by decide) eR117)) (by decide) eR118)) (by decide) eR119) (by decide) eM120)) (by decide) eR121)) (by decide) eR122)) (by decide) eR123)) (by decide) eR124)) (by decide) eR125)) (by decide) eR126)) (by decide) eR127)) (by decide) eR128)) (by decide) eR129)) (by decide) eR130)) (by decide) eR131)) (by decide) eR132)) (by decide) eR133)) (by decide) eR134)) (by decide) eR135)) (by decide) eR136)) (by decide) eR137)) (by decide) eR138) _ (Nat.le_refl _) i).1) (by decide) (by decide) (by decide) (Nat.le_of_ble_eq_true rfl) (Nat.le_of_ble_eq_true rfl) ?_
  refine g_putF (pc1 := 220) (v := .ref 427) (M' := M120) (R' := uR R138 401 40 (some 427)) d_Mod_init_217 rfl rfl ff_Mod_95 (fun _ => po_12_40 _) sh_401 (by decide) (fun _ => fvl_R_self) (fun _ q h => fvl_R_ne q h) (fun _ _ _ h => ent_neR h) ?_
  refine Wp.topR (fun R139 eR139 => ?_)
  refine g_aload_n (pc1 := 221) d_Mod_init_220 rfl 0 rfl ?_
  refine g_sipush (pc1 := 224) (v := 260) d_Mod_init_221 rfl (by decide) ?_
  refine g_newI (pc1 := 226) d_Mod_init_224 rfl ca_int sh_428 (fun i => ((Fz.wR (Fz.up (Fz.wR (Fz.up (Fz.wR (Fz.up (Fz.wR (Fz.up (Fz.wR (Fz.up (Fz.wR (Fz.up (Fz.wR (Fz.up (Fz.wR (Fz.up (Fz.wR (Fz.up (Fz.wR (Fz.up (Fz.wR (Fz.up (Fz.wR (Fz.up (Fz.wR (Fz.up (Fz.wR (Fz.up (Fz.wR (Fz.up (Fz.wR (Fz.up (Fz.wR (Fz.up (Fz.wR (Fz.up (Fz.wR (Fz.up (Fz.wM (Fz.wR (Fz.up (Fz.wR (Fz.up (Fz.wR (Fz.up (Fz.wR (Fz.up (Fz.wR (Fz.up (Fz.wR (Fz.up (Fz.wR (Fz.up hF) (by decide) eR113)) (by decide) eR114)) (by decide) eR115)) (by decide) eR116)) (by decide) eR117)) (by decide) eR118)) (by decide) eR119) (by decide) eM120)) (by decide) eR121)) (by decide) eR122)) (by decide) eR123)) (by decide) eR124)) (by decide) eR125)) (by decide) eR126)) (by decide) eR127)) (by decide) eR128)) (by decide) eR129)) (by decide) eR130)) (by decide) eR131)) (by decide) eR132)) (by decide) eR133)) (by decide) eR134)) (by decide) eR135)) (by decide) eR136)) (by decide) eR137)) (by decide) eR138)) (by decide) eR139) _ (Nat.le_refl _) i).1) (by decide) (by decide) (by decide) (Nat.le_of_ble_eq_true rfl) (Nat.le_of_ble_eq_true rfl) ?_
  refine g_putF (pc1 := 229) (v := .ref 428) (M' := M120) (R' := uR R139 401 41 (some 428)) d_Mod_init_226 rfl rfl ff_Mod_98 (fun _ => po_12_41 _) sh_401 (by decide) (fun _ => fvl_R_self) (fun _ q h => fvl_R_ne q h) (fun _ _ _ h => ent_neR h) ?_
  refine Wp.topR (fun R140 eR140 => ?_)
  refine g_aload_n (pc1 := 230) d_Mod_init_229 rfl 0 rfl ?_
  refine g_sipush (pc1 := 233) (v := 260) d_Mod_init_230 rfl (by decide) ?_
  refine g_newI (pc1 := 235) d_Mod_init_233 rfl ca_int sh_429 (fun i => ((Fz.wR (Fz.up (Fz.wR (Fz.up (Fz.wR (Fz.up (Fz.wR (Fz.up (Fz.wR (Fz.up (Fz.wR (Fz.up (Fz.wR (Fz.up (Fz.wR (Fz.up (Fz.wR (Fz.up (Fz.wR (Fz.up (Fz.wR (Fz.up (Fz.wR (Fz.up (Fz.wR (Fz.up (Fz.wR (Fz.up (Fz.wR (Fz.up (Fz.wR (Fz.up (Fz.wR (Fz.up (Fz.wR (Fz.up (Fz.wR (Fz.up (Fz.wR (Fz.up (Fz.wM (Fz.wR (Fz.up (Fz.wR (Fz.up (Fz.wR (Fz.up (Fz.wR (Fz.up (Fz.wR (Fz.up (Fz.wR (Fz.up (Fz.wR (Fz.up hF) (by decide) eR113)) (by decide) eR114)) (by decide) eR115)) (by decide) eR116)) (by decide) eR117)) (by decide) eR118)) (by decide) eR119) (by decide) eM120)) (by decide) eR121)) (by decide) eR122)) (by decide) eR123)) (by decide) eR124)) (by decide) eR125)) (by decide) eR126)) (by decide) eR127)) (by decide) eR128)) (by decide) eR129)) (by decide) eR130)) (by decide) eR131)) (by decide) eR132)) (by decide) eR133)) (by decide) eR134)) (by decide) eR135)) (by decide) eR136)) (by decide) eR137)) (by decide) eR138)) (by decide) eR139)) (by decide) eR140) _ (Nat.le_refl _) i).1) (by decide) (by decide) (by decide) (Nat.le_of_ble_eq_true rfl) (Nat.le_of_ble_eq_true rfl) ?_
  refine g_putF (pc1 := 238) (v := .ref 429) (M' := M120) (R' := uR R140 401 42 (some 429)) d_Mod_init_235 rfl rfl ff_Mod_101 (fun _ => po_12_42 _) sh_401 (by decide) (fun _ => fvl_R_self) (fun _ q h => fvl_R_ne q h) (fun _ _ _ h => ent_neR h) ?_
  refine Wp.topR (fun R141 eR141 => ?_)
  refine g_aload_n (pc1 := 239) d_Mod_init_238 rfl 0 rfl ?_
  refine g_sipush (pc1 := 242) (v := 260) d_Mod_init_239 rfl (by decide) ?_
  refine g_newI (pc1 := 244) d_Mod_init_242 rfl ca_int sh_430 (fun i => ((Fz.wR (Fz.up (Fz.wR (Fz.up (Fz.wR (Fz.up (Fz.wR (Fz.up (Fz.wR (Fz.up (Fz.wR (Fz.up (Fz.wR (Fz.up (Fz.wR (Fz.up (Fz.wR (Fz.up (Fz.wR (Fz.up (Fz.wR (Fz.up (Fz.wR (Fz.up (Fz.wR (Fz.up (Fz.wR (Fz.up (Fz.wR (Fz.up (Fz.wR (Fz.up (Fz.wR (Fz.up (Fz.wR (Fz.up (Fz.wR (Fz.up (Fz.wR (Fz.up (Fz.wR (Fz.up (Fz.wM (Fz.wR (Fz.up (Fz.wR (Fz.up (Fz.wR (Fz.up (Fz.wR (Fz.up (Fz.wR (Fz.up (Fz.wR (Fz.up (Fz.wR (Fz.up hF) (by decide) eR113)) (by decide) eR114)) (by decide) eR115)) (by decide) eR116)) (by decide) eR117)) (by decide) eR118)) (by decide) eR119) (by decide) eM120)) (by decide) eR121)) (by decide) eR122)) (by decide) eR123)) (by decide) eR124)) (by decide) eR125)) (by decide) eR126)) (by decide) eR127)) (by decide) eR128)) (by decide) eR129)) (by decide) eR130)) (by decide) eR131)) (by decide) eR132)) (by decide) eR133)) (by decide) eR134)) (by decide) eR135)) (by decide) eR136)) (by decide) eR137)) (by decide) eR138)) (by decide) eR139)) (by decide) eR140)) (by decide) eR141) _ (Nat.le_refl _) i).1) (by decide) (by decide) (by decide) (Nat.le_of_ble_eq_true rfl) (Nat.le_of_ble_eq_true rfl) ?_
  refine g_putF (pc1 := 247) (v := .ref 430) (M' := M120) (R' := uR R141 401 43 (some 430)) d_Mod_init_244 rfl rfl ff_Mod_104 (fun _ => po_12_43 _) sh_401 (by decide) (fun _ => fvl_R_self) (fun _ q h => fvl_R_ne q h) (fun _ _ _ h => ent_neR h) ?_
  refine Wp.topR (fun R142 eR142 => ?_)
  refine g_aload_n (pc1 := 248) d_Mod_init_247 rfl 0 rfl ?_
  refine g_sipush (pc1 := 251) (v := 840) d_Mod_init_248 rfl (by decide) ?_
  refine g_newI (pc1 := 253) d_Mod_init_251 rfl ca_int sh_431 (fun i => ((Fz.wR (Fz.up (Fz.wR (Fz.up (Fz.wR (Fz.up (Fz.wR (Fz.up (Fz.wR (Fz.up (Fz.wR (Fz.up (Fz.wR (Fz.up (Fz.wR (Fz.up (Fz.wR (Fz.up (Fz.wR (Fz.up (Fz.wR (Fz.up (Fz.wR (Fz.up (Fz.wR (Fz.up (Fz.wR (Fz.up (Fz.wR (Fz.up (Fz.wR (Fz.up (Fz.wR (Fz.up (Fz.wR (Fz.up (Fz.wR (Fz.up (Fz.wR (Fz.up (Fz.wR (Fz.up (Fz.wR (Fz.up (Fz.wM (Fz.wR (Fz.up (Fz.wR (Fz.up (Fz.wR (Fz.up (Fz.wR (Fz.up (Fz.wR (Fz.up (Fz.wR (Fz.up (Fz.wR (Fz.up hF) (by decide) eR113)) (by decide) eR114)) (by decide) eR115)) (by decide) eR116)) (by decide) eR117)) (by decide) eR118)) (by decide) eR119) (by decide) eM120)) (by decide) eR121)) (by decide) eR122)) (by decide) eR123)) (by decide) eR124)) (by decide) eR125)) (by decide) eR126)) (by decide) eR127)) (by decide) eR128)) (by decide) eR129)) (by decide) eR130)) (by decide) eR131)) (by decide) eR132)) (by decide) eR133)) (by decide) eR134)) (by decide) eR135)) (by decide) eR136)) (by decide) eR137)) (by decide) eR138)) (by decide) eR139)) (by decide) eR140)) (by decide) eR141)) (by decide) eR142) _ (Nat.le_refl _) i).1) (by decide) (by decide) (by decide) (Nat.le_of_ble_eq_true rfl) (Nat.le_of_ble_eq_true rfl) ?_
  refine g_putF (pc1 := 256) (v := .ref 431) (M' := M120) (R' := uR R142 401 45 (some 431)) d_Mod_init_253 rfl rfl ff_Mod_107 (fun _ => po_12_45 _) sh_401 (by decide) (fun _ => fvl_R_self) (fun _ q h => fvl_R_ne q h) (fun _ _ _ h => ent_neR h) ?_
  refine Wp.topR (fun R143 eR143 => ?_)
  refine g_aload_n (pc1 := 257) d_Mod_init_256 rfl 0 rfl ?_
  refine g_sipush (pc1 := 260) (v := 840) d_Mod_init_257 rfl (by decide) ?_
  refine g_newI (pc1 := 262) d_Mod_init_260 rfl ca_int sh_432 (fun i => ((Fz.wR (Fz.up (Fz.wR (Fz.up (Fz.wR (Fz.up (Fz.wR (Fz.up (Fz.wR (Fz.up (Fz.wR (Fz.up (Fz.wR (Fz.up (Fz.wR (Fz.up (Fz.wR (Fz.up (Fz.wR (Fz.up (Fz.wR (Fz.up (Fz.wR (Fz.up (Fz.wR (Fz.up (Fz.wR (Fz.up (Fz.wR (Fz.up (Fz.wR (Fz.up (Fz.wR (Fz.up (Fz.wR (Fz.up (Fz.wR (Fz.up (Fz.wR (Fz.up (Fz.wR (Fz.up (Fz.wR (Fz.up (Fz.wR (Fz.up (Fz.wM (Fz.wR (Fz.up (Fz.wR (Fz.up (Fz.wR (Fz.up (Fz.wR (Fz.up (Fz.wR (Fz.up (Fz.wR (Fz.up (Fz.wR (Fz.up hF) (by decide) eR113)) (by decide) eR114)) (by decide) eR115)) (by decide) eR116)) (by decide) eR117)) (by decide) eR118)) (by decide) eR119) (by decide) eM120)) (by decide) eR121)) (by decide) eR122)) (by decide) eR123)) (by decide) eR124)) (by decide) eR125)) (by decide) eR126)) (by decide) eR127)) (by decide) eR128)) (by decide) eR129)) (by decide) eR130)) (by decide) eR131)) (by decide) eR132)) (by decide) eR133)) (by decide) eR134)) (by decide) eR135)) (by decide) eR136)) (by decide) eR137)) (by decide) eR138)) (by decide) eR139)) (by decide) eR140)) (by decide) eR141)) (by decide) eR142)) (by decide) eR143) _ (Nat.le_refl _) i).1) (by decide) (by decide) (by decide) (Nat.le_of_ble_eq_true rfl) (Nat.le_of_ble_eq_true rfl) ?_
  refine g_putF (pc1 := 265) (v := .ref 432) (M' := M120) (R' := uR R143 401 46 (some 432)) d_Mod_init_262 rfl rfl ff_Mod_110 (fun _ => po_12_46 _) sh_401 (by decide) (fun _ => fvl_R_self) (fun _ q h => fvl_R_ne q h) (fun _ _ _ h => ent_neR h) ?_
  refine Wp.topR (fun R144 eR144 => ?_)
  refine g_aload_n (pc1 := 266) d_Mod_init_265 rfl 0 rfl ?_
  refine g_bipush (pc1 := 268) (v := 64) d_Mod_init_266 rfl (by decide) ?_
  refine g_newI (pc1 := 270) d_Mod_init_268 rfl ca_int sh_433 (fun i => ((Fz.wR (Fz.up (Fz.wR (Fz.up (Fz.wR (Fz.up (Fz.wR (Fz.up (Fz.wR (Fz.up (Fz.wR (Fz.up (Fz.wR (Fz.up (Fz.wR (Fz.up (Fz.wR (Fz.up (Fz.wR (Fz.up (Fz.wR (Fz.up (Fz.wR (Fz.up (Fz.wR (Fz.up (Fz.wR (Fz.up (Fz.wR (Fz.up (Fz.wR (Fz.up (Fz.wR (Fz.up (Fz.wR (Fz.up (Fz.wR (Fz.up (Fz.wR (Fz.up (Fz.wR (Fz.up (Fz.wR (Fz.up (Fz.wR (Fz.up (Fz.wR (Fz.up (Fz.wM (Fz.wR (Fz.up (Fz.wR (Fz.up (Fz.wR (Fz.up (Fz.wR (Fz.up (Fz.wR (Fz.up (Fz.wR (Fz.up (Fz.wR (Fz.up hF) (by decide) eR113)) (by decide) eR114)) (by decide) eR115)) (by decide) eR116)) (by decide) eR117)) (by decide) eR118)) (by decide) eR119) (by decide) eM120)) (by decide) eR121)) (by decide) eR122)) (by decide) eR123)) (by decide) eR124)) (by decide) eR125)) (by decide) eR126)) (by decide) eR127)) (by decide) eR128)) (by decide) eR129)) (by decide) eR130)) (by decide) eR131)) (by decide) eR132)) (by decide) eR133)) (by decide) eR134)) (by decide) eR135)) (by decide) eR136)) (by decide) eR137)) (by decide) eR138)) (by decide) eR139)) (by decide) eR140)) (by decide) eR141)) (by decide) eR142)) (by decide) eR143)) (by decide) eR144) _ (Nat.le_refl _) i).1) (by decide) (by decide) (by decide) (Nat.le_of_ble_eq_true rfl) (Nat.le_of_ble_eq_true rfl) ?_
  refine g_putF (pc1 := 273) (v := .ref 433) (M' := M120) (R' := uR R144 401 47 (some 433)) d_Mod_init_270 rfl rfl ff_Mod_113 (fun _ => po_12_47 _) sh_401 (by decide) (fun _ => fvl_R_self) (fun _ q h => fvl_R_ne q h) (fun _ _ _ h => ent_neR h) ?_
  refine Wp.topR (fun R145 eR145 => ?_)
  refine g_aload_n (pc1 := 274) d_Mod_init_273 rfl 0 rfl ?_
  refine g_bipush (pc1 := 276) (v := 9) d_Mod_init_274 rfl (by decide) ?_
  refine g_newI (pc1 := 278) d_Mod_init_276 rfl ca_int sh_434 (fun i => ((Fz.wR (Fz.up (Fz.wR (Fz.up (Fz.wR (Fz.up (Fz.wR (Fz.up (Fz.wR (Fz.up (Fz.wR (Fz.up (Fz.wR (Fz.up (Fz.wR (Fz.up (Fz.wR (Fz.up (Fz.wR (Fz.up (Fz.wR (Fz.up (Fz.wR (Fz.up (Fz.wR (Fz.up (Fz.wR (Fz.up (Fz.wR (Fz.up (Fz.wR (Fz.up (Fz.wR (Fz.up (Fz.wR (Fz.up (Fz.wR (Fz.up (Fz.wR (Fz.up (Fz.wR (Fz.up (Fz.wR (Fz.up (Fz.wR (Fz.up (Fz.wR (Fz.up (Fz.wR (Fz.up (Fz.wM (Fz.wR (Fz.up (Fz.wR (Fz.up (Fz.wR (Fz.up (Fz.wR (Fz.up (Fz.wR (Fz.up (Fz.wR (Fz.up (Fz.wR (Fz.up hF) (by decide) eR113)) (by decide) eR114)) (by decide) eR115)) (by decide) eR116)) (by decide) eR117)) (by decide) eR118)) (by decide) eR119) (by decide) eM120)) (by decide) eR121)) (by decide) eR122)) (by decide) eR123)) (by decide) eR124)) (by decide) eR125)) (by decide) eR126)) (by decide) eR127)) (by decide) eR128)) (by decide) eR129)) (by decide) eR130)) (by decide) eR131)) (by decide) eR132)) (by decide) eR133)) (by decide) eR134)) (by decide) eR135)) (by decide) eR136)) (by decide) eR137)) (by decide) eR138)) (by decide) eR139)) (by decide) eR140)) (by decide) eR141)) (by decide) eR142)) (by decide) eR143)) (by decide) eR144)) (by decide) eR145) _ (Nat.le_refl _) i).1) (by decide) (by decide) (by decide) (Nat.le_of_ble_eq_true rfl) (Nat.le_of_ble_eq_true rfl) ?_
  refine g_putF (pc1 := 281) (v := .ref 434) (M' := M120) (R' := uR R145 401 49 (some 434)) d_Mod_init_278 rfl rfl ff_Mod_116 (fun _ => po_12_49 _) sh_401 (by decide) (fun _ => fvl_R_self) (fun _ q h => fvl_R_ne q h) (fun _ _ _ h => ent_neR h) ?_
  refine Wp.topR (fun R146 eR146 => ?_)
  refine g_aload_n (pc1 := 282) d_Mod_init_281 rfl 0 rfl ?_
  refine g_sipush (pc1 := 285) (v := 400) d_Mod_init_282 rfl (by decide) ?_
  refine g_newI (pc1 := 287) d_Mod_init_285 rfl ca_int sh_435 (fun i => ((Fz.wR (Fz.up (Fz.wR (Fz.up (Fz.wR (Fz.up (Fz.wR (Fz.up (Fz.wR (Fz.up (Fz.wR (Fz.up (Fz.wR (Fz.up (Fz.wR (Fz.up (Fz.wR (Fz.up (Fz.wR (Fz.up (Fz.wR (Fz.up (Fz.wR (Fz.up (Fz.wR (Fz.up (Fz.wR (Fz.up (Fz.wR (Fz.up (Fz.wR (Fz.up (Fz.wR (Fz.up (Fz.wR (Fz.up (Fz.wR (Fz.up (Fz.wR (Fz.up (Fz.wR (Fz.up (Fz.wR (Fz.up (Fz.wR (Fz.up (Fz.wR (Fz.up (Fz.wR (Fz.up (Fz.wR (Fz.up (Fz.wM (Fz.wR (Fz.up (Fz.wR (Fz.up (Fz.wR (Fz.up (Fz.wR (Fz.up (Fz.wR (Fz.up (Fz.wR (Fz.up (Fz.wR (Fz.up hF) (by decide) eR113)) (by decide) eR114)) (by decide) eR115)) (by decide) eR116)) (by decide) eR117)) (by decide) eR118)) (by decide) eR119) (by decide) eM120)) (by decide) eR121)) (by decide) eR122)) (by decide) eR123)) (by decide) eR124)) (by decide) eR125)) (by decide) eR126)) (by decide) eR127)) (by decide) eR128)) (by decide) eR129)) (by decide) eR130)) (by decide) eR131)) (by decide) eR132)) (by decide) eR133)) (by decide) eR134)) (by decide) eR135)) (by decide) eR136)) (by decide) eR137)) (by decide) eR138)) (by decide) eR139)) (by decide) eR140)) (by decide) eR141)) (by decide) eR142)) (by decide) eR143)) (by decide) eR144)) (by decide) eR145)) (by decide) eR146) _ (Nat.le_refl _) i).1) (by decide) (by decide) (by decide) (Nat.le_of_ble_eq_true rfl) (Nat.le_of_ble_eq_true rfl) ?_
  refine g_putF (pc1 := 290) (v := .ref 435) (M' := M120) (R' := uR R146 401 50 (some 435)) d_Mod_init_287 rfl rfl ff_Mod_119 (fun _ => po_12_50 _) sh_401 (by decide) (fun _ => fvl_R_self) (fun _ q h => fvl_R_ne q h) (fun _ _ _ h => ent_neR h) ?_
  refine Wp.topR (fun R147 eR147 => ?_)
  refine g_aload_n (pc1 := 291) d_Mod_init_290 rfl 0 rfl ?_
  refine g_bipush (pc1 := 293) (v := 38) d_Mod_init_291 rfl (by decide) ?_
  refine g_newI (pc1 := 295) d_Mod_init_293 rfl ca_int sh_436 (fun i => ((Fz.wR (Fz.up (Fz.wR (Fz.up (Fz.wR (Fz.up (Fz.wR (Fz.up (Fz.wR (Fz.up (Fz.wR (Fz.up (Fz.wR (Fz.up (Fz.wR (Fz.up (Fz.wR (Fz.up (Fz.wR (Fz.up (Fz.wR (Fz.up (Fz.wR (Fz.up (Fz.wR (Fz.up (Fz.wR (Fz.up (Fz.wR (Fz.up (Fz.wR (Fz.up (Fz.wR (Fz.up (Fz.wR (Fz.up (Fz.wR (Fz.up (Fz.wR (Fz.up (Fz.wR (Fz.up (Fz.wR (Fz.up (Fz.wR (Fz.up (Fz.wR (Fz.up (Fz.wR (Fz.up (Fz.wR (Fz.up (Fz.wR (Fz.up (Fz.wM (Fz.wR (Fz.up (Fz.wR (Fz.up (Fz.wR (Fz.up (Fz.wR (Fz.up (Fz.wR (Fz.up (Fz.wR (Fz.up (Fz.wR (Fz.up hF) (by decide) eR113)) (by decide) eR114)) (by decide) eR115)) (by decide) eR116)) (by decide) eR117)) (by decide) eR118)) (by decide) eR119) (by decide) eM120)) (by decide) eR121)) (by decide) eR122)) (by decide) eR123)) (by decide) eR124)) (by decide) eR125)) (by decide) eR126)) (by decide) eR127)) (by decide) eR128)) (by decide) eR129)) (by decide) eR130)) (by decide) eR131)) (by decide) eR132)) (by decide) eR133)) (by decide) eR134)) (by decide) eR135)) (by decide) eR136)) (by decide) eR137)) (by decide) eR138)) (by decide) eR139)) (by decide) eR140)) (by decide) eR141)) (by decide) eR142)) (by decide) eR143)) (by decide) eR144)) (by decide) eR145)) (by decide) eR146)) (by decide) eR147) _ (Nat.le_refl _) i).1) (by decide) (by decide) (by decide) (Nat.le_of_ble_eq_true rfl) (Nat.le_of_ble_eq_true rfl) ?_
  refine g_putF (pc1 := 298) (v := .ref 436) (M' := M120) (R' := uR R147 401 52 (some 436)) d_Mod_init_295 rfl rfl ff_Mod_122 (fun _ => po_12_52 _) sh_401 (by decide) (fun _ => fvl_R_self) (fun _ q h => fvl_R_ne q h) (fun _ _ _ h => ent_neR h) ?_
  refine Wp.topR (fun R148 eR148 => ?_)
  refine g_aload_n (pc1 := 299) d_Mod_init_298 rfl 0 rfl ?_
  refine g_bipush (pc1 := 301) (v := 38) d_Mod_init_299 rfl (by decide) ?_
  refine g_newI (pc1 := 303) d_Mod_init_301 rfl ca_int sh_437 (fun i => ((Fz.wR (Fz.up (Fz.wR (Fz.up (Fz.wR (Fz.up (Fz.wR (Fz.up (Fz.wR (Fz.up (Fz.wR (Fz.up (Fz.wR (Fz.up (Fz.wR (Fz.up (Fz.wR (Fz.up (Fz.wR (Fz.up (Fz.wR (Fz.up (Fz.wR (Fz.up (Fz.wR (Fz.up (Fz.wR (Fz.up (Fz.wR (Fz.up (Fz.wR (Fz.up (Fz.wR (Fz.up (Fz.wR (Fz.up (Fz.wR (Fz.up (Fz.wR (Fz.up (Fz.wR (Fz.up (Fz.wR (Fz.up (Fz.wR (Fz.up (Fz.wR (Fz.up (Fz.wR (Fz.up (Fz.wR (Fz.up (Fz.wR (Fz.up (Fz.wR (Fz.up (Fz.wM (Fz.wR (Fz.up (Fz.wR (Fz.up (Fz.wR (Fz.up (Fz.wR (Fz.up (Fz.wR (Fz.up (Fz.wR (Fz.up (Fz.wR (Fz.up hF) (by decide) eR113)) (by decide) eR114)) (by decide) eR115)) (by decide) eR116)) (by decide) eR117)) (by decide) eR118)) (by decide) eR119) (by decide) eM120)) (by decide) eR121)) (by decide) eR122)) (by decide) eR123)) (by decide) eR124)) (by decide) eR125)) (by decide) eR126)) (by decide) eR127)) (by decide) eR128)) (by decide) eR129)) (by decide) eR130)) (by decide) eR131)) (by decide) eR132)) (by decide) eR133)) (by decide) eR134)) (by decide) eR135)) (by decide) eR136)) (by decide) eR137)) (by decide) eR138)) (by decide) eR139)) (by decide) eR140)) (by decide) eR141)) (by decide) eR142)) (by decide) eR143)) (by decide) eR144)) (by decide) eR145)) (by decide) eR146)) (by decide) eR147)) (by decide) eR148) _ (Nat.le_refl _) i).1) (by decide) (by decide) (by decide) (Nat.le_of_ble_eq_true rfl) (Nat.le_of_ble_eq_true rfl) ?_
  refine g_putF (pc1 := 306) (v := .ref 437) (M' := M120) (R' := uR R148 401 53 (some 437)) d_Mod_init_303 rfl rfl ff_Mod_125 (fun _ => po_12_53 _) sh_401 (by decide) (fun _ => fvl_R_self) (fun _ q h => fvl_R_ne q h) (fun _ _ _ h => ent_neR h) ?_
  refine Wp.topR (fun R149 eR149 => ?_)
  refine g_aload_n (pc1 := 307) d_Mod_init_306 rfl 0 rfl ?_
  refine g_bipush (pc1 := 309) (v := 6) d_Mod_init_307 rfl (by decide) ?_
  refine g_newI (pc1 := 311) d_Mod_init_309 rfl ca_int sh_438 (fun i => ((Fz.wR (Fz.up (Fz.wR (Fz.up (Fz.wR (Fz.up (Fz.wR (Fz.up (Fz.wR (Fz.up (Fz.wR (Fz.up (Fz.wR (Fz.up (Fz.wR (Fz.up (Fz.wR (Fz.up (Fz.wR (Fz.up (Fz.wR (Fz.up (Fz.wR (Fz.up (Fz.wR (Fz.up (Fz.wR (Fz.up (Fz.wR (Fz.up (Fz.wR (Fz.up (Fz.wR (Fz.up (Fz.wR (Fz.up (Fz.wR (Fz.up (Fz.wR (Fz.up (Fz.wR (Fz.up (Fz.wR (Fz.up (Fz.wR (Fz.up (Fz.wR (Fz.up (Fz.wR (Fz.up (Fz.wR (Fz.up (Fz.wR (Fz.up (Fz.wR (Fz.up (Fz.wR (Fz.up (Fz.wM (Fz.wR (Fz.up (Fz.wR (Fz.up (Fz.wR (Fz.up (Fz.wR (Fz.up (Fz.wR (Fz.up (Fz.wR (Fz.up (Fz.wR (Fz.up hF) (by decide) eR113)) (by decide) eR114)) (by decide) eR115)) (by decide) eR116)) (by decide) eR117)) (by decide) eR118)) (by decide) eR119) (by decide) eM120)) (by decide) eR121)) (by decide) eR122)) (by decide) eR123)) (by decide) eR124)) (by decide) eR125)) (by decide) eR126)) (by decide) eR127)) (by decide) eR128)) (by decide) eR129)) (by decide) eR130)) (by decide) eR131)) (by decide) eR132)) (by decide) eR133)) (by decide) eR134)) (by decide) eR135)) (by decide) eR136)) (by decide) eR137)) (by decide) eR138)) (by decide) eR139)) (by decide) eR140)) (by decide) eR141)) (by decide) eR142)) (by decide) eR143)) (by decide) eR144)) (by decide) eR145)) (by decide) eR146)) (by decide) eR147)) (by decide) eR148)) (by decide) eR149) _ (Nat.le_refl _) i).1) (by decide) (by decide) (by decide) (Nat.le_of_ble_eq_true rfl) (Nat.le_of_ble_eq_true rfl) ?_
  refine g_putF (pc1 := 314) (v := .ref 438) (M' := M120) (R' := uR R149 401 55 (some 438)) d_Mod_init_311 rfl rfl ff_Mod_128 (fun _ => po_12_55 _) sh_401 (by decide) (fun _ => fvl_R_self) (fun _ q h => fvl_R_ne q h) (fun _ _ _ h => ent_neR h) ?_
  refine Wp.topR (fun R150 eR150 => ?_)
  refine g_aload_n (pc1 := 315) d_Mod_init_314 rfl 0 rfl ?_
  refine g_bipush (pc1 := 317) (v := 6) d_Mod_init_315 rfl (by decide) ?_
  refine g_newI (pc1 := 319) d_Mod_init_317 rfl ca_int sh_439 (fun i => ((Fz.wR (Fz.up (Fz.wR (Fz.up (Fz.wR (Fz.up (Fz.wR (Fz.up (Fz.wR (Fz.up (Fz.wR (Fz.up (Fz.wR (Fz.up (Fz.wR (Fz.up (Fz.wR (Fz.up (Fz.wR (Fz.up (Fz.wR (Fz.up (Fz.wR (Fz.up (Fz.wR (Fz.up (Fz.wR (Fz.up (Fz.wR (Fz.up (Fz.wR (Fz.up (Fz.wR (Fz.up (Fz.wR (Fz.up (Fz.wR (Fz.up (Fz.wR (Fz.up (Fz.wR (Fz.up (Fz.wR (Fz.up (Fz.wR (Fz.up (Fz.wR (Fz.up (Fz.wR (Fz.up (Fz.wR (Fz.up (Fz.wR (Fz.up (Fz.wR (Fz.up (Fz.wR (Fz.up (Fz.wR (Fz.up (Fz.wM (Fz.wR (Fz.up (Fz.wR (Fz.up (Fz.wR (Fz.up (Fz.wR (Fz.up (Fz.wR (Fz.up (Fz.wR (Fz.up (Fz.wR (Fz.up hF) (by decide) eR113)) (by decide) eR114)) (by decide) eR115)) (by decide) eR116)) (by decide) eR117)) (by decide) eR118)) (by decide) eR119) (by decide) eM120)) (by decide) eR121)) (by decide) eR122)) (by decide) eR123)) (by decide) eR124)) (by decide) eR125)) (by decide) eR126)) (by decide) eR127)) (by decide) eR128)) (by decide) eR129)) (by decide) eR130)) (by decide) eR131)) (by decide) eR132)) (by decide) eR133)) (by decide) eR134)) (by decide) eR135)) (by decide) eR136)) (by decide) eR137)) (by decide) eR138)) (by decide) eR139)) (by decide) eR140)) (by decide) eR141)) (by decide) eR142)) (by decide) eR143)) (by decide) eR144)) (by decide) eR145)) (by decide) eR146)) (by decide) eR147)) (by decide) eR148)) (by decide) eR149)) (by decide) eR150) _ (Nat.le_refl _) i).1) (by decide) (by decide) (by decide) (Nat.le_of_ble_eq_true rfl) (Nat.le_of_ble_eq_true rfl) ?_
  refine g_putF (pc1 := 322) (v := .ref 439) (M' := M120) (R' := uR R150 401 56 (some 439)) d_Mod_init_319 rfl rfl ff_Mod_131 (fun _ => po_12_56 _) sh_401 (by decide) (fun _ => fvl_R_self) (fun _ q h => fvl_R_ne q h) (fun _ _ _ h => ent_neR h) ?_
  refine Wp.topR (fun R151 eR151 => ?_)
  refine g_aload_n (pc1 := 323) d_Mod_init_322 rfl 0 rfl ?_
  refine g_sipush (pc1 := 326) (v := 1520) d_Mod_init_323 rfl (by decide) ?_
  refine g_newI (pc1 := 328) d_Mod_init_326 rfl ca_int sh_440 (fun i => ((Fz.wR (Fz.up (Fz.wR (Fz.up (Fz.wR (Fz.up (Fz.wR (Fz.up (Fz.wR (Fz.up (Fz.wR (Fz.up (Fz.wR (Fz.up (Fz.wR (Fz.up (Fz.wR (Fz.up (Fz.wR (Fz.up (Fz.wR (Fz.up (Fz.wR (Fz.up (Fz.wR (Fz.up (Fz.wR (Fz.up (Fz.wR (Fz.up (Fz.wR (Fz.up (Fz.wR (Fz.up (Fz.wR (Fz.up (Fz.wR (Fz.up (Fz.wR (Fz.up (Fz.wR (Fz.up (Fz.wR (Fz.up (Fz.wR (Fz.up (Fz.wR (Fz.up (Fz.wR (Fz.up (Fz.wR (Fz.up (Fz.wR (Fz.up (Fz.wR (Fz.up (Fz.wR (Fz.up (Fz.wR (Fz.up (Fz.wR (Fz.up (Fz.wM (Fz.wR (Fz.up (Fz.wR (Fz.up (Fz.wR (Fz.up (Fz.wR (Fz.up (Fz.wR (Fz.up (Fz.wR (Fz.up (Fz.wR (Fz.up hF) (by decide) eR113)) (by decide) eR114)) (by decide) eR115)) (by decide) eR116)) (by decide) eR117)) (by decide) eR118)) (by decide) eR119) (by decide) eM120)) (by decide) eR121)) (by decide) eR122)) (by decide) eR123)) (by decide) eR124)) (by decide) eR125)) (by decide) eR126)) (by decide) eR127)) (by decide) eR128)) (by decide) eR129)) (by decide) eR130)) (by decide) eR131)) (by decide) eR132)) (by decide) eR133)) (by decide) eR134)) (by decide) eR135)) (by decide) eR136)) (by decide) eR137)) (by decide) eR138)) (by decide) eR139)) (by decide) eR140)) (by decide) eR141)) (by decide) eR142)) (by decide) eR143)) (by decide) eR144)) (by decide) eR145)) (by decide) eR146)) (by decide) eR147)) (by decide) eR148)) (by decide) eR149)) (by decide) eR150)) (by decide) eR151) _ (Nat.le_refl _) i).1) (by decide) (by decide) (by decide) (Nat.le_of_ble_eq_true rfl) (Nat.le_of_ble_eq_true rfl) ?_
  refine g_putF (pc1 := 331) (v := .ref 440) (M' := M120) (R' := uR R151 401 58 (some 440)) d_Mod_init_328 rfl rfl ff_Mod_134 (fun _ => po_12_58 _) sh_401 (by decide) (fun _ => fvl_R_self) (fun _ q h => fvl_R_ne q h) (fun _ _ _ h => ent_neR h) ?_
  refine Wp.topR (fun R152 eR152 => ?_)
  refine g_aload_n (pc1 := 332) d_Mod_init_331 rfl 0 rfl ?_
  refine g_bipush (pc1 := 334) (v := 20) d_Mod_init_332 rfl (by decide) ?_
  refine g_newI (pc1 := 336) d_Mod_init_334 rfl ca_int sh_441 (fun i => ((Fz.wR (Fz.up (Fz.wR (Fz.up (Fz.wR (Fz.up (Fz.wR (Fz.up (Fz.wR (Fz.up (Fz.wR (Fz.up (Fz.wR (Fz.up (Fz.wR (Fz.up (Fz.wR (Fz.up (Fz.wR (Fz.up (Fz.wR (Fz.up (Fz.wR (Fz.up (Fz.wR (Fz.up (Fz.wR (Fz.up (Fz.wR (Fz.up (Fz.wR (Fz.up (Fz.wR (Fz.up (Fz.wR (Fz.up (Fz.wR (Fz.up (Fz.wR (Fz.up (Fz.wR (Fz.up (Fz.wR (Fz.up (Fz.wR (Fz.up (Fz.wR (Fz.up (Fz.wR (Fz.up (Fz.wR (Fz.up (Fz.wR (Fz.up (Fz.wR (Fz.up (Fz.wR (Fz.up (Fz.wR (Fz.up (Fz.wR (Fz.up (Fz.wR (Fz.up (Fz.wM (Fz.wR (Fz.up (Fz.wR (Fz.up (Fz.wR (Fz.up (Fz.wR (Fz.up (Fz.wR (Fz.up (Fz.wR (Fz.up (Fz.wR (Fz.up hF) (by decide) eR113)) (by decide) eR114)) (by decide) eR115)) (by decide) eR116)) (by decide) eR117)) (by decide) eR118)) (by decide) eR119) (by decide) eM120)) (by decide) eR121)) (by decide) eR122)) (by decide) eR123)) (by decide) eR124)) (by decide) eR125)) (by decide) eR126)) (by decide) eR127)) (by decide) eR128)) (by decide) eR129)) (by decide) eR130)) (by decide) eR131)) (by decide) eR132)) (by decide) eR133)) (by decide) eR134)) (by decide) eR135)) (by decide) eR136)) (by decide) eR137)) (by decide) eR138)) (by decide) eR139)) (by decide) eR140)) (by decide) eR141)) (by decide) eR142)) (by decide) eR143)) (by decide) eR144)) (by decide) eR145)) (by decide) eR146)) (by decide) eR147)) (by decide) eR148)) (by decide) eR149)) (by decide) eR150)) (by decide) eR151)) (by decide) eR152) _ (Nat.le_refl _) i).1) (by decide) (by decide) (by decide) (Nat.le_of_ble_eq_true rfl) (Nat.le_of_ble_eq_true rfl) ?_
  refine g_putF (pc1 := 339) (v := .ref 441) (M' := M120) (R' := uR R152 401 65 (some 441)) d_Mod_init_336 rfl rfl ff_Mod_137 (fun _ => po_12_65 _) sh_401 (by decide) (fun _ => fvl_R_self) (fun _ q h => fvl_R_ne q h) (fun _ _ _ h => ent_neR h) ?_
  refine Wp.topR (fun R153 eR153 => ?_)
  refine g_aload_n (pc1 := 340) d_Mod_init_339 rfl 0 rfl ?_
  refine g_bipush (pc1 := 342) (v := 20) d_Mod_init_340 rfl (by decide) ?_
  refine g_newI (pc1 := 344) d_Mod_init_342 rfl ca_int sh_442 (fun i => ((Fz.wR (Fz.up (Fz.wR (Fz.up (Fz.wR (Fz.up (Fz.wR (Fz.up (Fz.wR (Fz.up (Fz.wR (Fz.up (Fz.wR (Fz.up (Fz.wR (Fz.up (Fz.wR (Fz.up (Fz.wR (Fz.up (Fz.wR (Fz.up (Fz.wR (Fz.up (Fz.wR (Fz.up (Fz.wR (Fz.up (Fz.wR (Fz.up (Fz.wR (Fz.up (Fz.wR (Fz.up (Fz.wR (Fz.up (Fz.wR (Fz.up (Fz.wR (Fz.up (Fz.wR (Fz.up (Fz.wR (Fz.up (Fz.wR (Fz.up (Fz.wR (Fz.up (Fz.wR (Fz.up (Fz.wR (Fz.up (Fz.wR (Fz.up (Fz.wR (Fz.up (Fz.wR (Fz.up (Fz.wR (Fz.up (Fz.wR (Fz.up (Fz.wR (Fz.up (Fz.wR (Fz.up (Fz.wM (Fz.wR (Fz.up (Fz.wR (Fz.up (Fz.wR (Fz.up (Fz.wR (Fz.up (Fz.wR (Fz.up (Fz.wR (Fz.up (Fz.wR (Fz.up hF) (by decide) eR113)) (by decide) eR114)) (by decide) eR115)) (by decide) eR116)) (by decide) eR117)) (by decide) eR118)) (by decide) eR119) (by decide) eM120)) (by decide) eR121)) (by decide) eR122)) (by decide) eR123)) (by decide) eR124)) (by decide) eR125)) (by decide) eR126)) (by decide) eR127)) (by decide) eR128)) (by decide) eR129)) (by decide) eR130)) (by decide) eR131)) (by decide) eR132)) (by decide) eR133)) (by decide) eR134)) (by decide) eR135)) (by decide) eR136)) (by decide) eR137)) (by decide) eR138)) (by decide) eR139)) (by decide) eR140)) (by decide) eR141)) (by decide) eR142)) (by decide) eR143)) (by decide) eR144)) (by decide) eR145)) (by decide) eR146)) (by decide) eR147)) (by decide) eR148)) (by decide) eR149)) (by decide) eR150)) (by decide) eR151)) (by decide) eR152)) (by decide) eR153) _ (Nat.le_refl _) i).1) (by decide) (by decide) (by decide) (Nat.le_of_ble_eq_true rfl) (Nat.le_of_ble_eq_true rfl) ?_
  refine g_putF (pc1 := 347) (v := .ref 442) (M' := M120) (R' := uR R153 401 66 (some 442)) d_Mod_init_344 rfl rfl ff_Mod_140 (fun _ => po_12_66 _) sh_401 (by decide) (fun _ => fvl_R_self) (fun _ q h => fvl_R_ne q h) (fun _ _ _ h => ent_neR h) ?_
  refine Wp.topR (fun R154 eR154 => ?_)
  refine g_aload_n (pc1 := 348) d_Mod_init_347 rfl 0 rfl ?_
  refine g_bipush (pc1 := 350) (v := 20) d_Mod_init_348 rfl (by decide) ?_
  refine g_newI (pc1 := 352) d_Mod_init_350 rfl ca_int sh_443 (fun i => ((Fz.wR (Fz.up (Fz.wR (Fz.up (Fz.wR (Fz.up (Fz.wR (Fz.up (Fz.wR (Fz.up (Fz.wR (Fz.up (Fz.wR (Fz.up (Fz.wR (Fz.up (Fz.wR (Fz.up (Fz.wR (Fz.up (Fz.wR (Fz.up (Fz.wR (Fz.up (Fz.wR (Fz.up (Fz.wR (Fz.up (Fz.wR (Fz.up (Fz.wR (Fz.up (Fz.wR (Fz.up (Fz.wR (Fz.up (Fz.wR (Fz.up (Fz.wR (Fz.up (Fz.wR (Fz.up (Fz.wR (Fz.up (Fz.wR (Fz.up (Fz.wR (Fz.up (Fz.wR (Fz.up (Fz.wR (Fz.up (Fz.wR (Fz.up (Fz.wR (Fz.up (Fz.wR (Fz.up (Fz.wR (Fz.up (Fz.wR (Fz.up (Fz.wR (Fz.up (Fz.wR (Fz.up (Fz.wR (Fz.up (Fz.wM (Fz.wR (Fz.up (Fz.wR (Fz.up (Fz.wR (Fz.up (Fz.wR (Fz.up (Fz.wR (Fz.up (Fz.wR (Fz.up (Fz.wR (Fz.up hF) (by decide) eR113)) (by decide) eR114)) (by decide) eR115)) (by decide) eR116)) (by decide) eR117)) (by decide) eR118)) (by decide) eR119) (by decide) eM120)) (by decide) eR121)) (by decide) eR122)) (by decide) eR123)) (by decide) eR124)) (by decide) eR125)) (by decide) eR126)) (by decide) eR127)) (by decide) eR128)) (by decide) eR129)) (by decide) eR130)) (by decide) eR131)) (by decide) eR132)) (by decide) eR133)) (by decide) eR134)) (by decide) eR135)) (by decide) eR136)) (by decide) eR137)) (by decide) eR138)) (by decide) eR139)) (by decide) eR140)) (by decide) eR141)) (by decide) eR142)) (by decide) eR143)) (by decide) eR144)) (by decide) eR145)) (by decide) eR146)) (by decide) eR147)) (by decide) eR148)) (by decide) eR149)) (by decide) eR150)) (by decide) eR151)) (by decide) eR152)) (by decide) eR153)) (by decide) eR154) _ (Nat.le_refl _) i).1) (by decide) (by decide) (by decide) (Nat.le_of_ble_eq_true rfl) (Nat.le_of_ble_eq_true rfl) ?_
  refine g_putF (pc1 := 355) (v := .ref 443) (M' := M120) (R' := uR R154 401 67 (some 443)) d_Mod_init_352 rfl rfl ff_Mod_143 (fun _ => po_12_67 _) sh_401 (by decide) (fun _ => fvl_R_self) (fun _ q h => fvl_R_ne q h) (fun _ _ _ h => ent_neR h) ?_
  refine Wp.topR (fun R155 eR155 => ?_)
  refine g_aload_n (pc1 := 356) d_Mod_init_355 rfl 0 rfl ?_
  refine g_sipush (pc1 := 359) (v := 3000) d_Mod_init_356 rfl (by decide) ?_
  refine g_newI (pc1 := 361) d_Mod_init_359 rfl ca_int sh_444 (fun i => ((Fz.wR (Fz.up (Fz.wR (Fz.up (Fz.wR (Fz.up (Fz.wR (Fz.up (Fz.wR (Fz.up (Fz.wR (Fz.up (Fz.wR (Fz.up (Fz.wR (Fz.up (Fz.wR (Fz.up (Fz.wR (Fz.up (Fz.wR (Fz.up (Fz.wR (Fz.up (Fz.wR (Fz.up (Fz.wR (Fz.up (Fz.wR (Fz.up (Fz.wR (Fz.up (Fz.wR (Fz.up (Fz.wR (Fz.up (Fz.wR (Fz.up (Fz.wR (Fz.up (Fz.wR (Fz.up (Fz.wR (Fz.up (Fz.wR (Fz.up (Fz.wR (Fz.up (Fz.wR (Fz.up (Fz.wR (Fz.up (Fz.wR (Fz.up (Fz.wR (Fz.up (Fz.wR (Fz.up (Fz.wR (Fz.up (Fz.wR (Fz.up (Fz.wR (Fz.up (Fz.wR (Fz.up (Fz.wR (Fz.up (Fz.wR (Fz.up (Fz.wM (Fz.wR (Fz.up (Fz.wR (Fz.up (Fz.wR (Fz.up (Fz.wR (Fz.up (Fz.wR (Fz.up (Fz.wR (Fz.up (Fz.wR (Fz.up hF) (by decide) eR113)) (by decide) eR114)) (by decide) eR115)) (by decide) eR116)) (by decide) eR117)) (by decide) eR118)) (by decide) eR119) (by decide) eM120)) (by decide) eR121)) (by decide) eR122)) (by decide) eR123)) (by decide) eR124)) (by decide) eR125)) (by decide) eR126)) (by decide) eR127)) (by decide) eR128)) (by decide) eR129)) (by decide) eR130)) (by decide) eR131)) (by decide) eR132)) (by decide) eR133)) (by decide) eR134)) (by decide) eR135)) (by decide) eR136)) (by decide) eR137)) (by decide) eR138)) (by decide) eR139)) (by decide) eR140)) (by decide) eR141)) (by decide) eR142)) (by decide) eR143)) (by decide) eR144)) (by decide) eR145)) (by decide) eR146)) (by decide) eR147)) (by decide) eR148)) (by decide) eR149)) (by decide) eR150)) (by decide) eR151)) (by decide) eR152)) (by decide) eR153)) (by decide) eR154)) (by decide) eR155) _ (Nat.le_refl _) i).1) (by decide) (by decide) (by decide) (Nat.le_of_ble_eq_true rfl) (Nat.le_of_ble_eq_true rfl) ?_
  refine g_putF (pc1 := 364) (v := .ref 444) (M' := M120) (R' := uR R155 401 68 (some 444)) d_Mod_init_361 rfl rfl ff_Mod_146 (fun _ => po_12_68 _) sh_401 (by decide) (fun _ => fvl_R_self) (fun _ q h => fvl_R_ne q h) (fun _ _ _ h => ent_neR h) ?_
  refine Wp.topR (fun R156 eR156 => ?_)
  refine g_aload_n (pc1 := 365) d_Mod_init_364 rfl 0 rfl ?_
  refine g_iconst (pc1 := 366) (v := 3) d_Mod_init_365 rfl (by decide) ?_
  refine g_newZ (pc1 := 368) d_Mod_init_366 rfl ca_boolean sh_445 (fun i => ((Fz.wR (Fz.up (Fz.wR (Fz.up (Fz.wR (Fz.up (Fz.wR (Fz.up (Fz.wR (Fz.up (Fz.wR (Fz.up (Fz.wR (Fz.up (Fz.wR (Fz.up (Fz.wR (Fz.up (Fz.wR (Fz.up (Fz.wR (Fz.up (Fz.wR (Fz.up (Fz.wR (Fz.up (Fz.wR (Fz.up (Fz.wR (Fz.up (Fz.wR (Fz.up (Fz.wR (Fz.up (Fz.wR (Fz.up (Fz.wR (Fz.up (Fz.wR (Fz.up (Fz.wR (Fz.up (Fz.wR (Fz.up (Fz.wR (Fz.up (Fz.wR (Fz.up (Fz.wR (Fz.up (Fz.wR (Fz.up (Fz.wR (Fz.up (Fz.wR (Fz.up (Fz.wR (Fz.up (Fz.wR (Fz.up (Fz.wR (Fz.up (Fz.wR (Fz.up (Fz.wR (Fz.up (Fz.wR (Fz.up (Fz.wR (Fz.up (Fz.wR (Fz.up (Fz.wM (Fz.wR (Fz.up (Fz.wR (Fz.up (Fz.wR (Fz.up (Fz.wR (Fz.up (Fz.wR (Fz.up (Fz.wR (Fz.up (Fz.wR (Fz.up hF) (by decide) eR113)) (by decide) eR114)) (by decide) eR115)) (by decide) eR116)) (by decide) eR117)) (by decide) eR118)) (by decide) eR119) (by decide) eM120)) (by decide) eR121)) (by decide) eR122)) (by decide) eR123)) (by decide) eR124)) (by decide) eR125)) (by decide) eR126)) (by decide) eR127)) (by decide) eR128)) (by decide) eR129)) (by decide) eR130)) (by decide) eR131)) (by decide) eR132)) (by decide) eR133)) (by decide) eR134)) (by decide) eR135)) (by decide) eR136)) (by decide) eR137)) (by decide) eR138)) (by decide) eR139)) (by decide) eR140)) (by decide) eR141)) (by decide) eR142)) (by decide) eR143)) (by decide) eR144)) (by decide) eR145)) (by decide) eR146)) (by decide) eR147)) (by decide) eR148)) (by decide) eR149)) (by decide) eR150)) (by decide) eR151)) (by decide) eR152)) (by decide) eR153)) (by decide) eR154)) (by decide) eR155)) (by decide) eR156) _ (Nat.le_refl _) i).1) (by decide) (by decide) (by decide) (Nat.le_of_ble_eq_true rfl) (Nat.le_of_ble_eq_true rfl) ?_
  refine g_putF (pc1 := 371) (v := .ref 445) (M' := M120) (R' := uR R156 401 69 (some 445)) d_Mod_init_368 rfl rfl ff_Mod_149 (fun _ => po_12_69 _) sh_401 (by decide) (fun _ => fvl_R_self) (fun _ q h => fvl_R_ne q h) (fun _ _ _ h => ent_neR h) ?_
  refine Wp.topR (fun R157 eR157 => ?_)
  refine g_aload_n (pc1 := 372) d_Mod_init_371 rfl 0 rfl ?_
  refine g_bipush (pc1 := 374) (v := 114) d_Mod_init_372 rfl (by decide) ?_
  refine g_newI (pc1 := 376) d_Mod_init_374 rfl ca_int sh_446 (fun i => ((Fz.wR (Fz.up (Fz.wR (Fz.up (Fz.wR (Fz.up (Fz.wR (Fz.up (Fz.wR (Fz.up (Fz.wR (Fz.up (Fz.wR (Fz.up (Fz.wR (Fz.up (Fz.wR (Fz.up (Fz.wR (Fz.up (Fz.wR (Fz.up (Fz.wR (Fz.up (Fz.wR (Fz.up (Fz.wR (Fz.up (Fz.wR (Fz.up (Fz.wR (Fz.up (Fz.wR (Fz.up (Fz.wR (Fz.up (Fz.wR (Fz.up (Fz.wR (Fz.up (Fz.wR (Fz.up (Fz.wR (Fz.up (Fz.wR (Fz.up (Fz.wR (Fz.up (Fz.wR (Fz.up (Fz.wR (Fz.up (Fz.wR (Fz.up (Fz.wR (Fz.up (Fz.wR (Fz.up (Fz.wR (Fz.up (Fz.wR (Fz.up (Fz.wR (Fz.up (Fz.wR (Fz.up (Fz.wR (Fz.up (Fz.wR (Fz.up (Fz.wR (Fz.up (Fz.wR (Fz.up (Fz.wM (Fz.wR (Fz.up (Fz.wR (Fz.up (Fz.wR (Fz.up (Fz.wR (Fz.up (Fz.wR (Fz.up (Fz.wR (Fz.up (Fz.wR (Fz.up hF) (by decide) eR113)) (by decide) eR114)) (by decide) eR115)) (by decide) eR116)) (by decide) eR117)) (by decide) eR118)) (by decide) eR119) (by decide) eM120)) (by decide) eR121)) (by decide) eR122)) (by decide) eR123)) (by decide) eR124)) (by decide) eR125)) (by decide) eR126)) (by decide) eR127)) (by decide) eR128)) (by decide) eR129)) (by decide) eR130)) (by decide) eR131)) (by decide) eR132)) (by decide) eR133)) (by decide) eR134)) (by decide) eR135)) (by decide) eR136)) (by decide) eR137)) (by decide) eR138)) (by decide) eR139)) (by decide) eR140)) (by decide) eR141)) (by decide) eR142)) (by decide) eR143)) (by decide) eR144)) (by decide) eR145)) (by decide) eR146)) (by decide) eR147)) (by decide) eR148)) (by decide) eR149)) (by decide) eR150)) (by decide) eR151)) (by decide) eR152)) (by decide) eR153)) (by decide) eR154)) (by decide) eR155)) (by decide) eR156)) (by decide) eR157) _ (Nat.le_refl _) i).1) (by decide) (by decide) (by decide) (Nat.le_of_ble_eq_true rfl) (Nat.le_of_ble_eq_true rfl) ?_
  refine g_putF (pc1 := 379) (v := .ref 446) (M' := M120) (R' := uR R157 401 70 (some 446)) d_Mod_init_376 rfl rfl ff_Mod_152 (fun _ => po_12_70 _) sh_401 (by decide) (fun _ => fvl_R_self) (fun _ q h => fvl_R_ne q h) (fun _ _ _ h => ent_neR h) ?_
  refine Wp.topR (fun R158 eR158 => ?_)
  refine Wp.eqR (R' := rf 12) (by have e : R158 = kR_Mod_init R := (by subst_vars; rfl); rw [e]; exact hR) (by decide) ?_
  refine g_aload_n (pc1 := 380) d_Mod_init_379 rfl 0 rfl ?_
  refine g_iconst (pc1 := 381) (v := nI 0) d_Mod_init_380 rfl (by decide) ?_
  refine g_callV (E' := (0, 0, 447)) (pc1 := 384) (As := [.int (nI 0)]) (rest := []) d_Mod_init_381 rfl mo_Mod_155 mi_Mod_plain mv_Mod_plain rfl sh_401 (by decide) (by decide) rfl rfl (Nat.le_of_ble_eq_true rfl) ⟨Nat.le_of_ble_eq_true rfl, Nat.le_of_ble_eq_true rfl⟩ rfl ?_
  refine x_Mod_plain_0 ?_
  dsimp only [psh]
  refine Wp.topM (fun M159 eM159 => ?_)
  refine g_aload_n (pc1 := 385) d_Mod_init_384 rfl 0 rfl ?_
  refine g_getr (pc1 := 388) d_Mod_init_385 rfl ⟨_, fo_Mod_34⟩ sh_401 (by decide) (rf_401_9 12) ?_
  refine g_iconst (pc1 := 389) (v := nI 0) d_Mod_init_388 rfl (by decide) ?_
  refine g_bipush (pc1 := 391) (v := nI 102) d_Mod_init_389 rfl (by decide) ?_
  refine g_bipush (pc1 := 393) (v := nI 111) d_Mod_init_391 rfl (by decide) ?_
  refine g_bipush (pc1 := 395) (v := nI 111) d_Mod_init_393 rfl (by decide) ?_
  refine g_bipush (pc1 := 397) (v := nI 100) d_Mod_init_395 rfl (by decide) ?_
  refine g_iconst (pc1 := 398) (v := nI 0) d_Mod_init_397 rfl (by decide) ?_
  refine g_iconst (pc1 := 399) (v := nI 0) d_Mod_init_398 rfl (by decide) ?_
  refine g_iconst (pc1 := 400) (v := nI 0) d_Mod_init_399 rfl (by decide) ?_
  refine g_callS (E' := (0, 0, 447)) (pc1 := 403) (As := [.int (nI 102), .int (nI 111), .int (nI 111), .int (nI 100), .int (nI 0), .int (nI 0), .int (nI 0)]) (rest := [.int (nI 0), .ref 408]) d_Mod_init_400 rfl mo_Mod_159 ms_Mod_word (by decide) rfl rfl (Nat.le_of_ble_eq_true rfl) ⟨Nat.le_of_ble_eq_true rfl, Nat.le_of_ble_eq_true rfl⟩ rfl ?_
  refine x_Mod_word ?_
  dsimp only [psh]
  refine Wp.vall (y := 129442) (by decide +kernel) ?_
  refine g_last (pc1 := 404) d_Mod_init_403 rfl sh_408 (by decide) (vp_in_nI (n := 0) (by omega) (by decide)) ?_
  rw [nI_clamp (n := 0) (by omega)]
  refine Wp.topL (fun L160 eL160 => ?_)
  refine g_aload_n (pc1 := 405) d_Mod_init_404 rfl 0 rfl ?_
  refine g_getr (pc1 := 408) d_Mod_init_405 rfl ⟨_, fo_Mod_34⟩ sh_401 (by decide) (rf_401_9 12) ?_
  refine g_iconst (pc1 := 409) (v := nI 1) d_Mod_init_408 rfl (by decide) ?_
  refine g_bipush (pc1 := 411) (v := nI 100) d_Mod_init_409 rfl (by decide) ?_
  refine g_bipush (pc1 := 413) (v := nI 105) d_Mod_init_411 rfl (by decide) ?_
  refine g_bipush (pc1 := 415) (v := nI 115) d_Mod_init_413 rfl (by decide) ?_
  refine g_bipush (pc1 := 417) (v := nI 104) d_Mod_init_415 rfl (by decide) ?_
  refine g_iconst (pc1 := 418) (v := nI 0) d_Mod_init_417 rfl (by decide) ?_
  refine g_iconst (pc1 := 419) (v := nI 0) d_Mod_init_418 rfl (by decide) ?_
  refine g_iconst (pc1 := 420) (v := nI 0) d_Mod_init_419 rfl (by decide) ?_
  refine g_callS (E' := (0, 0, 447)) (pc1 := 423) (As := [.int (nI 100), .int (nI 105), .int (nI 115), .int (nI 104), .int (nI 0), .int (nI 0), .int (nI 0)]) (rest := [.int (nI 1), .ref 408]) d_Mod_init_420 rfl mo_Mod_159 ms_Mod_word (by decide) rfl rfl (Nat.le_of_ble_eq_true rfl) ⟨Nat.le_of_ble_eq_true rfl, Nat.le_of_ble_eq_true rfl⟩ rfl ?_
  refine x_Mod_word ?_
  dsimp only [psh]
  refine Wp.vall (y := 85814) (by decide +kernel) ?_
  refine g_last (pc1 := 424) d_Mod_init_423 rfl sh_408 (by decide) (vp_in_nI (n := 1) (by omega) (by decide)) ?_
  rw [nI_clamp (n := 1) (by omega)]
  refine Wp.topL (fun L161 eL161 => ?_)
  refine g_aload_n (pc1 := 425) d_Mod_init_424 rfl 0 rfl ?_
  refine g_getr (pc1 := 428) d_Mod_init_425 rfl ⟨_, fo_Mod_34⟩ sh_401 (by decide) (rf_401_9 12) ?_
  refine g_iconst (pc1 := 429) (v := nI 2) d_Mod_init_428 rfl (by decide) ?_
  refine g_bipush (pc1 := 431) (v := nI 103) d_Mod_init_429 rfl (by decide) ?_
  refine g_bipush (pc1 := 433) (v := nI 117) d_Mod_init_431 rfl (by decide) ?_
  refine g_bipush (pc1 := 435) (v := nI 101) d_Mod_init_433 rfl (by decide) ?_
  refine g_bipush (pc1 := 437) (v := nI 115) d_Mod_init_435 rfl (by decide) ?_
  refine g_bipush (pc1 := 439) (v := nI 116) d_Mod_init_437 rfl (by decide) ?_
  refine g_iconst (pc1 := 440) (v := nI 0) d_Mod_init_439 rfl (by decide) ?_
  refine g_iconst (pc1 := 441) (v := nI 0) d_Mod_init_440 rfl (by decide) ?_
  refine g_callS (E' := (0, 0, 447)) (pc1 := 444) (As := [.int (nI 103), .int (nI 117), .int (nI 101), .int (nI 115), .int (nI 116), .int (nI 0), .int (nI 0)]) (rest := [.int (nI 2), .ref 408]) d_Mod_init_441 rfl mo_Mod_159 ms_Mod_word (by decide) rfl rfl (Nat.le_of_ble_eq_true rfl) ⟨Nat.le_of_ble_eq_true rfl, Nat.le_of_ble_eq_true rfl⟩ rfl ?_
  refine x_Mod_word ?_
  dsimp only [psh]
  refine Wp.vall (y := 4137608) (by decide +kernel) ?_
  refine g_last (pc1 := 445) d_Mod_init_444 rfl sh_408 (by decide) (vp_in_nI (n := 2) (by omega) (by decide)) ?_
  rw [nI_clamp (n := 2) (by omega)]
  refine Wp.topL (fun L162 eL162 => ?_)
  refine g_aload_n (pc1 := 446) d_Mod_init_445 rfl 0 rfl ?_
  refine g_getr (pc1 := 449) d_Mod_init_446 rfl ⟨_, fo_Mod_34⟩ sh_401 (by decide) (rf_401_9 12) ?_
  refine g_iconst (pc1 := 450) (v := nI 3) d_Mod_init_449 rfl (by decide) ?_
  refine g_bipush (pc1 := 452) (v := nI 100) d_Mod_init_450 rfl (by decide) ?_
  refine g_bipush (pc1 := 454) (v := nI 101) d_Mod_init_452 rfl (by decide) ?_
  refine g_bipush (pc1 := 456) (v := nI 101) d_Mod_init_454 rfl (by decide) ?_
  refine g_bipush (pc1 := 458) (v := nI 100) d_Mod_init_456 rfl (by decide) ?_
  refine g_iconst (pc1 := 459) (v := nI 0) d_Mod_init_458 rfl (by decide) ?_
  refine g_iconst (pc1 := 460) (v := nI 0) d_Mod_init_459 rfl (by decide) ?_
  refine g_iconst (pc1 := 461) (v := nI 0) d_Mod_init_460 rfl (by decide) ?_
  refine g_callS (E' := (0, 0, 447)) (pc1 := 464) (As := [.int (nI 100), .int (nI 101), .int (nI 101), .int (nI 100), .int (nI 0), .int (nI 0), .int (nI 0)]) (rest := [.int (nI 3), .ref 408]) d_Mod_init_461 rfl mo_Mod_159 ms_Mod_word (by decide) rfl rfl (Nat.le_of_ble_eq_true rfl) ⟨Nat.le_of_ble_eq_true rfl, Nat.le_of_ble_eq_true rfl⟩ rfl ?_
  refine x_Mod_word ?_
  dsimp only [psh]
  refine Wp.vall (y := 82516) (by decide +kernel) ?_
  refine g_last (pc1 := 465) d_Mod_init_464 rfl sh_408 (by decide) (vp_in_nI (n := 3) (by omega) (by decide)) ?_
  rw [nI_clamp (n := 3) (by omega)]
  refine Wp.topL (fun L163 eL163 => ?_)
  refine g_aload_n (pc1 := 466) d_Mod_init_465 rfl 0 rfl ?_
  refine g_getr (pc1 := 469) d_Mod_init_466 rfl ⟨_, fo_Mod_34⟩ sh_401 (by decide) (rf_401_9 12) ?_
  refine g_iconst (pc1 := 470) (v := nI 4) d_Mod_init_469 rfl (by decide) ?_
  refine g_bipush (pc1 := 472) (v := nI 102) d_Mod_init_470 rfl (by decide) ?_
  refine g_bipush (pc1 := 474) (v := nI 111) d_Mod_init_472 rfl (by decide) ?_
  refine g_bipush (pc1 := 476) (v := nI 114) d_Mod_init_474 rfl (by decide) ?_
  refine g_bipush (pc1 := 478) (v := nI 99) d_Mod_init_476 rfl (by decide) ?_
  refine g_bipush (pc1 := 480) (v := nI 101) d_Mod_init_478 rfl (by decide) ?_
  refine g_iconst (pc1 := 481) (v := nI 0) d_Mod_init_480 rfl (by decide) ?_
  refine g_iconst (pc1 := 482) (v := nI 0) d_Mod_init_481 rfl (by decide) ?_
  refine g_callS (E' := (0, 0, 447)) (pc1 := 485) (As := [.int (nI 102), .int (nI 111), .int (nI 114), .int (nI 99), .int (nI 101), .int (nI 0), .int (nI 0)]) (rest := [.int (nI 4), .ref 408]) d_Mod_init_482 rfl mo_Mod_159 ms_Mod_word (by decide) rfl rfl (Nat.le_of_ble_eq_true rfl) ⟨Nat.le_of_ble_eq_true rfl, Nat.le_of_ble_eq_true rfl⟩ rfl ?_
  refine x_Mod_word ?_
  dsimp only [psh]
  refine Wp.vall (y := 3497099) (by decide +kernel) ?_
  refine g_last (pc1 := 486) d_Mod_init_485 rfl sh_408 (by decide) (vp_in_nI (n := 4) (by omega) (by decide)) ?_
  rw [nI_clamp (n := 4) (by omega)]
  refine Wp.topL (fun L164 eL164 => ?_)
  refine g_aload_n (pc1 := 487) d_Mod_init_486 rfl 0 rfl ?_
  refine g_getr (pc1 := 490) d_Mod_init_487 rfl ⟨_, fo_Mod_34⟩ sh_401 (by decide) (rf_401_9 12) ?_
  refine g_iconst (pc1 := 491) (v := nI 5) d_Mod_init_490 rfl (by decide) ?_
  refine g_bipush (pc1 := 493) (v := nI 98) d_Mod_init_491 rfl (by decide) ?_
  refine g_bipush (pc1 := 495) (v := nI 105) d_Mod_init_493 rfl (by decide) ?_
  refine g_bipush (pc1 := 497) (v := nI 110) d_Mod_init_495 rfl (by decide) ?_
  refine g_bipush (pc1 := 499) (v := nI 100) d_Mod_init_497 rfl (by decide) ?_
  refine g_bipush (pc1 := 501) (v := nI 115) d_Mod_init_499 rfl (by decide) ?_
  refine g_iconst (pc1 := 502) (v := nI 0) d_Mod_init_501 rfl (by decide) ?_
  refine g_iconst (pc1 := 503) (v := nI 0) d_Mod_init_502 rfl (by decide) ?_
  refine g_callS (E' := (0, 0, 447)) (pc1 := 506) (As := [.int (nI 98), .int (nI 105), .int (nI 110), .int (nI 100), .int (nI 115), .int (nI 0), .int (nI 0)]) (rest := [.int (nI 5), .ref 408]) d_Mod_init_503 rfl mo_Mod_159 ms_Mod_word (by decide) rfl rfl (Nat.le_of_ble_eq_true rfl) ⟨Nat.le_of_ble_eq_true rfl, Nat.le_of_ble_eq_true rfl⟩ rfl ?_
  refine x_Mod_word ?_
  dsimp only [psh]
  refine Wp.vall (y := 1250362) (by decide +kernel) ?_
  refine g_last (pc1 := 507) d_Mod_init_506 rfl sh_408 (by decide) (vp_in_nI (n := 5) (by omega) (by decide)) ?_
  rw [nI_clamp (n := 5) (by omega)]
  refine Wp.topL (fun L165 eL165 => ?_)
  refine g_aload_n (pc1 := 508) d_Mod_init_507 rfl 0 rfl ?_
  refine g_getr (pc1 := 511) d_Mod_init_508 rfl ⟨_, fo_Mod_34⟩ sh_401 (by decide) (rf_401_9 12) ?_
  refine g_bipush (pc1 := 513) (v := nI 6) d_Mod_init_511 rfl (by decide) ?_
  refine g_bipush (pc1 := 515) (v := nI 102) d_Mod_init_513 rfl (by decide) ?_
  refine g_bipush (pc1 := 517) (v := nI 105) d_Mod_init_515 rfl (by decide) ?_
  refine g_bipush (pc1 := 519) (v := nI 108) d_Mod_init_517 rfl (by decide) ?_
  refine g_bipush (pc1 := 521) (v := nI 108) d_Mod_init_519 rfl (by decide) ?_
  refine g_bipush (pc1 := 523) (v := nI 115) d_Mod_init_521 rfl (by decide) ?_
  refine g_iconst (pc1 := 524) (v := nI 0) d_Mod_init_523 rfl (by decide) ?_
  refine g_iconst (pc1 := 525) (v := nI 0) d_Mod_init_524 rfl (by decide) ?_
  refine g_callS (E' := (0, 0, 447)) (pc1 := 528) (As := [.int (nI 102), .int (nI 105), .int (nI 108), .int (nI 108), .int (nI 115), .int (nI 0), .int (nI 0)]) (rest := [.int (nI 6), .ref 408]) d_Mod_init_525 rfl mo_Mod_159 ms_Mod_word (by decide) rfl rfl (Nat.le_of_ble_eq_true rfl) ⟨Nat.le_of_ble_eq_true rfl, Nat.le_of_ble_eq_true rfl⟩ rfl ?_
  refine x_Mod_word ?_
  dsimp only [psh]
  refine Wp.vall (y := 3374884) (by decide +kernel) ?_
  refine g_last (pc1 := 529) d_Mod_init_528 rfl sh_408 (by decide) (vp_in_nI (n := 6) (by omega) (by decide)) ?_
  rw [nI_clamp (n := 6) (by omega)]
  refine Wp.topL (fun L166 eL166 => ?_)
  refine g_aload_n (pc1 := 530) d_Mod_init_529 rfl 0 rfl ?_
  refine g_getr (pc1 := 533) d_Mod_init_530 rfl ⟨_, fo_Mod_34⟩ sh_401 (by decide) (rf_401_9 12) ?_
  refine g_bipush (pc1 := 535) (v := nI 7) d_Mod_init_533 rfl (by decide) ?_
  refine g_bipush (pc1 := 537) (v := nI 115) d_Mod_init_535 rfl (by decide) ?_
  refine g_bipush (pc1 := 539) (v := nI 108) d_Mod_init_537 rfl (by decide) ?_
  refine g_bipush (pc1 := 541) (v := nI 105) d_Mod_init_539 rfl (by decide) ?_
  refine g_bipush (pc1 := 543) (v := nI 112) d_Mod_init_541 rfl (by decide) ?_
  refine g_bipush (pc1 := 545) (v := nI 115) d_Mod_init_543 rfl (by decide) ?_
  refine g_iconst (pc1 := 546) (v := nI 0) d_Mod_init_545 rfl (by decide) ?_
  refine g_iconst (pc1 := 547) (v := nI 0) d_Mod_init_546 rfl (by decide) ?_
  refine g_callS (E' := (0, 0, 447)) (pc1 := 550) (As := [.int (nI 115), .int (nI 108), .int (nI 105), .int (nI 112), .int (nI 115), .int (nI 0), .int (nI 0)]) (rest := [.int (nI 7), .ref 408]) d_Mod_init_547 rfl mo_Mod_159 ms_Mod_word (by decide) rfl rfl (Nat.le_of_ble_eq_true rfl) ⟨Nat.le_of_ble_eq_true rfl, Nat.le_of_ble_eq_true rfl⟩ rfl ?_
  refine x_Mod_word ?_
  dsimp only [psh]
  refine Wp.vall (y := 10340587) (by decide +kernel) ?_
  refine g_last (pc1 := 551) d_Mod_init_550 rfl sh_408 (by decide) (vp_in_nI (n := 7) (by omega) (by decide)) ?_
  rw [nI_clamp (n := 7) (by omega)]
  refine Wp.topL (fun L167 eL167 => ?_)
  refine g_aload_n (pc1 := 552) d_Mod_init_551 rfl 0 rfl ?_
  refine g_getr (pc1 := 555) d_Mod_init_552 rfl ⟨_, fo_Mod_34⟩ sh_401 (by decide) (rf_401_9 12) ?_
  refine g_bipush (pc1 := 557) (v := nI 8) d_Mod_init_555 rfl (by decide) ?_
  refine g_bipush (pc1 := 559) (v := nI 115) d_Mod_init_557 rfl (by decide) ?_
  refine g_bipush (pc1 := 561) (v := nI 101) d_Mod_init_559 rfl (by decide) ?_
  refine g_bipush (pc1 := 563) (v := nI 101) d_Mod_init_561 rfl (by decide) ?_
  refine g_bipush (pc1 := 565) (v := nI 100) d_Mod_init_563 rfl (by decide) ?_
  refine g_iconst (pc1 := 566) (v := nI 0) d_Mod_init_565 rfl (by decide) ?_
  refine g_iconst (pc1 := 567) (v := nI 0) d_Mod_init_566 rfl (by decide) ?_
  refine g_iconst (pc1 := 568) (v := nI 0) d_Mod_init_567 rfl (by decide) ?_
  refine g_callS (E' := (0, 0, 447)) (pc1 := 571) (As := [.int (nI 115), .int (nI 101), .int (nI 101), .int (nI 100), .int (nI 0), .int (nI 0), .int (nI 0)]) (rest := [.int (nI 8), .ref 408]) d_Mod_init_568 rfl mo_Mod_159 ms_Mod_word (by decide) rfl rfl (Nat.le_of_ble_eq_true rfl) ⟨Nat.le_of_ble_eq_true rfl, Nat.le_of_ble_eq_true rfl⟩ rfl ?_
  refine x_Mod_word ?_
  dsimp only [psh]
  refine Wp.vall (y := 377761) (by decide +kernel) ?_
  refine g_last (pc1 := 572) d_Mod_init_571 rfl sh_408 (by decide) (vp_in_nI (n := 8) (by omega) (by decide)) ?_
  rw [nI_clamp (n := 8) (by omega)]
  refine Wp.topL (fun L168 eL168 => ?_)
  refine g_aload_n (pc1 := 573) d_Mod_init_572 rfl 0 rfl ?_
  refine g_getr (pc1 := 576) d_Mod_init_573 rfl ⟨_, fo_Mod_34⟩ sh_401 (by decide) (rf_401_9 12) ?_
  refine g_bipush (pc1 := 578) (v := nI 9) d_Mod_init_576 rfl (by decide) ?_
  refine g_bipush (pc1 := 580) (v := nI 105) d_Mod_init_578 rfl (by decide) ?_
  refine g_bipush (pc1 := 582) (v := nI 102) d_Mod_init_580 rfl (by decide) ?_
  refine g_iconst (pc1 := 583) (v := nI 0) d_Mod_init_582 rfl (by decide) ?_
  refine g_iconst (pc1 := 584) (v := nI 0) d_Mod_init_583 rfl (by decide) ?_
  refine g_iconst (pc1 := 585) (v := nI 0) d_Mod_init_584 rfl (by decide) ?_
  refine g_iconst (pc1 := 586) (v := nI 0) d_Mod_init_585 rfl (by decide) ?_
  refine g_iconst (pc1 := 587) (v := nI 0) d_Mod_init_586 rfl (by decide) ?_
  refine g_callS (E' := (0, 0, 447)) (pc1 := 590) (As := [.int (nI 105), .int (nI 102), .int (nI 0), .int (nI 0), .int (nI 0), .int (nI 0), .int (nI 0)]) (rest := [.int (nI 9), .ref 408]) d_Mod_init_587 rfl mo_Mod_159 ms_Mod_word (by decide) rfl rfl (Nat.le_of_ble_eq_true rfl) ⟨Nat.le_of_ble_eq_true rfl, Nat.le_of_ble_eq_true rfl⟩ rfl ?_
  refine x_Mod_word ?_
  dsimp only [psh]
  refine Wp.vall (y := 249) (by decide +kernel) ?_
  refine g_last (pc1 := 591) d_Mod_init_590 rfl sh_408 (by decide) (vp_in_nI (n := 9) (by omega) (by decide)) ?_
  rw [nI_clamp (n := 9) (by omega)]
  refine Wp.topL (fun L169 eL169 => ?_)
  refine g_aload_n (pc1 := 592) d_Mod_init_591 rfl 0 rfl ?_
  refine g_getr (pc1 := 595) d_Mod_init_592 rfl ⟨_, fo_Mod_34⟩ sh_401 (by decide) (rf_401_9 12) ?_
  refine g_bipush (pc1 := 597) (v := nI 10) d_Mod_init_595 rfl (by decide) ?_
  refine g_bipush (pc1 := 599) (v := nI 116) d_Mod_init_597 rfl (by decide) ?_
  refine g_bipush (pc1 := 601) (v := nI 104) d_Mod_init_599 rfl (by decide) ?_
  refine g_bipush (pc1 := 603) (v := nI 101) d_Mod_init_601 rfl (by decide) ?_
  refine g_bipush (pc1 := 605) (v := nI 110) d_Mod_init_603 rfl (by decide) ?_
  refine g_iconst (pc1 := 606) (v := nI 0) d_Mod_init_605 rfl (by decide) ?_
  refine g_iconst (pc1 := 607) (v := nI 0) d_Mod_init_606 rfl (by decide) ?_
  refine g_iconst (pc1 := 608) (v := nI 0) d_Mod_init_607 rfl (by decide) ?_
  refine g_callS (E' := (0, 0, 447)) (pc1 := 611) (As := [.int (nI 116), .int (nI 104), .int (nI 101), .int (nI 110), .int (nI 0), .int (nI 0), .int (nI 0)]) (rest := [.int (nI 10), .ref 408]) d_Mod_init_608 rfl mo_Mod_159 ms_Mod_word (by decide) rfl rfl (Nat.le_of_ble_eq_true rfl) ⟨Nat.le_of_ble_eq_true rfl, Nat.le_of_ble_eq_true rfl⟩ rfl ?_
  refine x_Mod_word ?_
  dsimp only [psh]
  refine Wp.vall (y := 399641) (by decide +kernel) ?_
  refine g_last (pc1 := 612) d_Mod_init_611 rfl sh_408 (by decide) (vp_in_nI (n := 10) (by omega) (by decide)) ?_
  rw [nI_clamp (n := 10) (by omega)]
  refine Wp.topL (fun L170 eL170 => ?_)
  refine g_aload_n (pc1 := 613) d_Mod_init_612 rfl 0 rfl ?_
  refine g_getr (pc1 := 616) d_Mod_init_613 rfl ⟨_, fo_Mod_34⟩ sh_401 (by decide) (rf_401_9 12) ?_
  refine g_bipush (pc1 := 618) (v := nI 11) d_Mod_init_616 rfl (by decide) ?_
  refine g_bipush (pc1 := 620) (v := nI 101) d_Mod_init_618 rfl (by decide) ?_
  refine g_bipush (pc1 := 622) (v := nI 108) d_Mod_init_620 rfl (by decide) ?_
  refine g_bipush (pc1 := 624) (v := nI 115) d_Mod_init_622 rfl (by decide) ?_
  refine g_bipush (pc1 := 626) (v := nI 101) d_Mod_init_624 rfl (by decide) ?_
  refine g_iconst (pc1 := 627) (v := nI 0) d_Mod_init_626 rfl (by decide) ?_
  refine g_iconst (pc1 := 628) (v := nI 0) d_Mod_init_627 rfl (by decide) ?_
  refine g_iconst (pc1 := 629) (v := nI 0) d_Mod_init_628 rfl (by decide) ?_
  refine g_callS (E' := (0, 0, 447)) (pc1 := 632) (As := [.int (nI 101), .int (nI 108), .int (nI 115), .int (nI 101), .int (nI 0), .int (nI 0), .int (nI 0)]) (rest := [.int (nI 11), .ref 408]) d_Mod_init_629 rfl mo_Mod_159 ms_Mod_word (by decide) rfl rfl (Nat.le_of_ble_eq_true rfl) ⟨Nat.le_of_ble_eq_true rfl, Nat.le_of_ble_eq_true rfl⟩ rfl ?_
  refine x_Mod_word ?_
  dsimp only [psh]
  refine Wp.vall (y := 107681) (by decide +kernel) ?_
  refine g_last (pc1 := 633) d_Mod_init_632 rfl sh_408 (by decide) (vp_in_nI (n := 11) (by omega) (by decide)) ?_
  rw [nI_clamp (n := 11) (by omega)]
  refine Wp.topL (fun L171 eL171 => ?_)
  refine g_aload_n (pc1 := 634) d_Mod_init_633 rfl 0 rfl ?_
  refine g_getr (pc1 := 637) d_Mod_init_634 rfl ⟨_, fo_Mod_34⟩ sh_401 (by decide) (rf_401_9 12) ?_
  refine g_bipush (pc1 := 639) (v := nI 12) d_Mod_init_637 rfl (by decide) ?_
  refine g_bipush (pc1 := 641) (v := nI 115) d_Mod_init_639 rfl (by decide) ?_
  refine g_bipush (pc1 := 643) (v := nI 117) d_Mod_init_641 rfl (by decide) ?_
  refine g_bipush (pc1 := 645) (v := nI 109) d_Mod_init_643 rfl (by decide) ?_
  refine g_iconst (pc1 := 646) (v := nI 0) d_Mod_init_645 rfl (by decide) ?_
  refine g_iconst (pc1 := 647) (v := nI 0) d_Mod_init_646 rfl (by decide) ?_
  refine g_iconst (pc1 := 648) (v := nI 0) d_Mod_init_647 rfl (by decide) ?_
  refine g_iconst (pc1 := 649) (v := nI 0) d_Mod_init_648 rfl (by decide) ?_
  refine g_callS (E' := (0, 0, 447)) (pc1 := 652) (As := [.int (nI 115), .int (nI 117), .int (nI 109), .int (nI 0), .int (nI 0), .int (nI 0), .int (nI 0)]) (rest := [.int (nI 12), .ref 408]) d_Mod_init_649 rfl mo_Mod_159 ms_Mod_word (by decide) rfl rfl (Nat.le_of_ble_eq_true rfl) ⟨Nat.le_of_ble_eq_true rfl, Nat.le_of_ble_eq_true rfl⟩ rfl ?_
  refine x_Mod_word ?_
  dsimp only [psh]
  refine Wp.vall (y := 14431) (by decide +kernel) ?_
  refine g_last (pc1 := 653) d_Mod_init_652 rfl sh_408 (by decide) (vp_in_nI (n := 12) (by omega) (by decide)) ?_
  rw [nI_clamp (n := 12) (by omega)]
  refine Wp.topL (fun L172 eL172 => ?_)
  refine g_aload_n (pc1 := 654) d_Mod_init_653 rfl 0 rfl ?_
  refine g_getr (pc1 := 657) d_Mod_init_654 rfl ⟨_, fo_Mod_34⟩ sh_401 (by decide) (rf_401_9 12) ?_
  refine g_bipush (pc1 := 659) (v := nI 13) d_Mod_init_657 rfl (by decide) ?_
  refine g_bipush (pc1 := 661) (v := nI 104) d_Mod_init_659 rfl (by decide) ?_
  refine g_bipush (pc1 := 663) (v := nI 101) d_Mod_init_661 rfl (by decide) ?_
  refine g_bipush (pc1 := 665) (v := nI 97) d_Mod_init_663 rfl (by decide) ?_
  refine g_bipush (pc1 := 667) (v := nI 116) d_Mod_init_665 rfl (by decide) ?_
  refine g_iconst (pc1 := 668) (v := nI 0) d_Mod_init_667 rfl (by decide) ?_
  refine g_iconst (pc1 := 669) (v := nI 0) d_Mod_init_668 rfl (by decide) ?_
  refine g_iconst (pc1 := 670) (v := nI 0) d_Mod_init_669 rfl (by decide) ?_
  refine g_callS (E' := (0, 0, 447)) (pc1 := 673) (As := [.int (nI 104), .int (nI 101), .int (nI 97), .int (nI 116), .int (nI 0), .int (nI 0), .int (nI 0)]) (rest := [.int (nI 13), .ref 408]) d_Mod_init_670 rfl mo_Mod_159 ms_Mod_word (by decide) rfl rfl (Nat.le_of_ble_eq_true rfl) ⟨Nat.le_of_ble_eq_true rfl, Nat.le_of_ble_eq_true rfl⟩ rfl ?_
  refine x_Mod_word ?_
  dsimp only [psh]
  refine Wp.vall (y := 161156) (by decide +kernel) ?_
  refine g_last (pc1 := 674) d_Mod_init_673 rfl sh_408 (by decide) (vp_in_nI (n := 13) (by omega) (by decide)) ?_
  rw [nI_clamp (n := 13) (by omega)]
  refine Wp.topL (fun L173 eL173 => ?_)
  refine g_aload_n (pc1 := 675) d_Mod_init_674 rfl 0 rfl ?_
  refine g_getr (pc1 := 678) d_Mod_init_675 rfl ⟨_, fo_Mod_34⟩ sh_401 (by decide) (rf_401_9 12) ?_
  refine g_bipush (pc1 := 680) (v := nI 14) d_Mod_init_678 rfl (by decide) ?_
  refine g_bipush (pc1 := 682) (v := nI 107) d_Mod_init_680 rfl (by decide) ?_
  refine g_bipush (pc1 := 684) (v := nI 105) d_Mod_init_682 rfl (by decide) ?_
  refine g_bipush (pc1 := 686) (v := nI 110) d_Mod_init_684 rfl (by decide) ?_
  refine g_bipush (pc1 := 688) (v := nI 100) d_Mod_init_686 rfl (by decide) ?_
  refine g_iconst (pc1 := 689) (v := nI 0) d_Mod_init_688 rfl (by decide) ?_
  refine g_iconst (pc1 := 690) (v := nI 0) d_Mod_init_689 rfl (by decide) ?_
  refine g_iconst (pc1 := 691) (v := nI 0) d_Mod_init_690 rfl (by decide) ?_
  refine g_callS (E' := (0, 0, 447)) (pc1 := 694) (As := [.int (nI 107), .int (nI 105), .int (nI 110), .int (nI 100), .int (nI 0), .int (nI 0), .int (nI 0)]) (rest := [.int (nI 14), .ref 408]) d_Mod_init_691 rfl mo_Mod_159 ms_Mod_word (by decide) rfl rfl (Nat.le_of_ble_eq_true rfl) ⟨Nat.le_of_ble_eq_true rfl, Nat.le_of_ble_eq_true rfl⟩ rfl ?_
  refine x_Mod_word ?_
  dsimp only [psh]
  refine Wp.vall (y := 223456) (by decide +kernel) ?_
  refine g_last (pc1 := 695) d_Mod_init_694 rfl sh_408 (by decide) (vp_in_nI (n := 14) (by omega) (by decide)) ?_
  rw [nI_clamp (n := 14) (by omega)]
  refine Wp.topL (fun L174 eL174 => ?_)
  refine g_aload_n (pc1 := 696) d_Mod_init_695 rfl 0 rfl ?_
  refine g_getr (pc1 := 699) d_Mod_init_696 rfl ⟨_, fo_Mod_34⟩ sh_401 (by decide) (rf_401_9 12) ?_
  refine g_bipush (pc1 := 701) (v := nI 15) d_Mod_init_699 rfl (by decide) ?_
  refine g_bipush (pc1 := 703) (v := nI 109) d_Mod_init_701 rfl (by decide) ?_
  refine g_bipush (pc1 := 705) (v := nI 97) d_Mod_init_703 rfl (by decide) ?_
  refine g_bipush (pc1 := 707) (v := nI 110) d_Mod_init_705 rfl (by decide) ?_
  refine g_bipush (pc1 := 709) (v := nI 121) d_Mod_init_707 rfl (by decide) ?_
  refine g_iconst (pc1 := 710) (v := nI 0) d_Mod_init_709 rfl (by decide) ?_
  refine g_iconst (pc1 := 711) (v := nI 0) d_Mod_init_710 rfl (by decide) ?_
  refine g_iconst (pc1 := 712) (v := nI 0) d_Mod_init_711 rfl (by decide) ?_
  refine g_callS (E' := (0, 0, 447)) (pc1 := 715) (As := [.int (nI 109), .int (nI 97), .int (nI 110), .int (nI 121), .int (nI 0), .int (nI 0), .int (nI 0)]) (rest := [.int (nI 15), .ref 408]) d_Mod_init_712 rfl mo_Mod_159 ms_Mod_word (by decide) rfl rfl (Nat.le_of_ble_eq_true rfl) ⟨Nat.le_of_ble_eq_true rfl, Nat.le_of_ble_eq_true rfl⟩ rfl ?_
  refine x_Mod_word ?_
  dsimp only [psh]
  refine Wp.vall (y := 257011) (by decide +kernel) ?_
  refine g_last (pc1 := 716) d_Mod_init_715 rfl sh_408 (by decide) (vp_in_nI (n := 15) (by omega) (by decide)) ?_
  rw [nI_clamp (n := 15) (by omega)]
  refine Wp.topL (fun L175 eL175 => ?_)
  refine g_aload_n (pc1 := 717) d_Mod_init_716 rfl 0 rfl ?_
  refine g_getr (pc1 := 720) d_Mod_init_717 rfl ⟨_, fo_Mod_34⟩ sh_401 (by decide) (rf_401_9 12) ?_
  refine g_bipush (pc1 := 722) (v := nI 16) d_Mod_init_720 rfl (by decide) ?_
  refine g_bipush (pc1 := 724) (v := nI 100) d_Mod_init_722 rfl (by decide) ?_
  refine g_bipush (pc1 := 726) (v := nI 97) d_Mod_init_724 rfl (by decide) ?_
  refine g_bipush (pc1 := 728) (v := nI 121) d_Mod_init_726 rfl (by decide) ?_
  refine g_iconst (pc1 := 729) (v := nI 0) d_Mod_init_728 rfl (by decide) ?_
  refine g_iconst (pc1 := 730) (v := nI 0) d_Mod_init_729 rfl (by decide) ?_
  refine g_iconst (pc1 := 731) (v := nI 0) d_Mod_init_730 rfl (by decide) ?_
  refine g_iconst (pc1 := 732) (v := nI 0) d_Mod_init_731 rfl (by decide) ?_
  refine g_callS (E' := (0, 0, 447)) (pc1 := 735) (As := [.int (nI 100), .int (nI 97), .int (nI 121), .int (nI 0), .int (nI 0), .int (nI 0), .int (nI 0)]) (rest := [.int (nI 16), .ref 408]) d_Mod_init_732 rfl mo_Mod_159 ms_Mod_word (by decide) rfl rfl (Nat.le_of_ble_eq_true rfl) ⟨Nat.le_of_ble_eq_true rfl, Nat.le_of_ble_eq_true rfl⟩ rfl ?_
  refine x_Mod_word ?_
  dsimp only [psh]
  refine Wp.vall (y := 2968) (by decide +kernel) ?_
  refine g_last (pc1 := 736) d_Mod_init_735 rfl sh_408 (by decide) (vp_in_nI (n := 16) (by omega) (by decide)) ?_
  rw [nI_clamp (n := 16) (by omega)]
  refine Wp.topL (fun L176 eL176 => ?_)
  refine g_aload_n (pc1 := 737) d_Mod_init_736 rfl 0 rfl ?_
  refine g_getr (pc1 := 740) d_Mod_init_737 rfl ⟨_, fo_Mod_34⟩ sh_401 (by decide) (rf_401_9 12) ?_
  refine g_bipush (pc1 := 742) (v := nI 17) d_Mod_init_740 rfl (by decide) ?_
  refine g_bipush (pc1 := 744) (v := nI 112) d_Mod_init_742 rfl (by decide) ?_
  refine g_bipush (pc1 := 746) (v := nI 97) d_Mod_init_744 rfl (by decide) ?_
  refine g_bipush (pc1 := 748) (v := nI 108) d_Mod_init_746 rfl (by decide) ?_
  refine g_bipush (pc1 := 750) (v := nI 97) d_Mod_init_748 rfl (by decide) ?_
  refine g_bipush (pc1 := 752) (v := nI 116) d_Mod_init_750 rfl (by decide) ?_
  refine g_bipush (pc1 := 754) (v := nI 101) d_Mod_init_752 rfl (by decide) ?_
  refine g_iconst (pc1 := 755) (v := nI 0) d_Mod_init_754 rfl (by decide) ?_
  refine g_callS (E' := (0, 0, 447)) (pc1 := 758) (As := [.int (nI 112), .int (nI 97), .int (nI 108), .int (nI 97), .int (nI 116), .int (nI 101), .int (nI 0)]) (rest := [.int (nI 17), .ref 408]) d_Mod_init_755 rfl mo_Mod_159 ms_Mod_word (by decide) rfl rfl (Nat.le_of_ble_eq_true rfl) ⟨Nat.le_of_ble_eq_true rfl, Nat.le_of_ble_eq_true rfl⟩ rfl ?_
  refine x_Mod_word ?_
  dsimp only [psh]
  refine Wp.vall (y := 230351423) (by decide +kernel) ?_
  refine g_last (pc1 := 759) d_Mod_init_758 rfl sh_408 (by decide) (vp_in_nI (n := 17) (by omega) (by decide)) ?_
  rw [nI_clamp (n := 17) (by omega)]
  refine Wp.topL (fun L177 eL177 => ?_)
  refine g_aload_n (pc1 := 760) d_Mod_init_759 rfl 0 rfl ?_
  refine g_getr (pc1 := 763) d_Mod_init_760 rfl ⟨_, fo_Mod_34⟩ sh_401 (by decide) (rf_401_9 12) ?_
  refine g_bipush (pc1 := 765) (v := nI 18) d_Mod_init_763 rfl (by decide) ?_
  refine g_bipush (pc1 := 767) (v := nI 97) d_Mod_init_765 rfl (by decide) ?_
  refine g_bipush (pc1 := 769) (v := nI 103) d_Mod_init_767 rfl (by decide) ?_
  refine g_bipush (pc1 := 771) (v := nI 111) d_Mod_init_769 rfl (by decide) ?_
  refine g_iconst (pc1 := 772) (v := nI 0) d_Mod_init_771 rfl (by decide) ?_
  refine g_iconst (pc1 := 773) (v := nI 0) d_Mod_init_772 rfl (by decide) ?_
  refine g_iconst (pc1 := 774) (v := nI 0) d_Mod_init_773 rfl (by decide) ?_
  refine g_iconst (pc1 := 775) (v := nI 0) d_Mod_init_774 rfl (by decide) ?_
  refine g_callS (E' := (0, 0, 447)) (pc1 := 778) (As := [.int (nI 97), .int (nI 103), .int (nI 111), .int (nI 0), .int (nI 0), .int (nI 0), .int (nI 0)]) (rest := [.int (nI 18), .ref 408]) d_Mod_init_775 rfl mo_Mod_159 ms_Mod_word (by decide) rfl rfl (Nat.le_of_ble_eq_true rfl) ⟨Nat.le_of_ble_eq_true rfl, Nat.le_of_ble_eq_true rfl⟩ rfl ?_
  refine x_Mod_word ?_
  dsimp only [psh]
  refine Wp.vall (y := 933) (by decide +kernel) ?_
  refine g_last (pc1 := 779) d_Mod_init_778 rfl sh_408 (by decide) (vp_in_nI (n := 18) (by omega) (by decide)) ?_
  rw [nI_clamp (n := 18) (by omega)]
  refine Wp.topL (fun L178 eL178 => ?_)
  refine g_aload_n (pc1 := 780) d_Mod_init_779 rfl 0 rfl ?_
  refine g_getr (pc1 := 783) d_Mod_init_780 rfl ⟨_, fo_Mod_34⟩ sh_401 (by decide) (rf_401_9 12) ?_
  refine g_bipush (pc1 := 785) (v := nI 19) d_Mod_init_783 rfl (by decide) ?_
  refine g_bipush (pc1 := 787) (v := nI 115) d_Mod_init_785 rfl (by decide) ?_
  refine g_bipush (pc1 := 789) (v := nI 116) d_Mod_init_787 rfl (by decide) ?_
  refine g_bipush (pc1 := 791) (v := nI 111) d_Mod_init_789 rfl (by decide) ?_
  refine g_bipush (pc1 := 793) (v := nI 99) d_Mod_init_791 rfl (by decide) ?_
  refine g_bipush (pc1 := 795) (v := nI 107) d_Mod_init_793 rfl (by decide) ?_
  refine g_iconst (pc1 := 796) (v := nI 0) d_Mod_init_795 rfl (by decide) ?_
  refine g_iconst (pc1 := 797) (v := nI 0) d_Mod_init_796 rfl (by decide) ?_
  refine g_callS (E' := (0, 0, 447)) (pc1 := 800) (As := [.int (nI 115), .int (nI 116), .int (nI 111), .int (nI 99), .int (nI 107), .int (nI 0), .int (nI 0)]) (rest := [.int (nI 19), .ref 408]) d_Mod_init_797 rfl mo_Mod_159 ms_Mod_word (by decide) rfl rfl (Nat.le_of_ble_eq_true rfl) ⟨Nat.le_of_ble_eq_true rfl, Nat.le_of_ble_eq_true rfl⟩ rfl ?_
  refine x_Mod_word ?_
  dsimp only [psh]
  refine Wp.vall (y := 10502066) (by decide +kernel) ?_
  refine g_last (pc1 := 801) d_Mod_init_800 rfl sh_408 (by decide) (vp_in_nI (n := 19) (by omega) (by decide)) ?_
  rw [nI_clamp (n := 19) (by omega)]
  refine Wp.topL (fun L179 eL179 => ?_)
  refine g_aload_n (pc1 := 802) d_Mod_init_801 rfl 0 rfl ?_
  refine g_getr (pc1 := 805) d_Mod_init_802 rfl ⟨_, fo_Mod_34⟩ sh_401 (by decide) (rf_401_9 12) ?_
  refine g_bipush (pc1 := 807) (v := nI 20) d_Mod_init_805 rfl (by decide) ?_
  refine g_bipush (pc1 := 809) (v := nI 112) d_Mod_init_807 rfl (by decide) ?_
  refine g_bipush (pc1 := 811) (v := nI 114) d_Mod_init_809 rfl (by decide) ?_
  refine g_bipush (pc1 := 813) (v := nI 105) d_Mod_init_811 rfl (by decide) ?_
  refine g_bipush (pc1 := 815) (v := nI 99) d_Mod_init_813 rfl (by decide) ?_
  refine g_bipush (pc1 := 817) (v := nI 101) d_Mod_init_815 rfl (by decide) ?_
  refine g_iconst (pc1 := 818) (v := nI 0) d_Mod_init_817 rfl (by decide) ?_
  refine g_iconst (pc1 := 819) (v := nI 0) d_Mod_init_818 rfl (by decide) ?_
  refine g_callS (E' := (0, 0, 447)) (pc1 := 822) (As := [.int (nI 112), .int (nI 114), .int (nI 105), .int (nI 99), .int (nI 101), .int (nI 0), .int (nI 0)]) (rest := [.int (nI 20), .ref 408]) d_Mod_init_819 rfl mo_Mod_159 ms_Mod_word (by decide) rfl rfl (Nat.le_of_ble_eq_true rfl) ⟨Nat.le_of_ble_eq_true rfl, Nat.le_of_ble_eq_true rfl⟩ rfl ?_
  refine x_Mod_word ?_
  dsimp only [psh]
  refine Wp.vall (y := 8863997) (by decide +kernel) ?_
  refine g_last (pc1 := 823) d_Mod_init_822 rfl sh_408 (by decide) (vp_in_nI (n := 20) (by omega) (by decide)) ?_
  rw [nI_clamp (n := 20) (by omega)]
  refine Wp.topL (fun L180 eL180 => ?_)
  refine g_aload_n (pc1 := 824) d_Mod_init_823 rfl 0 rfl ?_
  refine g_callV (E' := (0, 0, 447)) (pc1 := 827) (As := []) (rest := []) d_Mod_init_824 rfl mo_Mod_163 mi_Mod_begins mv_Mod_begins rfl sh_401 (by decide) (by decide) rfl rfl (Nat.le_of_ble_eq_true rfl) ⟨Nat.le_of_ble_eq_true rfl, Nat.le_of_ble_eq_true rfl⟩ rfl ?_
  refine x_Mod_begins (lv := 0) (F := 0) (by rw [eM159, eM120]; exact (hF0 401 (Nat.le_refl _) 18).1) (by decide) (by rw [eM159]; rfl) (by decide) ?_
  dsimp only [psh]
  refine Wp.topM (fun M181 eM181 => ?_)
  refine g_aload_n (pc1 := 828) d_Mod_init_827 rfl 0 rfl ?_
  refine g_callV (E' := (0, 0, 447)) (pc1 := 831) (As := []) (rest := []) d_Mod_init_828 rfl mo_Mod_166 mi_Mod_keepsRow mv_Mod_keepsRow rfl sh_401 (by decide) (by decide) rfl rfl (Nat.le_of_ble_eq_true rfl) ⟨Nat.le_of_ble_eq_true rfl, Nat.le_of_ble_eq_true rfl⟩ rfl ?_
  refine x_Mod_keepsRow ?_
  dsimp only [psh]
  refine Wp.topM (fun M182 eM182 => ?_)
  refine g_return rfl d_Mod_init_831 rfl ?_
  subst_vars
  exact hQ
