theorem kR_State_ne {X c j : Nat} {R : gR} (h : c ≠ X) : kR_State_init X R c j = R c j := by
  unfold kR_State_init
  simp only [uR_at, if_neg (fun q : c = X ∧ _ => h q.1)]
theorem t0_withLetter {l : Launch} {n : Nat} {M : gM} {L : gL} {R : gR} {Q : Option Value → gM → gL → gR → Prop} {p0 : Int64} {p1 : Int32} (hQ : Q (some (.long (p0 * 32 + (p1 - 97 + 1).toInt64))) M L R) : Tm l y_Tokens_withLetter (0, 0, n) n [.long p0, .int p1] M L R Q := by
  refine Tm.of (by decide) (Nat.le_of_ble_eq_true rfl) ?_
  show Wp l y_Tokens_withLetter (0, 0, n) n 0 0 0 [(0, .long p0), (2, .int p1)] [] M L R Q
  refine g_lload_n (pc1 := 1) d_Tokens_withLetter_0 rfl 0 rfl ?_
  refine g_ldc2 (pc1 := 4) (v := 32) d_Tokens_withLetter_1 rfl co_Tokens_41 ?_
  refine g_lmul (pc1 := 5) d_Tokens_withLetter_4 rfl ?_
  refine g_iload_n (pc1 := 6) d_Tokens_withLetter_5 rfl 1 rfl ?_
  refine g_bipush (pc1 := 8) (v := 97) d_Tokens_withLetter_6 rfl (by decide) ?_
  refine g_isub (pc1 := 9) d_Tokens_withLetter_8 rfl ?_
  refine g_iconst (pc1 := 10) (v := 1) d_Tokens_withLetter_9 rfl (by decide) ?_
  refine g_iadd (pc1 := 11) d_Tokens_withLetter_10 rfl ?_
  refine g_i2l (pc1 := 12) d_Tokens_withLetter_11 rfl ?_
  refine g_ladd (pc1 := 13) d_Tokens_withLetter_12 rfl ?_
  refine g_lreturn rfl d_Tokens_withLetter_13 rfl ?_
  exact hQ
def kM_Past_init (M : gM) : gM := (kM_State_init 353 (kM_State_init 346 (kM_State_init 339 (kM_State_init 332 (kM_State_init 325 (kM_State_init 318 (kM_State_init 311 (kM_State_init 304 (kM_State_init 297 (kM_State_init 290 (kM_State_init 283 (kM_State_init 276 (kM_State_init 269 (kM_State_init 262 (kM_State_init 255 (kM_State_init 248 (kM_State_init 241 (kM_State_init 234 (kM_State_init 227 (kM_State_init 220 (kM_State_init 213 (kM_State_init 206 (kM_State_init 199 (kM_State_init 192 (kM_State_init 185 (kM_State_init 178 (kM_State_init 171 (kM_State_init 164 (kM_State_init 157 (kM_State_init 150 (kM_State_init 143 (kM_State_init 136 (kM_State_init 129 (kM_State_init 122 (kM_State_init 115 (kM_State_init 108 (kM_State_init 101 (kM_State_init 94 (kM_State_init 87 (kM_State_init 80 M))))))))))))))))))))))))))))))))))))))))
def kL_Past_init (L : gL) : gL := (kL_State_init 353 (kL_State_init 346 (kL_State_init 339 (kL_State_init 332 (kL_State_init 325 (kL_State_init 318 (kL_State_init 311 (kL_State_init 304 (kL_State_init 297 (kL_State_init 290 (kL_State_init 283 (kL_State_init 276 (kL_State_init 269 (kL_State_init 262 (kL_State_init 255 (kL_State_init 248 (kL_State_init 241 (kL_State_init 234 (kL_State_init 227 (kL_State_init 220 (kL_State_init 213 (kL_State_init 206 (kL_State_init 199 (kL_State_init 192 (kL_State_init 185 (kL_State_init 178 (kL_State_init 171 (kL_State_init 164 (kL_State_init 157 (kL_State_init 150 (kL_State_init 143 (kL_State_init 136 (kL_State_init 129 (kL_State_init 122 (kL_State_init 115 (kL_State_init 108 (kL_State_init 101 (kL_State_init 94 (kL_State_init 87 (kL_State_init 80 L))))))))))))))))))))))))))))))))))))))))
def kR_Past_init (R : gR) : gR := (uR (kR_State_init 353 (uR (kR_State_init 346 (uR (kR_State_init 339 (uR (kR_State_init 332 (uR (kR_State_init 325 (uR (kR_State_init 318 (uR (kR_State_init 311 (uR (kR_State_init 304 (uR (kR_State_init 297 (uR (kR_State_init 290 (uR (kR_State_init 283 (uR (kR_State_init 276 (uR (kR_State_init 269 (uR (kR_State_init 262 (uR (kR_State_init 255 (uR (kR_State_init 248 (uR (kR_State_init 241 (uR (kR_State_init 234 (uR (kR_State_init 227 (uR (kR_State_init 220 (uR (kR_State_init 213 (uR (kR_State_init 206 (uR (kR_State_init 199 (uR (kR_State_init 192 (uR (kR_State_init 185 (uR (kR_State_init 178 (uR (kR_State_init 171 (uR (kR_State_init 164 (uR (kR_State_init 157 (uR (kR_State_init 150 (uR (kR_State_init 143 (uR (kR_State_init 136 (uR (kR_State_init 129 (uR (kR_State_init 122 (uR (kR_State_init 115 (uR (kR_State_init 108 (uR (kR_State_init 101 (uR (kR_State_init 94 (uR (kR_State_init 87 (uR (kR_State_init 80 (uR R 78 0 (some 79))) 79 0 (some 80))) 79 1 (some 87))) 79 2 (some 94))) 79 3 (some 101))) 79 4 (some 108))) 79 5 (some 115))) 79 6 (some 122))) 79 7 (some 129))) 79 8 (some 136))) 79 9 (some 143))) 79 10 (some 150))) 79 11 (some 157))) 79 12 (some 164))) 79 13 (some 171))) 79 14 (some 178))) 79 15 (some 185))) 79 16 (some 192))) 79 17 (some 199))) 79 18 (some 206))) 79 19 (some 213))) 79 20 (some 220))) 79 21 (some 227))) 79 22 (some 234))) 79 23 (some 241))) 79 24 (some 248))) 79 25 (some 255))) 79 26 (some 262))) 79 27 (some 269))) 79 28 (some 276))) 79 29 (some 283))) 79 30 (some 290))) 79 31 (some 297))) 79 32 (some 304))) 79 33 (some 311))) 79 34 (some 318))) 79 35 (some 325))) 79 36 (some 332))) 79 37 (some 339))) 79 38 (some 346))) 79 39 (some 353))
set_option maxHeartbeats 4000000 in
set_option maxRecDepth 20000 in
theorem t0_Past_init {l : Launch} {M : gM} {L : gL} {R : gR} {Q : Option Value → gM → gL → gR → Prop} (hF : Fz 79 M L R) (hQ : ∀ (M' : gM) (L' : gL) (R' : gR), M' = kM_Past_init M → L' = kL_Past_init L → R' = kR_Past_init R → Fz 360 M' L' R' → Q none M' L' R') : Tm l y_Past_init (281, 1800, 360) 79 [.ref 78] M L R Q := by
  refine Tm.of (by decide) (Nat.le_of_ble_eq_true rfl) ?_
  show Wp l y_Past_init (281, 1800, 360) 79 0 0 0 [(0, .ref 78)] [] M L R Q
  refine g_aload_n (pc1 := 1) d_Past_init_0 rfl 0 rfl ?_
  refine g_objInit (pc1 := 4) d_Past_init_1 rfl ml_Past_3 mi_objectInit mc_objectInit (by decide) (Nat.le_of_ble_eq_true rfl) ?_
  refine g_aload_n (pc1 := 5) d_Past_init_4 rfl 0 rfl ?_
  refine g_bipush (pc1 := 7) (v := 40) d_Past_init_5 rfl (by decide) ?_
  refine g_newR (pc1 := 10) d_Past_init_7 rfl ck_Past_9 sh_79 (fun i => (hF _ (Nat.le_refl _) i).2.2) (by decide) (by decide) (by decide) (Nat.le_of_ble_eq_true rfl) (Nat.le_of_ble_eq_true rfl) ?_
  refine g_putF (pc1 := 13) (v := .ref 79) (M' := M) (R' := uR R 78 0 (some 79)) d_Past_init_10 rfl rfl ff_Past_11 (fun _ => po_7_0 _) sh_78 (by decide) (fun _ => fvl_R_self) (fun _ q h => fvl_R_ne q h) (fun _ _ _ h => ent_neR h) ?_
  refine Wp.topR (fun R5162 eR5162 => ?_)
  have q5163 : R5162 78 0 = some 79 := rdR_eq eR5162
  refine g_iconst (pc1 := 14) (v := 0) d_Past_init_13 rfl (by decide) ?_
  refine g_istore_n (pc1 := 15) (lv' := [(0, .ref 78), (1, .int 0)]) d_Past_init_14 rfl rfl (by decide) [1, 0] rfl ?_
  refine g_iload_n (pc1 := 16) d_Past_init_15 rfl 1 rfl ?_
  refine g_aload_n (pc1 := 17) d_Past_init_16 rfl 0 rfl ?_
  refine g_getr (pc1 := 20) d_Past_init_17 rfl ⟨_, fo_Past_11⟩ sh_78 (by decide) q5163 ?_
  refine g_alen (pc1 := 21) (v := 40) d_Past_init_20 rfl sh_79 (by decide) (by decide) (by decide) (by decide) ?_
  refine g_icmp_ge (pc1 := 24) (tgt := 43) d_Past_init_21 (by decide) rfl (fun h => absurd h (by decide)) (fun _ => ?_)
  refine g_aload_n (pc1 := 25) d_Past_init_24 rfl 0 rfl ?_
  refine g_getr (pc1 := 28) d_Past_init_25 rfl ⟨_, fo_Past_11⟩ sh_78 (by decide) q5163 ?_
  refine g_iload_n (pc1 := 29) d_Past_init_28 rfl 1 rfl ?_
  refine g_new (pc1 := 32) (T := T_State) (ty := ty_State) d_Past_init_29 rfl rfl (fun w h => gtb_of (in_State w h).1 (in_State w h).2) tyk_State (by decide) ck_Past_9 cn_State cz_State (shSt_0 (by decide : 80 ∈ lSt)) (fun i => ((Fz.wR (Fz.up hF) (by decide) eR5162) _ (Nat.le_refl _) i).1) (fun i => ((Fz.wR (Fz.up hF) (by decide) eR5162) _ (Nat.le_refl _) i).2.2) (Nat.le_of_ble_eq_true rfl) (Nat.le_of_ble_eq_true rfl) ?_
  refine g_dup (pc1 := 33) d_Past_init_32 rfl rfl ?_
  refine g_callI (pc1 := 36) (E' := (6, 34, 87)) (As := []) (rest := [.ref 80, .int 0, .ref 79]) d_Past_init_33 rfl mo_Past_17 mi_State_init rfl rfl (by decide) rfl rfl (Nat.le_of_ble_eq_true rfl) ⟨Nat.le_of_ble_eq_true rfl, Nat.le_of_ble_eq_true rfl⟩ rfl ?_
  refine t0_State_init 80 (by decide : 80 ∈ lSt) (Fz.up (Fz.wR (Fz.up hF) (by decide) eR5162)) (fun M5164 L5165 R5166 eM5164 eL5165 eR5166 F5167 => ?_)
  dsimp only
  have q5168 : R5166 78 0 = some 79 := ((congrFun (congrFun eR5166 78) 0).trans (kR_State_ne (by decide))).trans q5163
  refine g_aast (pc1 := 37) (ci := 6) (r := ("CookedLaw$State", T_State, 10)) d_Past_init_36 rfl sh_79 (by decide) (vin_lit (x := 0) (by decide)) (shSt_0 (by decide : 80 ∈ lSt)) (by decide) rfl rfl ?_
  rw [show ((0 : Int32).toNatClampNeg) = 0 from by decide]
  refine Wp.topR (fun R5169 eR5169 => ?_)
  have q5170 : R5169 78 0 = some 79 := (rdR_ne eR5169 (by decide)).trans q5168
  refine g_iinc (pc1 := 40) (v := 1) (lv' := [(0, .ref 78), (1, .int 1)]) d_Past_init_37 rfl 1 rfl (by decide) (by decide) [1, 0] rfl ?_
  refine g_goto (tgt := 15) d_Past_init_40 (by decide) ?_
  refine g_iload_n (pc1 := 16) d_Past_init_15 rfl 1 rfl ?_
  refine g_aload_n (pc1 := 17) d_Past_init_16 rfl 0 rfl ?_
  refine g_getr (pc1 := 20) d_Past_init_17 rfl ⟨_, fo_Past_11⟩ sh_78 (by decide) q5170 ?_
  refine g_alen (pc1 := 21) (v := 40) d_Past_init_20 rfl sh_79 (by decide) (by decide) (by decide) (by decide) ?_
  refine g_icmp_ge (pc1 := 24) (tgt := 43) d_Past_init_21 (by decide) rfl (fun h => absurd h (by decide)) (fun _ => ?_)
  refine g_aload_n (pc1 := 25) d_Past_init_24 rfl 0 rfl ?_
  refine g_getr (pc1 := 28) d_Past_init_25 rfl ⟨_, fo_Past_11⟩ sh_78 (by decide) q5170 ?_
  refine g_iload_n (pc1 := 29) d_Past_init_28 rfl 1 rfl ?_
  refine g_new (pc1 := 32) (T := T_State) (ty := ty_State) d_Past_init_29 rfl rfl (fun w h => gtb_of (in_State w h).1 (in_State w h).2) tyk_State (by decide) ck_Past_9 cn_State cz_State (shSt_0 (by decide : 87 ∈ lSt)) (fun i => ((Fz.wR F5167 (by decide) eR5169) _ (Nat.le_refl _) i).1) (fun i => ((Fz.wR F5167 (by decide) eR5169) _ (Nat.le_refl _) i).2.2) (Nat.le_of_ble_eq_true rfl) (Nat.le_of_ble_eq_true rfl) ?_
  refine g_dup (pc1 := 33) d_Past_init_32 rfl rfl ?_
  refine g_callI (pc1 := 36) (E' := (6, 34, 94)) (As := []) (rest := [.ref 87, .int 1, .ref 79]) d_Past_init_33 rfl mo_Past_17 mi_State_init rfl rfl (by decide) rfl rfl (Nat.le_of_ble_eq_true rfl) ⟨Nat.le_of_ble_eq_true rfl, Nat.le_of_ble_eq_true rfl⟩ rfl ?_
  refine t0_State_init 87 (by decide : 87 ∈ lSt) (Fz.up (Fz.wR F5167 (by decide) eR5169)) (fun M5171 L5172 R5173 eM5171 eL5172 eR5173 F5174 => ?_)
  dsimp only
  have q5175 : R5173 78 0 = some 79 := ((congrFun (congrFun eR5173 78) 0).trans (kR_State_ne (by decide))).trans q5170
  refine g_aast (pc1 := 37) (ci := 6) (r := ("CookedLaw$State", T_State, 10)) d_Past_init_36 rfl sh_79 (by decide) (vin_lit (x := 1) (by decide)) (shSt_0 (by decide : 87 ∈ lSt)) (by decide) rfl rfl ?_
  rw [show ((1 : Int32).toNatClampNeg) = 1 from by decide]
  refine Wp.topR (fun R5176 eR5176 => ?_)
  have q5177 : R5176 78 0 = some 79 := (rdR_ne eR5176 (by decide)).trans q5175
  refine g_iinc (pc1 := 40) (v := 2) (lv' := [(0, .ref 78), (1, .int 2)]) d_Past_init_37 rfl 1 rfl (by decide) (by decide) [1, 0] rfl ?_
  refine g_goto (tgt := 15) d_Past_init_40 (by decide) ?_
  refine g_iload_n (pc1 := 16) d_Past_init_15 rfl 1 rfl ?_
  refine g_aload_n (pc1 := 17) d_Past_init_16 rfl 0 rfl ?_
  refine g_getr (pc1 := 20) d_Past_init_17 rfl ⟨_, fo_Past_11⟩ sh_78 (by decide) q5177 ?_
  refine g_alen (pc1 := 21) (v := 40) d_Past_init_20 rfl sh_79 (by decide) (by decide) (by decide) (by decide) ?_
  refine g_icmp_ge (pc1 := 24) (tgt := 43) d_Past_init_21 (by decide) rfl (fun h => absurd h (by decide)) (fun _ => ?_)
  refine g_aload_n (pc1 := 25) d_Past_init_24 rfl 0 rfl ?_
  refine g_getr (pc1 := 28) d_Past_init_25 rfl ⟨_, fo_Past_11⟩ sh_78 (by decide) q5177 ?_
  refine g_iload_n (pc1 := 29) d_Past_init_28 rfl 1 rfl ?_
  refine g_new (pc1 := 32) (T := T_State) (ty := ty_State) d_Past_init_29 rfl rfl (fun w h => gtb_of (in_State w h).1 (in_State w h).2) tyk_State (by decide) ck_Past_9 cn_State cz_State (shSt_0 (by decide : 94 ∈ lSt)) (fun i => ((Fz.wR F5174 (by decide) eR5176) _ (Nat.le_refl _) i).1) (fun i => ((Fz.wR F5174 (by decide) eR5176) _ (Nat.le_refl _) i).2.2) (Nat.le_of_ble_eq_true rfl) (Nat.le_of_ble_eq_true rfl) ?_
  refine g_dup (pc1 := 33) d_Past_init_32 rfl rfl ?_
  refine g_callI (pc1 := 36) (E' := (6, 34, 101)) (As := []) (rest := [.ref 94, .int 2, .ref 79]) d_Past_init_33 rfl mo_Past_17 mi_State_init rfl rfl (by decide) rfl rfl (Nat.le_of_ble_eq_true rfl) ⟨Nat.le_of_ble_eq_true rfl, Nat.le_of_ble_eq_true rfl⟩ rfl ?_
  refine t0_State_init 94 (by decide : 94 ∈ lSt) (Fz.up (Fz.wR F5174 (by decide) eR5176)) (fun M5178 L5179 R5180 eM5178 eL5179 eR5180 F5181 => ?_)
  dsimp only
  have q5182 : R5180 78 0 = some 79 := ((congrFun (congrFun eR5180 78) 0).trans (kR_State_ne (by decide))).trans q5177
  refine g_aast (pc1 := 37) (ci := 6) (r := ("CookedLaw$State", T_State, 10)) d_Past_init_36 rfl sh_79 (by decide) (vin_lit (x := 2) (by decide)) (shSt_0 (by decide : 94 ∈ lSt)) (by decide) rfl rfl ?_
  rw [show ((2 : Int32).toNatClampNeg) = 2 from by decide]
  refine Wp.topR (fun R5183 eR5183 => ?_)
  have q5184 : R5183 78 0 = some 79 := (rdR_ne eR5183 (by decide)).trans q5182
  refine g_iinc (pc1 := 40) (v := 3) (lv' := [(0, .ref 78), (1, .int 3)]) d_Past_init_37 rfl 1 rfl (by decide) (by decide) [1, 0] rfl ?_
  refine g_goto (tgt := 15) d_Past_init_40 (by decide) ?_
  refine g_iload_n (pc1 := 16) d_Past_init_15 rfl 1 rfl ?_
  refine g_aload_n (pc1 := 17) d_Past_init_16 rfl 0 rfl ?_
  refine g_getr (pc1 := 20) d_Past_init_17 rfl ⟨_, fo_Past_11⟩ sh_78 (by decide) q5184 ?_
  refine g_alen (pc1 := 21) (v := 40) d_Past_init_20 rfl sh_79 (by decide) (by decide) (by decide) (by decide) ?_
  refine g_icmp_ge (pc1 := 24) (tgt := 43) d_Past_init_21 (by decide) rfl (fun h => absurd h (by decide)) (fun _ => ?_)
  refine g_aload_n (pc1 := 25) d_Past_init_24 rfl 0 rfl ?_
  refine g_getr (pc1 := 28) d_Past_init_25 rfl ⟨_, fo_Past_11⟩ sh_78 (by decide) q5184 ?_
  refine g_iload_n (pc1 := 29) d_Past_init_28 rfl 1 rfl ?_
  refine g_new (pc1 := 32) (T := T_State) (ty := ty_State) d_Past_init_29 rfl rfl (fun w h => gtb_of (in_State w h).1 (in_State w h).2) tyk_State (by decide) ck_Past_9 cn_State cz_State (shSt_0 (by decide : 101 ∈ lSt)) (fun i => ((Fz.wR F5181 (by decide) eR5183) _ (Nat.le_refl _) i).1) (fun i => ((Fz.wR F5181 (by decide) eR5183) _ (Nat.le_refl _) i).2.2) (Nat.le_of_ble_eq_true rfl) (Nat.le_of_ble_eq_true rfl) ?_
  refine g_dup (pc1 := 33) d_Past_init_32 rfl rfl ?_
  refine g_callI (pc1 := 36) (E' := (6, 34, 108)) (As := []) (rest := [.ref 101, .int 3, .ref 79]) d_Past_init_33 rfl mo_Past_17 mi_State_init rfl rfl (by decide) rfl rfl (Nat.le_of_ble_eq_true rfl) ⟨Nat.le_of_ble_eq_true rfl, Nat.le_of_ble_eq_true rfl⟩ rfl ?_
  refine t0_State_init 101 (by decide : 101 ∈ lSt) (Fz.up (Fz.wR F5181 (by decide) eR5183)) (fun M5185 L5186 R5187 eM5185 eL5186 eR5187 F5188 => ?_)
  dsimp only
  have q5189 : R5187 78 0 = some 79 := ((congrFun (congrFun eR5187 78) 0).trans (kR_State_ne (by decide))).trans q5184
  refine g_aast (pc1 := 37) (ci := 6) (r := ("CookedLaw$State", T_State, 10)) d_Past_init_36 rfl sh_79 (by decide) (vin_lit (x := 3) (by decide)) (shSt_0 (by decide : 101 ∈ lSt)) (by decide) rfl rfl ?_
  rw [show ((3 : Int32).toNatClampNeg) = 3 from by decide]
  refine Wp.topR (fun R5190 eR5190 => ?_)
  have q5191 : R5190 78 0 = some 79 := (rdR_ne eR5190 (by decide)).trans q5189
  refine g_iinc (pc1 := 40) (v := 4) (lv' := [(0, .ref 78), (1, .int 4)]) d_Past_init_37 rfl 1 rfl (by decide) (by decide) [1, 0] rfl ?_
  refine g_goto (tgt := 15) d_Past_init_40 (by decide) ?_
  refine g_iload_n (pc1 := 16) d_Past_init_15 rfl 1 rfl ?_
  refine g_aload_n (pc1 := 17) d_Past_init_16 rfl 0 rfl ?_
  refine g_getr (pc1 := 20) d_Past_init_17 rfl ⟨_, fo_Past_11⟩ sh_78 (by decide) q5191 ?_
  refine g_alen (pc1 := 21) (v := 40) d_Past_init_20 rfl sh_79 (by decide) (by decide) (by decide) (by decide) ?_
  refine g_icmp_ge (pc1 := 24) (tgt := 43) d_Past_init_21 (by decide) rfl (fun h => absurd h (by decide)) (fun _ => ?_)
  refine g_aload_n (pc1 := 25) d_Past_init_24 rfl 0 rfl ?_
  refine g_getr (pc1 := 28) d_Past_init_25 rfl ⟨_, fo_Past_11⟩ sh_78 (by decide) q5191 ?_
  refine g_iload_n (pc1 := 29) d_Past_init_28 rfl 1 rfl ?_
  refine g_new (pc1 := 32) (T := T_State) (ty := ty_State) d_Past_init_29 rfl rfl (fun w h => gtb_of (in_State w h).1 (in_State w h).2) tyk_State (by decide) ck_Past_9 cn_State cz_State (shSt_0 (by decide : 108 ∈ lSt)) (fun i => ((Fz.wR F5188 (by decide) eR5190) _ (Nat.le_refl _) i).1) (fun i => ((Fz.wR F5188 (by decide) eR5190) _ (Nat.le_refl _) i).2.2) (Nat.le_of_ble_eq_true rfl) (Nat.le_of_ble_eq_true rfl) ?_
  refine g_dup (pc1 := 33) d_Past_init_32 rfl rfl ?_
  refine g_callI (pc1 := 36) (E' := (6, 34, 115)) (As := []) (rest := [.ref 108, .int 4, .ref 79]) d_Past_init_33 rfl mo_Past_17 mi_State_init rfl rfl (by decide) rfl rfl (Nat.le_of_ble_eq_true rfl) ⟨Nat.le_of_ble_eq_true rfl, Nat.le_of_ble_eq_true rfl⟩ rfl ?_
  refine t0_State_init 108 (by decide : 108 ∈ lSt) (Fz.up (Fz.wR F5188 (by decide) eR5190)) (fun M5192 L5193 R5194 eM5192 eL5193 eR5194 F5195 => ?_)
  dsimp only
  have q5196 : R5194 78 0 = some 79 := ((congrFun (congrFun eR5194 78) 0).trans (kR_State_ne (by decide))).trans q5191
  refine g_aast (pc1 := 37) (ci := 6) (r := ("CookedLaw$State", T_State, 10)) d_Past_init_36 rfl sh_79 (by decide) (vin_lit (x := 4) (by decide)) (shSt_0 (by decide : 108 ∈ lSt)) (by decide) rfl rfl ?_
  rw [show ((4 : Int32).toNatClampNeg) = 4 from by decide]
  refine Wp.topR (fun R5197 eR5197 => ?_)
  have q5198 : R5197 78 0 = some 79 := (rdR_ne eR5197 (by decide)).trans q5196
  refine g_iinc (pc1 := 40) (v := 5) (lv' := [(0, .ref 78), (1, .int 5)]) d_Past_init_37 rfl 1 rfl (by decide) (by decide) [1, 0] rfl ?_
  refine g_goto (tgt := 15) d_Past_init_40 (by decide) ?_
  refine g_iload_n (pc1 := 16) d_Past_init_15 rfl 1 rfl ?_
  refine g_aload_n (pc1 := 17) d_Past_init_16 rfl 0 rfl ?_
  refine g_getr (pc1 := 20) d_Past_init_17 rfl ⟨_, fo_Past_11⟩ sh_78 (by decide) q5198 ?_
  refine g_alen (pc1 := 21) (v := 40) d_Past_init_20 rfl sh_79 (by decide) (by decide) (by decide) (by decide) ?_
  refine g_icmp_ge (pc1 := 24) (tgt := 43) d_Past_init_21 (by decide) rfl (fun h => absurd h (by decide)) (fun _ => ?_)
  refine g_aload_n (pc1 := 25) d_Past_init_24 rfl 0 rfl ?_
  refine g_getr (pc1 := 28) d_Past_init_25 rfl ⟨_, fo_Past_11⟩ sh_78 (by decide) q5198 ?_
  refine g_iload_n (pc1 := 29) d_Past_init_28 rfl 1 rfl ?_
  refine g_new (pc1 := 32) (T := T_State) (ty := ty_State) d_Past_init_29 rfl rfl (fun w h => gtb_of (in_State w h).1 (in_State w h).2) tyk_State (by decide) ck_Past_9 cn_State cz_State (shSt_0 (by decide : 115 ∈ lSt)) (fun i => ((Fz.wR F5195 (by decide) eR5197) _ (Nat.le_refl _) i).1) (fun i => ((Fz.wR F5195 (by decide) eR5197) _ (Nat.le_refl _) i).2.2) (Nat.le_of_ble_eq_true rfl) (Nat.le_of_ble_eq_true rfl) ?_
  refine g_dup (pc1 := 33) d_Past_init_32 rfl rfl ?_
  refine g_callI (pc1 := 36) (E' := (6, 34, 122)) (As := []) (rest := [.ref 115, .int 5, .ref 79]) d_Past_init_33 rfl mo_Past_17 mi_State_init rfl rfl (by decide) rfl rfl (Nat.le_of_ble_eq_true rfl) ⟨Nat.le_of_ble_eq_true rfl, Nat.le_of_ble_eq_true rfl⟩ rfl ?_
  refine t0_State_init 115 (by decide : 115 ∈ lSt) (Fz.up (Fz.wR F5195 (by decide) eR5197)) (fun M5199 L5200 R5201 eM5199 eL5200 eR5201 F5202 => ?_)
  dsimp only
  have q5203 : R5201 78 0 = some 79 := ((congrFun (congrFun eR5201 78) 0).trans (kR_State_ne (by decide))).trans q5198
  refine g_aast (pc1 := 37) (ci := 6) (r := ("CookedLaw$State", T_State, 10)) d_Past_init_36 rfl sh_79 (by decide) (vin_lit (x := 5) (by decide)) (shSt_0 (by decide : 115 ∈ lSt)) (by decide) rfl rfl ?_
  rw [show ((5 : Int32).toNatClampNeg) = 5 from by decide]
  refine Wp.topR (fun R5204 eR5204 => ?_)
  have q5205 : R5204 78 0 = some 79 := (rdR_ne eR5204 (by decide)).trans q5203
  refine g_iinc (pc1 := 40) (v := 6) (lv' := [(0, .ref 78), (1, .int 6)]) d_Past_init_37 rfl 1 rfl (by decide) (by decide) [1, 0] rfl ?_
  refine g_goto (tgt := 15) d_Past_init_40 (by decide) ?_
  refine g_iload_n (pc1 := 16) d_Past_init_15 rfl 1 rfl ?_
  refine g_aload_n (pc1 := 17) d_Past_init_16 rfl 0 rfl ?_
  refine g_getr (pc1 := 20) d_Past_init_17 rfl ⟨_, fo_Past_11⟩ sh_78 (by decide) q5205 ?_
  refine g_alen (pc1 := 21) (v := 40) d_Past_init_20 rfl sh_79 (by decide) (by decide) (by decide) (by decide) ?_
  refine g_icmp_ge (pc1 := 24) (tgt := 43) d_Past_init_21 (by decide) rfl (fun h => absurd h (by decide)) (fun _ => ?_)
  refine g_aload_n (pc1 := 25) d_Past_init_24 rfl 0 rfl ?_
  refine g_getr (pc1 := 28) d_Past_init_25 rfl ⟨_, fo_Past_11⟩ sh_78 (by decide) q5205 ?_
  refine g_iload_n (pc1 := 29) d_Past_init_28 rfl 1 rfl ?_
  refine g_new (pc1 := 32) (T := T_State) (ty := ty_State) d_Past_init_29 rfl rfl (fun w h => gtb_of (in_State w h).1 (in_State w h).2) tyk_State (by decide) ck_Past_9 cn_State cz_State (shSt_0 (by decide : 122 ∈ lSt)) (fun i => ((Fz.wR F5202 (by decide) eR5204) _ (Nat.le_refl _) i).1) (fun i => ((Fz.wR F5202 (by decide) eR5204) _ (Nat.le_refl _) i).2.2) (Nat.le_of_ble_eq_true rfl) (Nat.le_of_ble_eq_true rfl) ?_
  refine g_dup (pc1 := 33) d_Past_init_32 rfl rfl ?_
  refine g_callI (pc1 := 36) (E' := (6, 34, 129)) (As := []) (rest := [.ref 122, .int 6, .ref 79]) d_Past_init_33 rfl mo_Past_17 mi_State_init rfl rfl (by decide) rfl rfl (Nat.le_of_ble_eq_true rfl) ⟨Nat.le_of_ble_eq_true rfl, Nat.le_of_ble_eq_true rfl⟩ rfl ?_
  refine t0_State_init 122 (by decide : 122 ∈ lSt) (Fz.up (Fz.wR F5202 (by decide) eR5204)) (fun M5206 L5207 R5208 eM5206 eL5207 eR5208 F5209 => ?_)
  dsimp only
  have q5210 : R5208 78 0 = some 79 := ((congrFun (congrFun eR5208 78) 0).trans (kR_State_ne (by decide))).trans q5205
  refine g_aast (pc1 := 37) (ci := 6) (r := ("CookedLaw$State", T_State, 10)) d_Past_init_36 rfl sh_79 (by decide) (vin_lit (x := 6) (by decide)) (shSt_0 (by decide : 122 ∈ lSt)) (by decide) rfl rfl ?_
  rw [show ((6 : Int32).toNatClampNeg) = 6 from by decide]
  refine Wp.topR (fun R5211 eR5211 => ?_)
  have q5212 : R5211 78 0 = some 79 := (rdR_ne eR5211 (by decide)).trans q5210
  refine g_iinc (pc1 := 40) (v := 7) (lv' := [(0, .ref 78), (1, .int 7)]) d_Past_init_37 rfl 1 rfl (by decide) (by decide) [1, 0] rfl ?_
  refine g_goto (tgt := 15) d_Past_init_40 (by decide) ?_
  refine g_iload_n (pc1 := 16) d_Past_init_15 rfl 1 rfl ?_
  refine g_aload_n (pc1 := 17) d_Past_init_16 rfl 0 rfl ?_
  refine g_getr (pc1 := 20) d_Past_init_17 rfl ⟨_, fo_Past_11⟩ sh_78 (by decide) q5212 ?_
  refine g_alen (pc1 := 21) (v := 40) d_Past_init_20 rfl sh_79 (by decide) (by decide) (by decide) (by decide) ?_
  refine g_icmp_ge (pc1 := 24) (tgt := 43) d_Past_init_21 (by decide) rfl (fun h => absurd h (by decide)) (fun _ => ?_)
  refine g_aload_n (pc1 := 25) d_Past_init_24 rfl 0 rfl ?_
  refine g_getr (pc1 := 28) d_Past_init_25 rfl ⟨_, fo_Past_11⟩ sh_78 (by decide) q5212 ?_
  refine g_iload_n (pc1 := 29) d_Past_init_28 rfl 1 rfl ?_
  refine g_new (pc1 := 32) (T := T_State) (ty := ty_State) d_Past_init_29 rfl rfl (fun w h => gtb_of (in_State w h).1 (in_State w h).2) tyk_State (by decide) ck_Past_9 cn_State cz_State (shSt_0 (by decide : 129 ∈ lSt)) (fun i => ((Fz.wR F5209 (by decide) eR5211) _ (Nat.le_refl _) i).1) (fun i => ((Fz.wR F5209 (by decide) eR5211) _ (Nat.le_refl _) i).2.2) (Nat.le_of_ble_eq_true rfl) (Nat.le_of_ble_eq_true rfl) ?_
  refine g_dup (pc1 := 33) d_Past_init_32 rfl rfl ?_
  refine g_callI (pc1 := 36) (E' := (6, 34, 136)) (As := []) (rest := [.ref 129, .int 7, .ref 79]) d_Past_init_33 rfl mo_Past_17 mi_State_init rfl rfl (by decide) rfl rfl (Nat.le_of_ble_eq_true rfl) ⟨Nat.le_of_ble_eq_true rfl, Nat.le_of_ble_eq_true rfl⟩ rfl ?_
  refine t0_State_init 129 (by decide : 129 ∈ lSt) (Fz.up (Fz.wR F5209 (by decide) eR5211)) (fun M5213 L5214 R5215 eM5213 eL5214 eR5215 F5216 => ?_)
  dsimp only
  have q5217 : R5215 78 0 = some 79 := ((congrFun (congrFun eR5215 78) 0).trans (kR_State_ne (by decide))).trans q5212
  refine g_aast (pc1 := 37) (ci := 6) (r := ("CookedLaw$State", T_State, 10)) d_Past_init_36 rfl sh_79 (by decide) (vin_lit (x := 7) (by decide)) (shSt_0 (by decide : 129 ∈ lSt)) (by decide) rfl rfl ?_
  rw [show ((7 : Int32).toNatClampNeg) = 7 from by decide]
  refine Wp.topR (fun R5218 eR5218 => ?_)
  have q5219 : R5218 78 0 = some 79 := (rdR_ne eR5218 (by decide)).trans q5217
  refine g_iinc (pc1 := 40) (v := 8) (lv' := [(0, .ref 78), (1, .int 8)]) d_Past_init_37 rfl 1 rfl (by decide) (by decide) [1, 0] rfl ?_
  refine g_goto (tgt := 15) d_Past_init_40 (by decide) ?_
  refine g_iload_n (pc1 := 16) d_Past_init_15 rfl 1 rfl ?_
  refine g_aload_n (pc1 := 17) d_Past_init_16 rfl 0 rfl ?_
  refine g_getr (pc1 := 20) d_Past_init_17 rfl ⟨_, fo_Past_11⟩ sh_78 (by decide) q5219 ?_
  refine g_alen (pc1 := 21) (v := 40) d_Past_init_20 rfl sh_79 (by decide) (by decide) (by decide) (by decide) ?_
  refine g_icmp_ge (pc1 := 24) (tgt := 43) d_Past_init_21 (by decide) rfl (fun h => absurd h (by decide)) (fun _ => ?_)
  refine g_aload_n (pc1 := 25) d_Past_init_24 rfl 0 rfl ?_
  refine g_getr (pc1 := 28) d_Past_init_25 rfl ⟨_, fo_Past_11⟩ sh_78 (by decide) q5219 ?_
  refine g_iload_n (pc1 := 29) d_Past_init_28 rfl 1 rfl ?_
  refine g_new (pc1 := 32) (T := T_State) (ty := ty_State) d_Past_init_29 rfl rfl (fun w h => gtb_of (in_State w h).1 (in_State w h).2) tyk_State (by decide) ck_Past_9 cn_State cz_State (shSt_0 (by decide : 136 ∈ lSt)) (fun i => ((Fz.wR F5216 (by decide) eR5218) _ (Nat.le_refl _) i).1) (fun i => ((Fz.wR F5216 (by decide) eR5218) _ (Nat.le_refl _) i).2.2) (Nat.le_of_ble_eq_true rfl) (Nat.le_of_ble_eq_true rfl) ?_
  refine g_dup (pc1 := 33) d_Past_init_32 rfl rfl ?_
  refine g_callI (pc1 := 36) (E' := (6, 34, 143)) (As := []) (rest := [.ref 136, .int 8, .ref 79]) d_Past_init_33 rfl mo_Past_17 mi_State_init rfl rfl (by decide) rfl rfl (Nat.le_of_ble_eq_true rfl) ⟨Nat.le_of_ble_eq_true rfl, Nat.le_of_ble_eq_true rfl⟩ rfl ?_
  refine t0_State_init 136 (by decide : 136 ∈ lSt) (Fz.up (Fz.wR F5216 (by decide) eR5218)) (fun M5220 L5221 R5222 eM5220 eL5221 eR5222 F5223 => ?_)
  dsimp only
  have q5224 : R5222 78 0 = some 79 := ((congrFun (congrFun eR5222 78) 0).trans (kR_State_ne (by decide))).trans q5219
  refine g_aast (pc1 := 37) (ci := 6) (r := ("CookedLaw$State", T_State, 10)) d_Past_init_36 rfl sh_79 (by decide) (vin_lit (x := 8) (by decide)) (shSt_0 (by decide : 136 ∈ lSt)) (by decide) rfl rfl ?_
  rw [show ((8 : Int32).toNatClampNeg) = 8 from by decide]
  refine Wp.topR (fun R5225 eR5225 => ?_)
  have q5226 : R5225 78 0 = some 79 := (rdR_ne eR5225 (by decide)).trans q5224
  refine g_iinc (pc1 := 40) (v := 9) (lv' := [(0, .ref 78), (1, .int 9)]) d_Past_init_37 rfl 1 rfl (by decide) (by decide) [1, 0] rfl ?_
  refine g_goto (tgt := 15) d_Past_init_40 (by decide) ?_
  refine g_iload_n (pc1 := 16) d_Past_init_15 rfl 1 rfl ?_
  refine g_aload_n (pc1 := 17) d_Past_init_16 rfl 0 rfl ?_
  refine g_getr (pc1 := 20) d_Past_init_17 rfl ⟨_, fo_Past_11⟩ sh_78 (by decide) q5226 ?_
  refine g_alen (pc1 := 21) (v := 40) d_Past_init_20 rfl sh_79 (by decide) (by decide) (by decide) (by decide) ?_
  refine g_icmp_ge (pc1 := 24) (tgt := 43) d_Past_init_21 (by decide) rfl (fun h => absurd h (by decide)) (fun _ => ?_)
  refine g_aload_n (pc1 := 25) d_Past_init_24 rfl 0 rfl ?_
  refine g_getr (pc1 := 28) d_Past_init_25 rfl ⟨_, fo_Past_11⟩ sh_78 (by decide) q5226 ?_
  refine g_iload_n (pc1 := 29) d_Past_init_28 rfl 1 rfl ?_
  refine g_new (pc1 := 32) (T := T_State) (ty := ty_State) d_Past_init_29 rfl rfl (fun w h => gtb_of (in_State w h).1 (in_State w h).2) tyk_State (by decide) ck_Past_9 cn_State cz_State (shSt_0 (by decide : 143 ∈ lSt)) (fun i => ((Fz.wR F5223 (by decide) eR5225) _ (Nat.le_refl _) i).1) (fun i => ((Fz.wR F5223 (by decide) eR5225) _ (Nat.le_refl _) i).2.2) (Nat.le_of_ble_eq_true rfl) (Nat.le_of_ble_eq_true rfl) ?_
  refine g_dup (pc1 := 33) d_Past_init_32 rfl rfl ?_
  refine g_callI (pc1 := 36) (E' := (6, 34, 150)) (As := []) (rest := [.ref 143, .int 9, .ref 79]) d_Past_init_33 rfl mo_Past_17 mi_State_init rfl rfl (by decide) rfl rfl (Nat.le_of_ble_eq_true rfl) ⟨Nat.le_of_ble_eq_true rfl, Nat.le_of_ble_eq_true rfl⟩ rfl ?_
  refine t0_State_init 143 (by decide : 143 ∈ lSt) (Fz.up (Fz.wR F5223 (by decide) eR5225)) (fun M5227 L5228 R5229 eM5227 eL5228 eR5229 F5230 => ?_)
  dsimp only
  have q5231 : R5229 78 0 = some 79 := ((congrFun (congrFun eR5229 78) 0).trans (kR_State_ne (by decide))).trans q5226
  refine g_aast (pc1 := 37) (ci := 6) (r := ("CookedLaw$State", T_State, 10)) d_Past_init_36 rfl sh_79 (by decide) (vin_lit (x := 9) (by decide)) (shSt_0 (by decide : 143 ∈ lSt)) (by decide) rfl rfl ?_
  rw [show ((9 : Int32).toNatClampNeg) = 9 from by decide]
  refine Wp.topR (fun R5232 eR5232 => ?_)
  have q5233 : R5232 78 0 = some 79 := (rdR_ne eR5232 (by decide)).trans q5231
  refine g_iinc (pc1 := 40) (v := 10) (lv' := [(0, .ref 78), (1, .int 10)]) d_Past_init_37 rfl 1 rfl (by decide) (by decide) [1, 0] rfl ?_
  refine g_goto (tgt := 15) d_Past_init_40 (by decide) ?_
  refine g_iload_n (pc1 := 16) d_Past_init_15 rfl 1 rfl ?_
  refine g_aload_n (pc1 := 17) d_Past_init_16 rfl 0 rfl ?_
  refine g_getr (pc1 := 20) d_Past_init_17 rfl ⟨_, fo_Past_11⟩ sh_78 (by decide) q5233 ?_
  refine g_alen (pc1 := 21) (v := 40) d_Past_init_20 rfl sh_79 (by decide) (by decide) (by decide) (by decide) ?_
  refine g_icmp_ge (pc1 := 24) (tgt := 43) d_Past_init_21 (by decide) rfl (fun h => absurd h (by decide)) (fun _ => ?_)
  refine g_aload_n (pc1 := 25) d_Past_init_24 rfl 0 rfl ?_
  refine g_getr (pc1 := 28) d_Past_init_25 rfl ⟨_, fo_Past_11⟩ sh_78 (by decide) q5233 ?_
  refine g_iload_n (pc1 := 29) d_Past_init_28 rfl 1 rfl ?_
  refine g_new (pc1 := 32) (T := T_State) (ty := ty_State) d_Past_init_29 rfl rfl (fun w h => gtb_of (in_State w h).1 (in_State w h).2) tyk_State (by decide) ck_Past_9 cn_State cz_State (shSt_0 (by decide : 150 ∈ lSt)) (fun i => ((Fz.wR F5230 (by decide) eR5232) _ (Nat.le_refl _) i).1) (fun i => ((Fz.wR F5230 (by decide) eR5232) _ (Nat.le_refl _) i).2.2) (Nat.le_of_ble_eq_true rfl) (Nat.le_of_ble_eq_true rfl) ?_
  refine g_dup (pc1 := 33) d_Past_init_32 rfl rfl ?_
  refine g_callI (pc1 := 36) (E' := (6, 34, 157)) (As := []) (rest := [.ref 150, .int 10, .ref 79]) d_Past_init_33 rfl mo_Past_17 mi_State_init rfl rfl (by decide) rfl rfl (Nat.le_of_ble_eq_true rfl) ⟨Nat.le_of_ble_eq_true rfl, Nat.le_of_ble_eq_true rfl⟩ rfl ?_
  refine t0_State_init 150 (by decide : 150 ∈ lSt) (Fz.up (Fz.wR F5230 (by decide) eR5232)) (fun M5234 L5235 R5236 eM5234 eL5235 eR5236 F5237 => ?_)
  dsimp only
  have q5238 : R5236 78 0 = some 79 := ((congrFun (congrFun eR5236 78) 0).trans (kR_State_ne (by decide))).trans q5233
  refine g_aast (pc1 := 37) (ci := 6) (r := ("CookedLaw$State", T_State, 10)) d_Past_init_36 rfl sh_79 (by decide) (vin_lit (x := 10) (by decide)) (shSt_0 (by decide : 150 ∈ lSt)) (by decide) rfl rfl ?_
  rw [show ((10 : Int32).toNatClampNeg) = 10 from by decide]
  refine Wp.topR (fun R5239 eR5239 => ?_)
  have q5240 : R5239 78 0 = some 79 := (rdR_ne eR5239 (by decide)).trans q5238
  refine g_iinc (pc1 := 40) (v := 11) (lv' := [(0, .ref 78), (1, .int 11)]) d_Past_init_37 rfl 1 rfl (by decide) (by decide) [1, 0] rfl ?_
  refine g_goto (tgt := 15) d_Past_init_40 (by decide) ?_
  refine g_iload_n (pc1 := 16) d_Past_init_15 rfl 1 rfl ?_
  refine g_aload_n (pc1 := 17) d_Past_init_16 rfl 0 rfl ?_
  refine g_getr (pc1 := 20) d_Past_init_17 rfl ⟨_, fo_Past_11⟩ sh_78 (by decide) q5240 ?_
  refine g_alen (pc1 := 21) (v := 40) d_Past_init_20 rfl sh_79 (by decide) (by decide) (by decide) (by decide) ?_
  refine g_icmp_ge (pc1 := 24) (tgt := 43) d_Past_init_21 (by decide) rfl (fun h => absurd h (by decide)) (fun _ => ?_)
  refine g_aload_n (pc1 := 25) d_Past_init_24 rfl 0 rfl ?_
  refine g_getr (pc1 := 28) d_Past_init_25 rfl ⟨_, fo_Past_11⟩ sh_78 (by decide) q5240 ?_
  refine g_iload_n (pc1 := 29) d_Past_init_28 rfl 1 rfl ?_
  refine g_new (pc1 := 32) (T := T_State) (ty := ty_State) d_Past_init_29 rfl rfl (fun w h => gtb_of (in_State w h).1 (in_State w h).2) tyk_State (by decide) ck_Past_9 cn_State cz_State (shSt_0 (by decide : 157 ∈ lSt)) (fun i => ((Fz.wR F5237 (by decide) eR5239) _ (Nat.le_refl _) i).1) (fun i => ((Fz.wR F5237 (by decide) eR5239) _ (Nat.le_refl _) i).2.2) (Nat.le_of_ble_eq_true rfl) (Nat.le_of_ble_eq_true rfl) ?_
  refine g_dup (pc1 := 33) d_Past_init_32 rfl rfl ?_
  refine g_callI (pc1 := 36) (E' := (6, 34, 164)) (As := []) (rest := [.ref 157, .int 11, .ref 79]) d_Past_init_33 rfl mo_Past_17 mi_State_init rfl rfl (by decide) rfl rfl (Nat.le_of_ble_eq_true rfl) ⟨Nat.le_of_ble_eq_true rfl, Nat.le_of_ble_eq_true rfl⟩ rfl ?_
  refine t0_State_init 157 (by decide : 157 ∈ lSt) (Fz.up (Fz.wR F5237 (by decide) eR5239)) (fun M5241 L5242 R5243 eM5241 eL5242 eR5243 F5244 => ?_)
  dsimp only
  have q5245 : R5243 78 0 = some 79 := ((congrFun (congrFun eR5243 78) 0).trans (kR_State_ne (by decide))).trans q5240
  refine g_aast (pc1 := 37) (ci := 6) (r := ("CookedLaw$State", T_State, 10)) d_Past_init_36 rfl sh_79 (by decide) (vin_lit (x := 11) (by decide)) (shSt_0 (by decide : 157 ∈ lSt)) (by decide) rfl rfl ?_
  rw [show ((11 : Int32).toNatClampNeg) = 11 from by decide]
  refine Wp.topR (fun R5246 eR5246 => ?_)
  have q5247 : R5246 78 0 = some 79 := (rdR_ne eR5246 (by decide)).trans q5245
  refine g_iinc (pc1 := 40) (v := 12) (lv' := [(0, .ref 78), (1, .int 12)]) d_Past_init_37 rfl 1 rfl (by decide) (by decide) [1, 0] rfl ?_
  refine g_goto (tgt := 15) d_Past_init_40 (by decide) ?_
  refine g_iload_n (pc1 := 16) d_Past_init_15 rfl 1 rfl ?_
  refine g_aload_n (pc1 := 17) d_Past_init_16 rfl 0 rfl ?_
  refine g_getr (pc1 := 20) d_Past_init_17 rfl ⟨_, fo_Past_11⟩ sh_78 (by decide) q5247 ?_
  refine g_alen (pc1 := 21) (v := 40) d_Past_init_20 rfl sh_79 (by decide) (by decide) (by decide) (by decide) ?_
  refine g_icmp_ge (pc1 := 24) (tgt := 43) d_Past_init_21 (by decide) rfl (fun h => absurd h (by decide)) (fun _ => ?_)
  refine g_aload_n (pc1 := 25) d_Past_init_24 rfl 0 rfl ?_
  refine g_getr (pc1 := 28) d_Past_init_25 rfl ⟨_, fo_Past_11⟩ sh_78 (by decide) q5247 ?_
  refine g_iload_n (pc1 := 29) d_Past_init_28 rfl 1 rfl ?_
  refine g_new (pc1 := 32) (T := T_State) (ty := ty_State) d_Past_init_29 rfl rfl (fun w h => gtb_of (in_State w h).1 (in_State w h).2) tyk_State (by decide) ck_Past_9 cn_State cz_State (shSt_0 (by decide : 164 ∈ lSt)) (fun i => ((Fz.wR F5244 (by decide) eR5246) _ (Nat.le_refl _) i).1) (fun i => ((Fz.wR F5244 (by decide) eR5246) _ (Nat.le_refl _) i).2.2) (Nat.le_of_ble_eq_true rfl) (Nat.le_of_ble_eq_true rfl) ?_
  refine g_dup (pc1 := 33) d_Past_init_32 rfl rfl ?_
  refine g_callI (pc1 := 36) (E' := (6, 34, 171)) (As := []) (rest := [.ref 164, .int 12, .ref 79]) d_Past_init_33 rfl mo_Past_17 mi_State_init rfl rfl (by decide) rfl rfl (Nat.le_of_ble_eq_true rfl) ⟨Nat.le_of_ble_eq_true rfl, Nat.le_of_ble_eq_true rfl⟩ rfl ?_
  refine t0_State_init 164 (by decide : 164 ∈ lSt) (Fz.up (Fz.wR F5244 (by decide) eR5246)) (fun M5248 L5249 R5250 eM5248 eL5249 eR5250 F5251 => ?_)
  dsimp only
  have q5252 : R5250 78 0 = some 79 := ((congrFun (congrFun eR5250 78) 0).trans (kR_State_ne (by decide))).trans q5247
  refine g_aast (pc1 := 37) (ci := 6) (r := ("CookedLaw$State", T_State, 10)) d_Past_init_36 rfl sh_79 (by decide) (vin_lit (x := 12) (by decide)) (shSt_0 (by decide : 164 ∈ lSt)) (by decide) rfl rfl ?_
  rw [show ((12 : Int32).toNatClampNeg) = 12 from by decide]
  refine Wp.topR (fun R5253 eR5253 => ?_)
  have q5254 : R5253 78 0 = some 79 := (rdR_ne eR5253 (by decide)).trans q5252
  refine g_iinc (pc1 := 40) (v := 13) (lv' := [(0, .ref 78), (1, .int 13)]) d_Past_init_37 rfl 1 rfl (by decide) (by decide) [1, 0] rfl ?_
  refine g_goto (tgt := 15) d_Past_init_40 (by decide) ?_
  refine g_iload_n (pc1 := 16) d_Past_init_15 rfl 1 rfl ?_
  refine g_aload_n (pc1 := 17) d_Past_init_16 rfl 0 rfl ?_
  refine g_getr (pc1 := 20) d_Past_init_17 rfl ⟨_, fo_Past_11⟩ sh_78 (by decide) q5254 ?_
  refine g_alen (pc1 := 21) (v := 40) d_Past_init_20 rfl sh_79 (by decide) (by decide) (by decide) (by decide) ?_
  refine g_icmp_ge (pc1 := 24) (tgt := 43) d_Past_init_21 (by decide) rfl (fun h => absurd h (by decide)) (fun _ => ?_)
  refine g_aload_n (pc1 := 25) d_Past_init_24 rfl 0 rfl ?_
  refine g_getr (pc1 := 28) d_Past_init_25 rfl ⟨_, fo_Past_11⟩ sh_78 (by decide) q5254 ?_
  refine g_iload_n (pc1 := 29) d_Past_init_28 rfl 1 rfl ?_
  refine g_new (pc1 := 32) (T := T_State) (ty := ty_State) d_Past_init_29 rfl rfl (fun w h => gtb_of (in_State w h).1 (in_State w h).2) tyk_State (by decide) ck_Past_9 cn_State cz_State (shSt_0 (by decide : 171 ∈ lSt)) (fun i => ((Fz.wR F5251 (by decide) eR5253) _ (Nat.le_refl _) i).1) (fun i => ((Fz.wR F5251 (by decide) eR5253) _ (Nat.le_refl _) i).2.2) (Nat.le_of_ble_eq_true rfl) (Nat.le_of_ble_eq_true rfl) ?_
  refine g_dup (pc1 := 33) d_Past_init_32 rfl rfl ?_
  refine g_callI (pc1 := 36) (E' := (6, 34, 178)) (As := []) (rest := [.ref 171, .int 13, .ref 79]) d_Past_init_33 rfl mo_Past_17 mi_State_init rfl rfl (by decide) rfl rfl (Nat.le_of_ble_eq_true rfl) ⟨Nat.le_of_ble_eq_true rfl, Nat.le_of_ble_eq_true rfl⟩ rfl ?_
  refine t0_State_init 171 (by decide : 171 ∈ lSt) (Fz.up (Fz.wR F5251 (by decide) eR5253)) (fun M5255 L5256 R5257 eM5255 eL5256 eR5257 F5258 => ?_)
  dsimp only
  have q5259 : R5257 78 0 = some 79 := ((congrFun (congrFun eR5257 78) 0).trans (kR_State_ne (by decide))).trans q5254
  refine g_aast (pc1 := 37) (ci := 6) (r := ("CookedLaw$State", T_State, 10)) d_Past_init_36 rfl sh_79 (by decide) (vin_lit (x := 13) (by decide)) (shSt_0 (by decide : 171 ∈ lSt)) (by decide) rfl rfl ?_
  rw [show ((13 : Int32).toNatClampNeg) = 13 from by decide]
  refine Wp.topR (fun R5260 eR5260 => ?_)
  have q5261 : R5260 78 0 = some 79 := (rdR_ne eR5260 (by decide)).trans q5259
  refine g_iinc (pc1 := 40) (v := 14) (lv' := [(0, .ref 78), (1, .int 14)]) d_Past_init_37 rfl 1 rfl (by decide) (by decide) [1, 0] rfl ?_
  refine g_goto (tgt := 15) d_Past_init_40 (by decide) ?_
  refine g_iload_n (pc1 := 16) d_Past_init_15 rfl 1 rfl ?_
  refine g_aload_n (pc1 := 17) d_Past_init_16 rfl 0 rfl ?_
  refine g_getr (pc1 := 20) d_Past_init_17 rfl ⟨_, fo_Past_11⟩ sh_78 (by decide) q5261 ?_
  refine g_alen (pc1 := 21) (v := 40) d_Past_init_20 rfl sh_79 (by decide) (by decide) (by decide) (by decide) ?_
  refine g_icmp_ge (pc1 := 24) (tgt := 43) d_Past_init_21 (by decide) rfl (fun h => absurd h (by decide)) (fun _ => ?_)
  refine g_aload_n (pc1 := 25) d_Past_init_24 rfl 0 rfl ?_
  refine g_getr (pc1 := 28) d_Past_init_25 rfl ⟨_, fo_Past_11⟩ sh_78 (by decide) q5261 ?_
  refine g_iload_n (pc1 := 29) d_Past_init_28 rfl 1 rfl ?_
  refine g_new (pc1 := 32) (T := T_State) (ty := ty_State) d_Past_init_29 rfl rfl (fun w h => gtb_of (in_State w h).1 (in_State w h).2) tyk_State (by decide) ck_Past_9 cn_State cz_State (shSt_0 (by decide : 178 ∈ lSt)) (fun i => ((Fz.wR F5258 (by decide) eR5260) _ (Nat.le_refl _) i).1) (fun i => ((Fz.wR F5258 (by decide) eR5260) _ (Nat.le_refl _) i).2.2) (Nat.le_of_ble_eq_true rfl) (Nat.le_of_ble_eq_true rfl) ?_
  refine g_dup (pc1 := 33) d_Past_init_32 rfl rfl ?_
  refine g_callI (pc1 := 36) (E' := (6, 34, 185)) (As := []) (rest := [.ref 178, .int 14, .ref 79]) d_Past_init_33 rfl mo_Past_17 mi_State_init rfl rfl (by decide) rfl rfl (Nat.le_of_ble_eq_true rfl) ⟨Nat.le_of_ble_eq_true rfl, Nat.le_of_ble_eq_true rfl⟩ rfl ?_
  refine t0_State_init 178 (by decide : 178 ∈ lSt) (Fz.up (Fz.wR F5258 (by decide) eR5260)) (fun M5262 L5263 R5264 eM5262 eL5263 eR5264 F5265 => ?_)
  dsimp only
  have q5266 : R5264 78 0 = some 79 := ((congrFun (congrFun eR5264 78) 0).trans (kR_State_ne (by decide))).trans q5261
  refine g_aast (pc1 := 37) (ci := 6) (r := ("CookedLaw$State", T_State, 10)) d_Past_init_36 rfl sh_79 (by decide) (vin_lit (x := 14) (by decide)) (shSt_0 (by decide : 178 ∈ lSt)) (by decide) rfl rfl ?_
  rw [show ((14 : Int32).toNatClampNeg) = 14 from by decide]
  refine Wp.topR (fun R5267 eR5267 => ?_)
  have q5268 : R5267 78 0 = some 79 := (rdR_ne eR5267 (by decide)).trans q5266
  refine g_iinc (pc1 := 40) (v := 15) (lv' := [(0, .ref 78), (1, .int 15)]) d_Past_init_37 rfl 1 rfl (by decide) (by decide) [1, 0] rfl ?_
  refine g_goto (tgt := 15) d_Past_init_40 (by decide) ?_
  refine g_iload_n (pc1 := 16) d_Past_init_15 rfl 1 rfl ?_
  refine g_aload_n (pc1 := 17) d_Past_init_16 rfl 0 rfl ?_
  refine g_getr (pc1 := 20) d_Past_init_17 rfl ⟨_, fo_Past_11⟩ sh_78 (by decide) q5268 ?_
  refine g_alen (pc1 := 21) (v := 40) d_Past_init_20 rfl sh_79 (by decide) (by decide) (by decide) (by decide) ?_
  refine g_icmp_ge (pc1 := 24) (tgt := 43) d_Past_init_21 (by decide) rfl (fun h => absurd h (by decide)) (fun _ => ?_)
  refine g_aload_n (pc1 := 25) d_Past_init_24 rfl 0 rfl ?_
  refine g_getr (pc1 := 28) d_Past_init_25 rfl ⟨_, fo_Past_11⟩ sh_78 (by decide) q5268 ?_
  refine g_iload_n (pc1 := 29) d_Past_init_28 rfl 1 rfl ?_
  refine g_new (pc1 := 32) (T := T_State) (ty := ty_State) d_Past_init_29 rfl rfl (fun w h => gtb_of (in_State w h).1 (in_State w h).2) tyk_State (by decide) ck_Past_9 cn_State cz_State (shSt_0 (by decide : 185 ∈ lSt)) (fun i => ((Fz.wR F5265 (by decide) eR5267) _ (Nat.le_refl _) i).1) (fun i => ((Fz.wR F5265 (by decide) eR5267) _ (Nat.le_refl _) i).2.2) (Nat.le_of_ble_eq_true rfl) (Nat.le_of_ble_eq_true rfl) ?_
  refine g_dup (pc1 := 33) d_Past_init_32 rfl rfl ?_
  refine g_callI (pc1 := 36) (E' := (6, 34, 192)) (As := []) (rest := [.ref 185, .int 15, .ref 79]) d_Past_init_33 rfl mo_Past_17 mi_State_init rfl rfl (by decide) rfl rfl (Nat.le_of_ble_eq_true rfl) ⟨Nat.le_of_ble_eq_true rfl, Nat.le_of_ble_eq_true rfl⟩ rfl ?_
  refine t0_State_init 185 (by decide : 185 ∈ lSt) (Fz.up (Fz.wR F5265 (by decide) eR5267)) (fun M5269 L5270 R5271 eM5269 eL5270 eR5271 F5272 => ?_)
  dsimp only
  have q5273 : R5271 78 0 = some 79 := ((congrFun (congrFun eR5271 78) 0).trans (kR_State_ne (by decide))).trans q5268
  refine g_aast (pc1 := 37) (ci := 6) (r := ("CookedLaw$State", T_State, 10)) d_Past_init_36 rfl sh_79 (by decide) (vin_lit (x := 15) (by decide)) (shSt_0 (by decide : 185 ∈ lSt)) (by decide) rfl rfl ?_
  rw [show ((15 : Int32).toNatClampNeg) = 15 from by decide]
  refine Wp.topR (fun R5274 eR5274 => ?_)
  have q5275 : R5274 78 0 = some 79 := (rdR_ne eR5274 (by decide)).trans q5273
  refine g_iinc (pc1 := 40) (v := 16) (lv' := [(0, .ref 78), (1, .int 16)]) d_Past_init_37 rfl 1 rfl (by decide) (by decide) [1, 0] rfl ?_
  refine g_goto (tgt := 15) d_Past_init_40 (by decide) ?_
  refine g_iload_n (pc1 := 16) d_Past_init_15 rfl 1 rfl ?_
  refine g_aload_n (pc1 := 17) d_Past_init_16 rfl 0 rfl ?_
  refine g_getr (pc1 := 20) d_Past_init_17 rfl ⟨_, fo_Past_11⟩ sh_78 (by decide) q5275 ?_
  refine g_alen (pc1 := 21) (v := 40) d_Past_init_20 rfl sh_79 (by decide) (by decide) (by decide) (by decide) ?_
  refine g_icmp_ge (pc1 := 24) (tgt := 43) d_Past_init_21 (by decide) rfl (fun h => absurd h (by decide)) (fun _ => ?_)
  refine g_aload_n (pc1 := 25) d_Past_init_24 rfl 0 rfl ?_
  refine g_getr (pc1 := 28) d_Past_init_25 rfl ⟨_, fo_Past_11⟩ sh_78 (by decide) q5275 ?_
  refine g_iload_n (pc1 := 29) d_Past_init_28 rfl 1 rfl ?_
  refine g_new (pc1 := 32) (T := T_State) (ty := ty_State) d_Past_init_29 rfl rfl (fun w h => gtb_of (in_State w h).1 (in_State w h).2) tyk_State (by decide) ck_Past_9 cn_State cz_State (shSt_0 (by decide : 192 ∈ lSt)) (fun i => ((Fz.wR F5272 (by decide) eR5274) _ (Nat.le_refl _) i).1) (fun i => ((Fz.wR F5272 (by decide) eR5274) _ (Nat.le_refl _) i).2.2) (Nat.le_of_ble_eq_true rfl) (Nat.le_of_ble_eq_true rfl) ?_
  refine g_dup (pc1 := 33) d_Past_init_32 rfl rfl ?_
  refine g_callI (pc1 := 36) (E' := (6, 34, 199)) (As := []) (rest := [.ref 192, .int 16, .ref 79]) d_Past_init_33 rfl mo_Past_17 mi_State_init rfl rfl (by decide) rfl rfl (Nat.le_of_ble_eq_true rfl) ⟨Nat.le_of_ble_eq_true rfl, Nat.le_of_ble_eq_true rfl⟩ rfl ?_
  refine t0_State_init 192 (by decide : 192 ∈ lSt) (Fz.up (Fz.wR F5272 (by decide) eR5274)) (fun M5276 L5277 R5278 eM5276 eL5277 eR5278 F5279 => ?_)
  dsimp only
  have q5280 : R5278 78 0 = some 79 := ((congrFun (congrFun eR5278 78) 0).trans (kR_State_ne (by decide))).trans q5275
  refine g_aast (pc1 := 37) (ci := 6) (r := ("CookedLaw$State", T_State, 10)) d_Past_init_36 rfl sh_79 (by decide) (vin_lit (x := 16) (by decide)) (shSt_0 (by decide : 192 ∈ lSt)) (by decide) rfl rfl ?_
  rw [show ((16 : Int32).toNatClampNeg) = 16 from by decide]
  refine Wp.topR (fun R5281 eR5281 => ?_)
  have q5282 : R5281 78 0 = some 79 := (rdR_ne eR5281 (by decide)).trans q5280
  refine g_iinc (pc1 := 40) (v := 17) (lv' := [(0, .ref 78), (1, .int 17)]) d_Past_init_37 rfl 1 rfl (by decide) (by decide) [1, 0] rfl ?_
  refine g_goto (tgt := 15) d_Past_init_40 (by decide) ?_
  refine g_iload_n (pc1 := 16) d_Past_init_15 rfl 1 rfl ?_
  refine g_aload_n (pc1 := 17) d_Past_init_16 rfl 0 rfl ?_
  refine g_getr (pc1 := 20) d_Past_init_17 rfl ⟨_, fo_Past_11⟩ sh_78 (by decide) q5282 ?_
  refine g_alen (pc1 := 21) (v := 40) d_Past_init_20 rfl sh_79 (by decide) (by decide) (by decide) (by decide) ?_
  refine g_icmp_ge (pc1 := 24) (tgt := 43) d_Past_init_21 (by decide) rfl (fun h => absurd h (by decide)) (fun _ => ?_)
  refine g_aload_n (pc1 := 25) d_Past_init_24 rfl 0 rfl ?_
  refine g_getr (pc1 := 28) d_Past_init_25 rfl ⟨_, fo_Past_11⟩ sh_78 (by decide) q5282 ?_
  refine g_iload_n (pc1 := 29) d_Past_init_28 rfl 1 rfl ?_
  refine g_new (pc1 := 32) (T := T_State) (ty := ty_State) d_Past_init_29 rfl rfl (fun w h => gtb_of (in_State w h).1 (in_State w h).2) tyk_State (by decide) ck_Past_9 cn_State cz_State (shSt_0 (by decide : 199 ∈ lSt)) (fun i => ((Fz.wR F5279 (by decide) eR5281) _ (Nat.le_refl _) i).1) (fun i => ((Fz.wR F5279 (by decide) eR5281) _ (Nat.le_refl _) i).2.2) (Nat.le_of_ble_eq_true rfl) (Nat.le_of_ble_eq_true rfl) ?_
  refine g_dup (pc1 := 33) d_Past_init_32 rfl rfl ?_
  refine g_callI (pc1 := 36) (E' := (6, 34, 206)) (As := []) (rest := [.ref 199, .int 17, .ref 79]) d_Past_init_33 rfl mo_Past_17 mi_State_init rfl rfl (by decide) rfl rfl (Nat.le_of_ble_eq_true rfl) ⟨Nat.le_of_ble_eq_true rfl, Nat.le_of_ble_eq_true rfl⟩ rfl ?_
  refine t0_State_init 199 (by decide : 199 ∈ lSt) (Fz.up (Fz.wR F5279 (by decide) eR5281)) (fun M5283 L5284 R5285 eM5283 eL5284 eR5285 F5286 => ?_)
  dsimp only
  have q5287 : R5285 78 0 = some 79 := ((congrFun (congrFun eR5285 78) 0).trans (kR_State_ne (by decide))).trans q5282
  refine g_aast (pc1 := 37) (ci := 6) (r := ("CookedLaw$State", T_State, 10)) d_Past_init_36 rfl sh_79 (by decide) (vin_lit (x := 17) (by decide)) (shSt_0 (by decide : 199 ∈ lSt)) (by decide) rfl rfl ?_
  rw [show ((17 : Int32).toNatClampNeg) = 17 from by decide]
  refine Wp.topR (fun R5288 eR5288 => ?_)
  have q5289 : R5288 78 0 = some 79 := (rdR_ne eR5288 (by decide)).trans q5287
  refine g_iinc (pc1 := 40) (v := 18) (lv' := [(0, .ref 78), (1, .int 18)]) d_Past_init_37 rfl 1 rfl (by decide) (by decide) [1, 0] rfl ?_
  refine g_goto (tgt := 15) d_Past_init_40 (by decide) ?_
  refine g_iload_n (pc1 := 16) d_Past_init_15 rfl 1 rfl ?_
  refine g_aload_n (pc1 := 17) d_Past_init_16 rfl 0 rfl ?_
  refine g_getr (pc1 := 20) d_Past_init_17 rfl ⟨_, fo_Past_11⟩ sh_78 (by decide) q5289 ?_
  refine g_alen (pc1 := 21) (v := 40) d_Past_init_20 rfl sh_79 (by decide) (by decide) (by decide) (by decide) ?_
  refine g_icmp_ge (pc1 := 24) (tgt := 43) d_Past_init_21 (by decide) rfl (fun h => absurd h (by decide)) (fun _ => ?_)
  refine g_aload_n (pc1 := 25) d_Past_init_24 rfl 0 rfl ?_
  refine g_getr (pc1 := 28) d_Past_init_25 rfl ⟨_, fo_Past_11⟩ sh_78 (by decide) q5289 ?_
  refine g_iload_n (pc1 := 29) d_Past_init_28 rfl 1 rfl ?_
  refine g_new (pc1 := 32) (T := T_State) (ty := ty_State) d_Past_init_29 rfl rfl (fun w h => gtb_of (in_State w h).1 (in_State w h).2) tyk_State (by decide) ck_Past_9 cn_State cz_State (shSt_0 (by decide : 206 ∈ lSt)) (fun i => ((Fz.wR F5286 (by decide) eR5288) _ (Nat.le_refl _) i).1) (fun i => ((Fz.wR F5286 (by decide) eR5288) _ (Nat.le_refl _) i).2.2) (Nat.le_of_ble_eq_true rfl) (Nat.le_of_ble_eq_true rfl) ?_
  refine g_dup (pc1 := 33) d_Past_init_32 rfl rfl ?_
  refine g_callI (pc1 := 36) (E' := (6, 34, 213)) (As := []) (rest := [.ref 206, .int 18, .ref 79]) d_Past_init_33 rfl mo_Past_17 mi_State_init rfl rfl (by decide) rfl rfl (Nat.le_of_ble_eq_true rfl) ⟨Nat.le_of_ble_eq_true rfl, Nat.le_of_ble_eq_true rfl⟩ rfl ?_
  refine t0_State_init 206 (by decide : 206 ∈ lSt) (Fz.up (Fz.wR F5286 (by decide) eR5288)) (fun M5290 L5291 R5292 eM5290 eL5291 eR5292 F5293 => ?_)
  dsimp only
  have q5294 : R5292 78 0 = some 79 := ((congrFun (congrFun eR5292 78) 0).trans (kR_State_ne (by decide))).trans q5289
  refine g_aast (pc1 := 37) (ci := 6) (r := ("CookedLaw$State", T_State, 10)) d_Past_init_36 rfl sh_79 (by decide) (vin_lit (x := 18) (by decide)) (shSt_0 (by decide : 206 ∈ lSt)) (by decide) rfl rfl ?_
  rw [show ((18 : Int32).toNatClampNeg) = 18 from by decide]
  refine Wp.topR (fun R5295 eR5295 => ?_)
  have q5296 : R5295 78 0 = some 79 := (rdR_ne eR5295 (by decide)).trans q5294
  refine g_iinc (pc1 := 40) (v := 19) (lv' := [(0, .ref 78), (1, .int 19)]) d_Past_init_37 rfl 1 rfl (by decide) (by decide) [1, 0] rfl ?_
  refine g_goto (tgt := 15) d_Past_init_40 (by decide) ?_
  refine g_iload_n (pc1 := 16) d_Past_init_15 rfl 1 rfl ?_
  refine g_aload_n (pc1 := 17) d_Past_init_16 rfl 0 rfl ?_
  refine g_getr (pc1 := 20) d_Past_init_17 rfl ⟨_, fo_Past_11⟩ sh_78 (by decide) q5296 ?_
  refine g_alen (pc1 := 21) (v := 40) d_Past_init_20 rfl sh_79 (by decide) (by decide) (by decide) (by decide) ?_
  refine g_icmp_ge (pc1 := 24) (tgt := 43) d_Past_init_21 (by decide) rfl (fun h => absurd h (by decide)) (fun _ => ?_)
  refine g_aload_n (pc1 := 25) d_Past_init_24 rfl 0 rfl ?_
  refine g_getr (pc1 := 28) d_Past_init_25 rfl ⟨_, fo_Past_11⟩ sh_78 (by decide) q5296 ?_
  refine g_iload_n (pc1 := 29) d_Past_init_28 rfl 1 rfl ?_
  refine g_new (pc1 := 32) (T := T_State) (ty := ty_State) d_Past_init_29 rfl rfl (fun w h => gtb_of (in_State w h).1 (in_State w h).2) tyk_State (by decide) ck_Past_9 cn_State cz_State (shSt_0 (by decide : 213 ∈ lSt)) (fun i => ((Fz.wR F5293 (by decide) eR5295) _ (Nat.le_refl _) i).1) (fun i => ((Fz.wR F5293 (by decide) eR5295) _ (Nat.le_refl _) i).2.2) (Nat.le_of_ble_eq_true rfl) (Nat.le_of_ble_eq_true rfl) ?_
  refine g_dup (pc1 := 33) d_Past_init_32 rfl rfl ?_
  refine g_callI (pc1 := 36) (E' := (6, 34, 220)) (As := []) (rest := [.ref 213, .int 19, .ref 79]) d_Past_init_33 rfl mo_Past_17 mi_State_init rfl rfl (by decide) rfl rfl (Nat.le_of_ble_eq_true rfl) ⟨Nat.le_of_ble_eq_true rfl, Nat.le_of_ble_eq_true rfl⟩ rfl ?_
  refine t0_State_init 213 (by decide : 213 ∈ lSt) (Fz.up (Fz.wR F5293 (by decide) eR5295)) (fun M5297 L5298 R5299 eM5297 eL5298 eR5299 F5300 => ?_)
  dsimp only
  have q5301 : R5299 78 0 = some 79 := ((congrFun (congrFun eR5299 78) 0).trans (kR_State_ne (by decide))).trans q5296
  refine g_aast (pc1 := 37) (ci := 6) (r := ("CookedLaw$State", T_State, 10)) d_Past_init_36 rfl sh_79 (by decide) (vin_lit (x := 19) (by decide)) (shSt_0 (by decide : 213 ∈ lSt)) (by decide) rfl rfl ?_
  rw [show ((19 : Int32).toNatClampNeg) = 19 from by decide]
  refine Wp.topR (fun R5302 eR5302 => ?_)
  have q5303 : R5302 78 0 = some 79 := (rdR_ne eR5302 (by decide)).trans q5301
  refine g_iinc (pc1 := 40) (v := 20) (lv' := [(0, .ref 78), (1, .int 20)]) d_Past_init_37 rfl 1 rfl (by decide) (by decide) [1, 0] rfl ?_
  refine g_goto (tgt := 15) d_Past_init_40 (by decide) ?_
  refine g_iload_n (pc1 := 16) d_Past_init_15 rfl 1 rfl ?_
  refine g_aload_n (pc1 := 17) d_Past_init_16 rfl 0 rfl ?_
  refine g_getr (pc1 := 20) d_Past_init_17 rfl ⟨_, fo_Past_11⟩ sh_78 (by decide) q5303 ?_
  refine g_alen (pc1 := 21) (v := 40) d_Past_init_20 rfl sh_79 (by decide) (by decide) (by decide) (by decide) ?_
  refine g_icmp_ge (pc1 := 24) (tgt := 43) d_Past_init_21 (by decide) rfl (fun h => absurd h (by decide)) (fun _ => ?_)
  refine g_aload_n (pc1 := 25) d_Past_init_24 rfl 0 rfl ?_
  refine g_getr (pc1 := 28) d_Past_init_25 rfl ⟨_, fo_Past_11⟩ sh_78 (by decide) q5303 ?_
  refine g_iload_n (pc1 := 29) d_Past_init_28 rfl 1 rfl ?_
  refine g_new (pc1 := 32) (T := T_State) (ty := ty_State) d_Past_init_29 rfl rfl (fun w h => gtb_of (in_State w h).1 (in_State w h).2) tyk_State (by decide) ck_Past_9 cn_State cz_State (shSt_0 (by decide : 220 ∈ lSt)) (fun i => ((Fz.wR F5300 (by decide) eR5302) _ (Nat.le_refl _) i).1) (fun i => ((Fz.wR F5300 (by decide) eR5302) _ (Nat.le_refl _) i).2.2) (Nat.le_of_ble_eq_true rfl) (Nat.le_of_ble_eq_true rfl) ?_
  refine g_dup (pc1 := 33) d_Past_init_32 rfl rfl ?_
  refine g_callI (pc1 := 36) (E' := (6, 34, 227)) (As := []) (rest := [.ref 220, .int 20, .ref 79]) d_Past_init_33 rfl mo_Past_17 mi_State_init rfl rfl (by decide) rfl rfl (Nat.le_of_ble_eq_true rfl) ⟨Nat.le_of_ble_eq_true rfl, Nat.le_of_ble_eq_true rfl⟩ rfl ?_
  refine t0_State_init 220 (by decide : 220 ∈ lSt) (Fz.up (Fz.wR F5300 (by decide) eR5302)) (fun M5304 L5305 R5306 eM5304 eL5305 eR5306 F5307 => ?_)
  dsimp only
  have q5308 : R5306 78 0 = some 79 := ((congrFun (congrFun eR5306 78) 0).trans (kR_State_ne (by decide))).trans q5303
  refine g_aast (pc1 := 37) (ci := 6) (r := ("CookedLaw$State", T_State, 10)) d_Past_init_36 rfl sh_79 (by decide) (vin_lit (x := 20) (by decide)) (shSt_0 (by decide : 220 ∈ lSt)) (by decide) rfl rfl ?_
  rw [show ((20 : Int32).toNatClampNeg) = 20 from by decide]
  refine Wp.topR (fun R5309 eR5309 => ?_)
  have q5310 : R5309 78 0 = some 79 := (rdR_ne eR5309 (by decide)).trans q5308
  refine g_iinc (pc1 := 40) (v := 21) (lv' := [(0, .ref 78), (1, .int 21)]) d_Past_init_37 rfl 1 rfl (by decide) (by decide) [1, 0] rfl ?_
  refine g_goto (tgt := 15) d_Past_init_40 (by decide) ?_
  refine g_iload_n (pc1 := 16) d_Past_init_15 rfl 1 rfl ?_
  refine g_aload_n (pc1 := 17) d_Past_init_16 rfl 0 rfl ?_
  refine g_getr (pc1 := 20) d_Past_init_17 rfl ⟨_, fo_Past_11⟩ sh_78 (by decide) q5310 ?_
  refine g_alen (pc1 := 21) (v := 40) d_Past_init_20 rfl sh_79 (by decide) (by decide) (by decide) (by decide) ?_
  refine g_icmp_ge (pc1 := 24) (tgt := 43) d_Past_init_21 (by decide) rfl (fun h => absurd h (by decide)) (fun _ => ?_)
  refine g_aload_n (pc1 := 25) d_Past_init_24 rfl 0 rfl ?_
  refine g_getr (pc1 := 28) d_Past_init_25 rfl ⟨_, fo_Past_11⟩ sh_78 (by decide) q5310 ?_
  refine g_iload_n (pc1 := 29) d_Past_init_28 rfl 1 rfl ?_
  refine g_new (pc1 := 32) (T := T_State) (ty := ty_State) d_Past_init_29 rfl rfl (fun w h => gtb_of (in_State w h).1 (in_State w h).2) tyk_State (by decide) ck_Past_9 cn_State cz_State (shSt_0 (by decide : 227 ∈ lSt)) (fun i => ((Fz.wR F5307 (by decide) eR5309) _ (Nat.le_refl _) i).1) (fun i => ((Fz.wR F5307 (by decide) eR5309) _ (Nat.le_refl _) i).2.2) (Nat.le_of_ble_eq_true rfl) (Nat.le_of_ble_eq_true rfl) ?_
  refine g_dup (pc1 := 33) d_Past_init_32 rfl rfl ?_
  refine g_callI (pc1 := 36) (E' := (6, 34, 234)) (As := []) (rest := [.ref 227, .int 21, .ref 79]) d_Past_init_33 rfl mo_Past_17 mi_State_init rfl rfl (by decide) rfl rfl (Nat.le_of_ble_eq_true rfl) ⟨Nat.le_of_ble_eq_true rfl, Nat.le_of_ble_eq_true rfl⟩ rfl ?_
  refine t0_State_init 227 (by decide : 227 ∈ lSt) (Fz.up (Fz.wR F5307 (by decide) eR5309)) (fun M5311 L5312 R5313 eM5311 eL5312 eR5313 F5314 => ?_)
  dsimp only
  have q5315 : R5313 78 0 = some 79 := ((congrFun (congrFun eR5313 78) 0).trans (kR_State_ne (by decide))).trans q5310
  refine g_aast (pc1 := 37) (ci := 6) (r := ("CookedLaw$State", T_State, 10)) d_Past_init_36 rfl sh_79 (by decide) (vin_lit (x := 21) (by decide)) (shSt_0 (by decide : 227 ∈ lSt)) (by decide) rfl rfl ?_
  rw [show ((21 : Int32).toNatClampNeg) = 21 from by decide]
  refine Wp.topR (fun R5316 eR5316 => ?_)
  have q5317 : R5316 78 0 = some 79 := (rdR_ne eR5316 (by decide)).trans q5315
  refine g_iinc (pc1 := 40) (v := 22) (lv' := [(0, .ref 78), (1, .int 22)]) d_Past_init_37 rfl 1 rfl (by decide) (by decide) [1, 0] rfl ?_
  refine g_goto (tgt := 15) d_Past_init_40 (by decide) ?_
  refine g_iload_n (pc1 := 16) d_Past_init_15 rfl 1 rfl ?_
  refine g_aload_n (pc1 := 17) d_Past_init_16 rfl 0 rfl ?_
  refine g_getr (pc1 := 20) d_Past_init_17 rfl ⟨_, fo_Past_11⟩ sh_78 (by decide) q5317 ?_
  refine g_alen (pc1 := 21) (v := 40) d_Past_init_20 rfl sh_79 (by decide) (by decide) (by decide) (by decide) ?_
  refine g_icmp_ge (pc1 := 24) (tgt := 43) d_Past_init_21 (by decide) rfl (fun h => absurd h (by decide)) (fun _ => ?_)
  refine g_aload_n (pc1 := 25) d_Past_init_24 rfl 0 rfl ?_
  refine g_getr (pc1 := 28) d_Past_init_25 rfl ⟨_, fo_Past_11⟩ sh_78 (by decide) q5317 ?_
  refine g_iload_n (pc1 := 29) d_Past_init_28 rfl 1 rfl ?_
  refine g_new (pc1 := 32) (T := T_State) (ty := ty_State) d_Past_init_29 rfl rfl (fun w h => gtb_of (in_State w h).1 (in_State w h).2) tyk_State (by decide) ck_Past_9 cn_State cz_State (shSt_0 (by decide : 234 ∈ lSt)) (fun i => ((Fz.wR F5314 (by decide) eR5316) _ (Nat.le_refl _) i).1) (fun i => ((Fz.wR F5314 (by decide) eR5316) _ (Nat.le_refl _) i).2.2) (Nat.le_of_ble_eq_true rfl) (Nat.le_of_ble_eq_true rfl) ?_
  refine g_dup (pc1 := 33) d_Past_init_32 rfl rfl ?_
  refine g_callI (pc1 := 36) (E' := (6, 34, 241)) (As := []) (rest := [.ref 234, .int 22, .ref 79]) d_Past_init_33 rfl mo_Past_17 mi_State_init rfl rfl (by decide) rfl rfl (Nat.le_of_ble_eq_true rfl) ⟨Nat.le_of_ble_eq_true rfl, Nat.le_of_ble_eq_true rfl⟩ rfl ?_
  refine t0_State_init 234 (by decide : 234 ∈ lSt) (Fz.up (Fz.wR F5314 (by decide) eR5316)) (fun M5318 L5319 R5320 eM5318 eL5319 eR5320 F5321 => ?_)
  dsimp only
  have q5322 : R5320 78 0 = some 79 := ((congrFun (congrFun eR5320 78) 0).trans (kR_State_ne (by decide))).trans q5317
  refine g_aast (pc1 := 37) (ci := 6) (r := ("CookedLaw$State", T_State, 10)) d_Past_init_36 rfl sh_79 (by decide) (vin_lit (x := 22) (by decide)) (shSt_0 (by decide : 234 ∈ lSt)) (by decide) rfl rfl ?_
  rw [show ((22 : Int32).toNatClampNeg) = 22 from by decide]
  refine Wp.topR (fun R5323 eR5323 => ?_)
  have q5324 : R5323 78 0 = some 79 := (rdR_ne eR5323 (by decide)).trans q5322
  refine g_iinc (pc1 := 40) (v := 23) (lv' := [(0, .ref 78), (1, .int 23)]) d_Past_init_37 rfl 1 rfl (by decide) (by decide) [1, 0] rfl ?_
  refine g_goto (tgt := 15) d_Past_init_40 (by decide) ?_
  refine g_iload_n (pc1 := 16) d_Past_init_15 rfl 1 rfl ?_
  refine g_aload_n (pc1 := 17) d_Past_init_16 rfl 0 rfl ?_
  refine g_getr (pc1 := 20) d_Past_init_17 rfl ⟨_, fo_Past_11⟩ sh_78 (by decide) q5324 ?_
  refine g_alen (pc1 := 21) (v := 40) d_Past_init_20 rfl sh_79 (by decide) (by decide) (by decide) (by decide) ?_
  refine g_icmp_ge (pc1 := 24) (tgt := 43) d_Past_init_21 (by decide) rfl (fun h => absurd h (by decide)) (fun _ => ?_)
  refine g_aload_n (pc1 := 25) d_Past_init_24 rfl 0 rfl ?_
  refine g_getr (pc1 := 28) d_Past_init_25 rfl ⟨_, fo_Past_11⟩ sh_78 (by decide) q5324 ?_
  refine g_iload_n (pc1 := 29) d_Past_init_28 rfl 1 rfl ?_
  refine g_new (pc1 := 32) (T := T_State) (ty := ty_State) d_Past_init_29 rfl rfl (fun w h => gtb_of (in_State w h).1 (in_State w h).2) tyk_State (by decide) ck_Past_9 cn_State cz_State (shSt_0 (by decide : 241 ∈ lSt)) (fun i => ((Fz.wR F5321 (by decide) eR5323) _ (Nat.le_refl _) i).1) (fun i => ((Fz.wR F5321 (by decide) eR5323) _ (Nat.le_refl _) i).2.2) (Nat.le_of_ble_eq_true rfl) (Nat.le_of_ble_eq_true rfl) ?_
  refine g_dup (pc1 := 33) d_Past_init_32 rfl rfl ?_
  refine g_callI (pc1 := 36) (E' := (6, 34, 248)) (As := []) (rest := [.ref 241, .int 23, .ref 79]) d_Past_init_33 rfl mo_Past_17 mi_State_init rfl rfl (by decide) rfl rfl (Nat.le_of_ble_eq_true rfl) ⟨Nat.le_of_ble_eq_true rfl, Nat.le_of_ble_eq_true rfl⟩ rfl ?_
  refine t0_State_init 241 (by decide : 241 ∈ lSt) (Fz.up (Fz.wR F5321 (by decide) eR5323)) (fun M5325 L5326 R5327 eM5325 eL5326 eR5327 F5328 => ?_)
  dsimp only
  have q5329 : R5327 78 0 = some 79 := ((congrFun (congrFun eR5327 78) 0).trans (kR_State_ne (by decide))).trans q5324
  refine g_aast (pc1 := 37) (ci := 6) (r := ("CookedLaw$State", T_State, 10)) d_Past_init_36 rfl sh_79 (by decide) (vin_lit (x := 23) (by decide)) (shSt_0 (by decide : 241 ∈ lSt)) (by decide) rfl rfl ?_
  rw [show ((23 : Int32).toNatClampNeg) = 23 from by decide]
  refine Wp.topR (fun R5330 eR5330 => ?_)
  have q5331 : R5330 78 0 = some 79 := (rdR_ne eR5330 (by decide)).trans q5329
  refine g_iinc (pc1 := 40) (v := 24) (lv' := [(0, .ref 78), (1, .int 24)]) d_Past_init_37 rfl 1 rfl (by decide) (by decide) [1, 0] rfl ?_
  refine g_goto (tgt := 15) d_Past_init_40 (by decide) ?_
  refine g_iload_n (pc1 := 16) d_Past_init_15 rfl 1 rfl ?_
  refine g_aload_n (pc1 := 17) d_Past_init_16 rfl 0 rfl ?_
  refine g_getr (pc1 := 20) d_Past_init_17 rfl ⟨_, fo_Past_11⟩ sh_78 (by decide) q5331 ?_
  refine g_alen (pc1 := 21) (v := 40) d_Past_init_20 rfl sh_79 (by decide) (by decide) (by decide) (by decide) ?_
  refine g_icmp_ge (pc1 := 24) (tgt := 43) d_Past_init_21 (by decide) rfl (fun h => absurd h (by decide)) (fun _ => ?_)
  refine g_aload_n (pc1 := 25) d_Past_init_24 rfl 0 rfl ?_
  refine g_getr (pc1 := 28) d_Past_init_25 rfl ⟨_, fo_Past_11⟩ sh_78 (by decide) q5331 ?_
  refine g_iload_n (pc1 := 29) d_Past_init_28 rfl 1 rfl ?_
  refine g_new (pc1 := 32) (T := T_State) (ty := ty_State) d_Past_init_29 rfl rfl (fun w h => gtb_of (in_State w h).1 (in_State w h).2) tyk_State (by decide) ck_Past_9 cn_State cz_State (shSt_0 (by decide : 248 ∈ lSt)) (fun i => ((Fz.wR F5328 (by decide) eR5330) _ (Nat.le_refl _) i).1) (fun i => ((Fz.wR F5328 (by decide) eR5330) _ (Nat.le_refl _) i).2.2) (Nat.le_of_ble_eq_true rfl) (Nat.le_of_ble_eq_true rfl) ?_
  refine g_dup (pc1 := 33) d_Past_init_32 rfl rfl ?_
  refine g_callI (pc1 := 36) (E' := (6, 34, 255)) (As := []) (rest := [.ref 248, .int 24, .ref 79]) d_Past_init_33 rfl mo_Past_17 mi_State_init rfl rfl (by decide) rfl rfl (Nat.le_of_ble_eq_true rfl) ⟨Nat.le_of_ble_eq_true rfl, Nat.le_of_ble_eq_true rfl⟩ rfl ?_
  refine t0_State_init 248 (by decide : 248 ∈ lSt) (Fz.up (Fz.wR F5328 (by decide) eR5330)) (fun M5332 L5333 R5334 eM5332 eL5333 eR5334 F5335 => ?_)
  dsimp only
  have q5336 : R5334 78 0 = some 79 := ((congrFun (congrFun eR5334 78) 0).trans (kR_State_ne (by decide))).trans q5331
  refine g_aast (pc1 := 37) (ci := 6) (r := ("CookedLaw$State", T_State, 10)) d_Past_init_36 rfl sh_79 (by decide) (vin_lit (x := 24) (by decide)) (shSt_0 (by decide : 248 ∈ lSt)) (by decide) rfl rfl ?_
  rw [show ((24 : Int32).toNatClampNeg) = 24 from by decide]
  refine Wp.topR (fun R5337 eR5337 => ?_)
  have q5338 : R5337 78 0 = some 79 := (rdR_ne eR5337 (by decide)).trans q5336
  refine g_iinc (pc1 := 40) (v := 25) (lv' := [(0, .ref 78), (1, .int 25)]) d_Past_init_37 rfl 1 rfl (by decide) (by decide) [1, 0] rfl ?_
  refine g_goto (tgt := 15) d_Past_init_40 (by decide) ?_
  refine g_iload_n (pc1 := 16) d_Past_init_15 rfl 1 rfl ?_
  refine g_aload_n (pc1 := 17) d_Past_init_16 rfl 0 rfl ?_
  refine g_getr (pc1 := 20) d_Past_init_17 rfl ⟨_, fo_Past_11⟩ sh_78 (by decide) q5338 ?_
  refine g_alen (pc1 := 21) (v := 40) d_Past_init_20 rfl sh_79 (by decide) (by decide) (by decide) (by decide) ?_
  refine g_icmp_ge (pc1 := 24) (tgt := 43) d_Past_init_21 (by decide) rfl (fun h => absurd h (by decide)) (fun _ => ?_)
  refine g_aload_n (pc1 := 25) d_Past_init_24 rfl 0 rfl ?_
  refine g_getr (pc1 := 28) d_Past_init_25 rfl ⟨_, fo_Past_11⟩ sh_78 (by decide) q5338 ?_
  refine g_iload_n (pc1 := 29) d_Past_init_28 rfl 1 rfl ?_
  refine g_new (pc1 := 32) (T := T_State) (ty := ty_State) d_Past_init_29 rfl rfl (fun w h => gtb_of (in_State w h).1 (in_State w h).2) tyk_State (by decide) ck_Past_9 cn_State cz_State (shSt_0 (by decide : 255 ∈ lSt)) (fun i => ((Fz.wR F5335 (by decide) eR5337) _ (Nat.le_refl _) i).1) (fun i => ((Fz.wR F5335 (by decide) eR5337) _ (Nat.le_refl _) i).2.2) (Nat.le_of_ble_eq_true rfl) (Nat.le_of_ble_eq_true rfl) ?_
  refine g_dup (pc1 := 33) d_Past_init_32 rfl rfl ?_
  refine g_callI (pc1 := 36) (E' := (6, 34, 262)) (As := []) (rest := [.ref 255, .int 25, .ref 79]) d_Past_init_33 rfl mo_Past_17 mi_State_init rfl rfl (by decide) rfl rfl (Nat.le_of_ble_eq_true rfl) ⟨Nat.le_of_ble_eq_true rfl, Nat.le_of_ble_eq_true rfl⟩ rfl ?_
  refine t0_State_init 255 (by decide : 255 ∈ lSt) (Fz.up (Fz.wR F5335 (by decide) eR5337)) (fun M5339 L5340 R5341 eM5339 eL5340 eR5341 F5342 => ?_)
  dsimp only
  have q5343 : R5341 78 0 = some 79 := ((congrFun (congrFun eR5341 78) 0).trans (kR_State_ne (by decide))).trans q5338
  refine g_aast (pc1 := 37) (ci := 6) (r := ("CookedLaw$State", T_State, 10)) d_Past_init_36 rfl sh_79 (by decide) (vin_lit (x := 25) (by decide)) (shSt_0 (by decide : 255 ∈ lSt)) (by decide) rfl rfl ?_
  rw [show ((25 : Int32).toNatClampNeg) = 25 from by decide]
  refine Wp.topR (fun R5344 eR5344 => ?_)
  have q5345 : R5344 78 0 = some 79 := (rdR_ne eR5344 (by decide)).trans q5343
  refine g_iinc (pc1 := 40) (v := 26) (lv' := [(0, .ref 78), (1, .int 26)]) d_Past_init_37 rfl 1 rfl (by decide) (by decide) [1, 0] rfl ?_
  refine g_goto (tgt := 15) d_Past_init_40 (by decide) ?_
  refine g_iload_n (pc1 := 16) d_Past_init_15 rfl 1 rfl ?_
  refine g_aload_n (pc1 := 17) d_Past_init_16 rfl 0 rfl ?_
  refine g_getr (pc1 := 20) d_Past_init_17 rfl ⟨_, fo_Past_11⟩ sh_78 (by decide) q5345 ?_
  refine g_alen (pc1 := 21) (v := 40) d_Past_init_20 rfl sh_79 (by decide) (by decide) (by decide) (by decide) ?_
  refine g_icmp_ge (pc1 := 24) (tgt := 43) d_Past_init_21 (by decide) rfl (fun h => absurd h (by decide)) (fun _ => ?_)
  refine g_aload_n (pc1 := 25) d_Past_init_24 rfl 0 rfl ?_
  refine g_getr (pc1 := 28) d_Past_init_25 rfl ⟨_, fo_Past_11⟩ sh_78 (by decide) q5345 ?_
  refine g_iload_n (pc1 := 29) d_Past_init_28 rfl 1 rfl ?_
  refine g_new (pc1 := 32) (T := T_State) (ty := ty_State) d_Past_init_29 rfl rfl (fun w h => gtb_of (in_State w h).1 (in_State w h).2) tyk_State (by decide) ck_Past_9 cn_State cz_State (shSt_0 (by decide : 262 ∈ lSt)) (fun i => ((Fz.wR F5342 (by decide) eR5344) _ (Nat.le_refl _) i).1) (fun i => ((Fz.wR F5342 (by decide) eR5344) _ (Nat.le_refl _) i).2.2) (Nat.le_of_ble_eq_true rfl) (Nat.le_of_ble_eq_true rfl) ?_
  refine g_dup (pc1 := 33) d_Past_init_32 rfl rfl ?_
  refine g_callI (pc1 := 36) (E' := (6, 34, 269)) (As := []) (rest := [.ref 262, .int 26, .ref 79]) d_Past_init_33 rfl mo_Past_17 mi_State_init rfl rfl (by decide) rfl rfl (Nat.le_of_ble_eq_true rfl) ⟨Nat.le_of_ble_eq_true rfl, Nat.le_of_ble_eq_true rfl⟩ rfl ?_
  refine t0_State_init 262 (by decide : 262 ∈ lSt) (Fz.up (Fz.wR F5342 (by decide) eR5344)) (fun M5346 L5347 R5348 eM5346 eL5347 eR5348 F5349 => ?_)
  dsimp only
  have q5350 : R5348 78 0 = some 79 := ((congrFun (congrFun eR5348 78) 0).trans (kR_State_ne (by decide))).trans q5345
  refine g_aast (pc1 := 37) (ci := 6) (r := ("CookedLaw$State", T_State, 10)) d_Past_init_36 rfl sh_79 (by decide) (vin_lit (x := 26) (by decide)) (shSt_0 (by decide : 262 ∈ lSt)) (by decide) rfl rfl ?_
  rw [show ((26 : Int32).toNatClampNeg) = 26 from by decide]
  refine Wp.topR (fun R5351 eR5351 => ?_)
  have q5352 : R5351 78 0 = some 79 := (rdR_ne eR5351 (by decide)).trans q5350
  refine g_iinc (pc1 := 40) (v := 27) (lv' := [(0, .ref 78), (1, .int 27)]) d_Past_init_37 rfl 1 rfl (by decide) (by decide) [1, 0] rfl ?_
  refine g_goto (tgt := 15) d_Past_init_40 (by decide) ?_
  refine g_iload_n (pc1 := 16) d_Past_init_15 rfl 1 rfl ?_
  refine g_aload_n (pc1 := 17) d_Past_init_16 rfl 0 rfl ?_
  refine g_getr (pc1 := 20) d_Past_init_17 rfl ⟨_, fo_Past_11⟩ sh_78 (by decide) q5352 ?_
  refine g_alen (pc1 := 21) (v := 40) d_Past_init_20 rfl sh_79 (by decide) (by decide) (by decide) (by decide) ?_
  refine g_icmp_ge (pc1 := 24) (tgt := 43) d_Past_init_21 (by decide) rfl (fun h => absurd h (by decide)) (fun _ => ?_)
  refine g_aload_n (pc1 := 25) d_Past_init_24 rfl 0 rfl ?_
  refine g_getr (pc1 := 28) d_Past_init_25 rfl ⟨_, fo_Past_11⟩ sh_78 (by decide) q5352 ?_
  refine g_iload_n (pc1 := 29) d_Past_init_28 rfl 1 rfl ?_
  refine g_new (pc1 := 32) (T := T_State) (ty := ty_State) d_Past_init_29 rfl rfl (fun w h => gtb_of (in_State w h).1 (in_State w h).2) tyk_State (by decide) ck_Past_9 cn_State cz_State (shSt_0 (by decide : 269 ∈ lSt)) (fun i => ((Fz.wR F5349 (by decide) eR5351) _ (Nat.le_refl _) i).1) (fun i => ((Fz.wR F5349 (by decide) eR5351) _ (Nat.le_refl _) i).2.2) (Nat.le_of_ble_eq_true rfl) (Nat.le_of_ble_eq_true rfl) ?_
  refine g_dup (pc1 := 33) d_Past_init_32 rfl rfl ?_
  refine g_callI (pc1 := 36) (E' := (6, 34, 276)) (As := []) (rest := [.ref 269, .int 27, .ref 79]) d_Past_init_33 rfl mo_Past_17 mi_State_init rfl rfl (by decide) rfl rfl (Nat.le_of_ble_eq_true rfl) ⟨Nat.le_of_ble_eq_true rfl, Nat.le_of_ble_eq_true rfl⟩ rfl ?_
  refine t0_State_init 269 (by decide : 269 ∈ lSt) (Fz.up (Fz.wR F5349 (by decide) eR5351)) (fun M5353 L5354 R5355 eM5353 eL5354 eR5355 F5356 => ?_)
  dsimp only
  have q5357 : R5355 78 0 = some 79 := ((congrFun (congrFun eR5355 78) 0).trans (kR_State_ne (by decide))).trans q5352
  refine g_aast (pc1 := 37) (ci := 6) (r := ("CookedLaw$State", T_State, 10)) d_Past_init_36 rfl sh_79 (by decide) (vin_lit (x := 27) (by decide)) (shSt_0 (by decide : 269 ∈ lSt)) (by decide) rfl rfl ?_
  rw [show ((27 : Int32).toNatClampNeg) = 27 from by decide]
  refine Wp.topR (fun R5358 eR5358 => ?_)
  have q5359 : R5358 78 0 = some 79 := (rdR_ne eR5358 (by decide)).trans q5357
  refine g_iinc (pc1 := 40) (v := 28) (lv' := [(0, .ref 78), (1, .int 28)]) d_Past_init_37 rfl 1 rfl (by decide) (by decide) [1, 0] rfl ?_
  refine g_goto (tgt := 15) d_Past_init_40 (by decide) ?_
  refine g_iload_n (pc1 := 16) d_Past_init_15 rfl 1 rfl ?_
  refine g_aload_n (pc1 := 17) d_Past_init_16 rfl 0 rfl ?_
  refine g_getr (pc1 := 20) d_Past_init_17 rfl ⟨_, fo_Past_11⟩ sh_78 (by decide) q5359 ?_
  refine g_alen (pc1 := 21) (v := 40) d_Past_init_20 rfl sh_79 (by decide) (by decide) (by decide) (by decide) ?_
  refine g_icmp_ge (pc1 := 24) (tgt := 43) d_Past_init_21 (by decide) rfl (fun h => absurd h (by decide)) (fun _ => ?_)
  refine g_aload_n (pc1 := 25) d_Past_init_24 rfl 0 rfl ?_
  refine g_getr (pc1 := 28) d_Past_init_25 rfl ⟨_, fo_Past_11⟩ sh_78 (by decide) q5359 ?_
  refine g_iload_n (pc1 := 29) d_Past_init_28 rfl 1 rfl ?_
  refine g_new (pc1 := 32) (T := T_State) (ty := ty_State) d_Past_init_29 rfl rfl (fun w h => gtb_of (in_State w h).1 (in_State w h).2) tyk_State (by decide) ck_Past_9 cn_State cz_State (shSt_0 (by decide : 276 ∈ lSt)) (fun i => ((Fz.wR F5356 (by decide) eR5358) _ (Nat.le_refl _) i).1) (fun i => ((Fz.wR F5356 (by decide) eR5358) _ (Nat.le_refl _) i).2.2) (Nat.le_of_ble_eq_true rfl) (Nat.le_of_ble_eq_true rfl) ?_
  refine g_dup (pc1 := 33) d_Past_init_32 rfl rfl ?_
  refine g_callI (pc1 := 36) (E' := (6, 34, 283)) (As := []) (rest := [.ref 276, .int 28, .ref 79]) d_Past_init_33 rfl mo_Past_17 mi_State_init rfl rfl (by decide) rfl rfl (Nat.le_of_ble_eq_true rfl) ⟨Nat.le_of_ble_eq_true rfl, Nat.le_of_ble_eq_true rfl⟩ rfl ?_
  refine t0_State_init 276 (by decide : 276 ∈ lSt) (Fz.up (Fz.wR F5356 (by decide) eR5358)) (fun M5360 L5361 R5362 eM5360 eL5361 eR5362 F5363 => ?_)
  dsimp only
  have q5364 : R5362 78 0 = some 79 := ((congrFun (congrFun eR5362 78) 0).trans (kR_State_ne (by decide))).trans q5359
  refine g_aast (pc1 := 37) (ci := 6) (r := ("CookedLaw$State", T_State, 10)) d_Past_init_36 rfl sh_79 (by decide) (vin_lit (x := 28) (by decide)) (shSt_0 (by decide : 276 ∈ lSt)) (by decide) rfl rfl ?_
  rw [show ((28 : Int32).toNatClampNeg) = 28 from by decide]
  refine Wp.topR (fun R5365 eR5365 => ?_)
  have q5366 : R5365 78 0 = some 79 := (rdR_ne eR5365 (by decide)).trans q5364
  refine g_iinc (pc1 := 40) (v := 29) (lv' := [(0, .ref 78), (1, .int 29)]) d_Past_init_37 rfl 1 rfl (by decide) (by decide) [1, 0] rfl ?_
  refine g_goto (tgt := 15) d_Past_init_40 (by decide) ?_
  refine g_iload_n (pc1 := 16) d_Past_init_15 rfl 1 rfl ?_
  refine g_aload_n (pc1 := 17) d_Past_init_16 rfl 0 rfl ?_
  refine g_getr (pc1 := 20) d_Past_init_17 rfl ⟨_, fo_Past_11⟩ sh_78 (by decide) q5366 ?_
  refine g_alen (pc1 := 21) (v := 40) d_Past_init_20 rfl sh_79 (by decide) (by decide) (by decide) (by decide) ?_
  refine g_icmp_ge (pc1 := 24) (tgt := 43) d_Past_init_21 (by decide) rfl (fun h => absurd h (by decide)) (fun _ => ?_)
  refine g_aload_n (pc1 := 25) d_Past_init_24 rfl 0 rfl ?_
  refine g_getr (pc1 := 28) d_Past_init_25 rfl ⟨_, fo_Past_11⟩ sh_78 (by decide) q5366 ?_
  refine g_iload_n (pc1 := 29) d_Past_init_28 rfl 1 rfl ?_
  refine g_new (pc1 := 32) (T := T_State) (ty := ty_State) d_Past_init_29 rfl rfl (fun w h => gtb_of (in_State w h).1 (in_State w h).2) tyk_State (by decide) ck_Past_9 cn_State cz_State (shSt_0 (by decide : 283 ∈ lSt)) (fun i => ((Fz.wR F5363 (by decide) eR5365) _ (Nat.le_refl _) i).1) (fun i => ((Fz.wR F5363 (by decide) eR5365) _ (Nat.le_refl _) i).2.2) (Nat.le_of_ble_eq_true rfl) (Nat.le_of_ble_eq_true rfl) ?_
  refine g_dup (pc1 := 33) d_Past_init_32 rfl rfl ?_
  refine g_callI (pc1 := 36) (E' := (6, 34, 290)) (As := []) (rest := [.ref 283, .int 29, .ref 79]) d_Past_init_33 rfl mo_Past_17 mi_State_init rfl rfl (by decide) rfl rfl (Nat.le_of_ble_eq_true rfl) ⟨Nat.le_of_ble_eq_true rfl, Nat.le_of_ble_eq_true rfl⟩ rfl ?_
  refine t0_State_init 283 (by decide : 283 ∈ lSt) (Fz.up (Fz.wR F5363 (by decide) eR5365)) (fun M5367 L5368 R5369 eM5367 eL5368 eR5369 F5370 => ?_)
  dsimp only
  have q5371 : R5369 78 0 = some 79 := ((congrFun (congrFun eR5369 78) 0).trans (kR_State_ne (by decide))).trans q5366
  refine g_aast (pc1 := 37) (ci := 6) (r := ("CookedLaw$State", T_State, 10)) d_Past_init_36 rfl sh_79 (by decide) (vin_lit (x := 29) (by decide)) (shSt_0 (by decide : 283 ∈ lSt)) (by decide) rfl rfl ?_
  rw [show ((29 : Int32).toNatClampNeg) = 29 from by decide]
  refine Wp.topR (fun R5372 eR5372 => ?_)
  have q5373 : R5372 78 0 = some 79 := (rdR_ne eR5372 (by decide)).trans q5371
  refine g_iinc (pc1 := 40) (v := 30) (lv' := [(0, .ref 78), (1, .int 30)]) d_Past_init_37 rfl 1 rfl (by decide) (by decide) [1, 0] rfl ?_
  refine g_goto (tgt := 15) d_Past_init_40 (by decide) ?_
  refine g_iload_n (pc1 := 16) d_Past_init_15 rfl 1 rfl ?_
  refine g_aload_n (pc1 := 17) d_Past_init_16 rfl 0 rfl ?_
  refine g_getr (pc1 := 20) d_Past_init_17 rfl ⟨_, fo_Past_11⟩ sh_78 (by decide) q5373 ?_
  refine g_alen (pc1 := 21) (v := 40) d_Past_init_20 rfl sh_79 (by decide) (by decide) (by decide) (by decide) ?_
  refine g_icmp_ge (pc1 := 24) (tgt := 43) d_Past_init_21 (by decide) rfl (fun h => absurd h (by decide)) (fun _ => ?_)
  refine g_aload_n (pc1 := 25) d_Past_init_24 rfl 0 rfl ?_
  refine g_getr (pc1 := 28) d_Past_init_25 rfl ⟨_, fo_Past_11⟩ sh_78 (by decide) q5373 ?_
  refine g_iload_n (pc1 := 29) d_Past_init_28 rfl 1 rfl ?_
  refine g_new (pc1 := 32) (T := T_State) (ty := ty_State) d_Past_init_29 rfl rfl (fun w h => gtb_of (in_State w h).1 (in_State w h).2) tyk_State (by decide) ck_Past_9 cn_State cz_State (shSt_0 (by decide : 290 ∈ lSt)) (fun i => ((Fz.wR F5370 (by decide) eR5372) _ (Nat.le_refl _) i).1) (fun i => ((Fz.wR F5370 (by decide) eR5372) _ (Nat.le_refl _) i).2.2) (Nat.le_of_ble_eq_true rfl) (Nat.le_of_ble_eq_true rfl) ?_
  refine g_dup (pc1 := 33) d_Past_init_32 rfl rfl ?_
  refine g_callI (pc1 := 36) (E' := (6, 34, 297)) (As := []) (rest := [.ref 290, .int 30, .ref 79]) d_Past_init_33 rfl mo_Past_17 mi_State_init rfl rfl (by decide) rfl rfl (Nat.le_of_ble_eq_true rfl) ⟨Nat.le_of_ble_eq_true rfl, Nat.le_of_ble_eq_true rfl⟩ rfl ?_
  refine t0_State_init 290 (by decide : 290 ∈ lSt) (Fz.up (Fz.wR F5370 (by decide) eR5372)) (fun M5374 L5375 R5376 eM5374 eL5375 eR5376 F5377 => ?_)
  dsimp only
  have q5378 : R5376 78 0 = some 79 := ((congrFun (congrFun eR5376 78) 0).trans (kR_State_ne (by decide))).trans q5373
  refine g_aast (pc1 := 37) (ci := 6) (r := ("CookedLaw$State", T_State, 10)) d_Past_init_36 rfl sh_79 (by decide) (vin_lit (x := 30) (by decide)) (shSt_0 (by decide : 290 ∈ lSt)) (by decide) rfl rfl ?_
  rw [show ((30 : Int32).toNatClampNeg) = 30 from by decide]
  refine Wp.topR (fun R5379 eR5379 => ?_)
  have q5380 : R5379 78 0 = some 79 := (rdR_ne eR5379 (by decide)).trans q5378
  refine g_iinc (pc1 := 40) (v := 31) (lv' := [(0, .ref 78), (1, .int 31)]) d_Past_init_37 rfl 1 rfl (by decide) (by decide) [1, 0] rfl ?_
  refine g_goto (tgt := 15) d_Past_init_40 (by decide) ?_
  refine g_iload_n (pc1 := 16) d_Past_init_15 rfl 1 rfl ?_
  refine g_aload_n (pc1 := 17) d_Past_init_16 rfl 0 rfl ?_
  refine g_getr (pc1 := 20) d_Past_init_17 rfl ⟨_, fo_Past_11⟩ sh_78 (by decide) q5380 ?_
  refine g_alen (pc1 := 21) (v := 40) d_Past_init_20 rfl sh_79 (by decide) (by decide) (by decide) (by decide) ?_
  refine g_icmp_ge (pc1 := 24) (tgt := 43) d_Past_init_21 (by decide) rfl (fun h => absurd h (by decide)) (fun _ => ?_)
  refine g_aload_n (pc1 := 25) d_Past_init_24 rfl 0 rfl ?_
  refine g_getr (pc1 := 28) d_Past_init_25 rfl ⟨_, fo_Past_11⟩ sh_78 (by decide) q5380 ?_
  refine g_iload_n (pc1 := 29) d_Past_init_28 rfl 1 rfl ?_
  refine g_new (pc1 := 32) (T := T_State) (ty := ty_State) d_Past_init_29 rfl rfl (fun w h => gtb_of (in_State w h).1 (in_State w h).2) tyk_State (by decide) ck_Past_9 cn_State cz_State (shSt_0 (by decide : 297 ∈ lSt)) (fun i => ((Fz.wR F5377 (by decide) eR5379) _ (Nat.le_refl _) i).1) (fun i => ((Fz.wR F5377 (by decide) eR5379) _ (Nat.le_refl _) i).2.2) (Nat.le_of_ble_eq_true rfl) (Nat.le_of_ble_eq_true rfl) ?_
  refine g_dup (pc1 := 33) d_Past_init_32 rfl rfl ?_
  refine g_callI (pc1 := 36) (E' := (6, 34, 304)) (As := []) (rest := [.ref 297, .int 31, .ref 79]) d_Past_init_33 rfl mo_Past_17 mi_State_init rfl rfl (by decide) rfl rfl (Nat.le_of_ble_eq_true rfl) ⟨Nat.le_of_ble_eq_true rfl, Nat.le_of_ble_eq_true rfl⟩ rfl ?_
  refine t0_State_init 297 (by decide : 297 ∈ lSt) (Fz.up (Fz.wR F5377 (by decide) eR5379)) (fun M5381 L5382 R5383 eM5381 eL5382 eR5383 F5384 => ?_)
  dsimp only
  have q5385 : R5383 78 0 = some 79 := ((congrFun (congrFun eR5383 78) 0).trans (kR_State_ne (by decide))).trans q5380
  refine g_aast (pc1 := 37) (ci := 6) (r := ("CookedLaw$State", T_State, 10)) d_Past_init_36 rfl sh_79 (by decide) (vin_lit (x := 31) (by decide)) (shSt_0 (by decide : 297 ∈ lSt)) (by decide) rfl rfl ?_
  rw [show ((31 : Int32).toNatClampNeg) = 31 from by decide]
  refine Wp.topR (fun R5386 eR5386 => ?_)
  have q5387 : R5386 78 0 = some 79 := (rdR_ne eR5386 (by decide)).trans q5385
  refine g_iinc (pc1 := 40) (v := 32) (lv' := [(0, .ref 78), (1, .int 32)]) d_Past_init_37 rfl 1 rfl (by decide) (by decide) [1, 0] rfl ?_
  refine g_goto (tgt := 15) d_Past_init_40 (by decide) ?_
  refine g_iload_n (pc1 := 16) d_Past_init_15 rfl 1 rfl ?_
  refine g_aload_n (pc1 := 17) d_Past_init_16 rfl 0 rfl ?_
  refine g_getr (pc1 := 20) d_Past_init_17 rfl ⟨_, fo_Past_11⟩ sh_78 (by decide) q5387 ?_
  refine g_alen (pc1 := 21) (v := 40) d_Past_init_20 rfl sh_79 (by decide) (by decide) (by decide) (by decide) ?_
  refine g_icmp_ge (pc1 := 24) (tgt := 43) d_Past_init_21 (by decide) rfl (fun h => absurd h (by decide)) (fun _ => ?_)
  refine g_aload_n (pc1 := 25) d_Past_init_24 rfl 0 rfl ?_
  refine g_getr (pc1 := 28) d_Past_init_25 rfl ⟨_, fo_Past_11⟩ sh_78 (by decide) q5387 ?_
  refine g_iload_n (pc1 := 29) d_Past_init_28 rfl 1 rfl ?_
  refine g_new (pc1 := 32) (T := T_State) (ty := ty_State) d_Past_init_29 rfl rfl (fun w h => gtb_of (in_State w h).1 (in_State w h).2) tyk_State (by decide) ck_Past_9 cn_State cz_State (shSt_0 (by decide : 304 ∈ lSt)) (fun i => ((Fz.wR F5384 (by decide) eR5386) _ (Nat.le_refl _) i).1) (fun i => ((Fz.wR F5384 (by decide) eR5386) _ (Nat.le_refl _) i).2.2) (Nat.le_of_ble_eq_true rfl) (Nat.le_of_ble_eq_true rfl) ?_
  refine g_dup (pc1 := 33) d_Past_init_32 rfl rfl ?_
  refine g_callI (pc1 := 36) (E' := (6, 34, 311)) (As := []) (rest := [.ref 304, .int 32, .ref 79]) d_Past_init_33 rfl mo_Past_17 mi_State_init rfl rfl (by decide) rfl rfl (Nat.le_of_ble_eq_true rfl) ⟨Nat.le_of_ble_eq_true rfl, Nat.le_of_ble_eq_true rfl⟩ rfl ?_
  refine t0_State_init 304 (by decide : 304 ∈ lSt) (Fz.up (Fz.wR F5384 (by decide) eR5386)) (fun M5388 L5389 R5390 eM5388 eL5389 eR5390 F5391 => ?_)
  dsimp only
  have q5392 : R5390 78 0 = some 79 := ((congrFun (congrFun eR5390 78) 0).trans (kR_State_ne (by decide))).trans q5387
  refine g_aast (pc1 := 37) (ci := 6) (r := ("CookedLaw$State", T_State, 10)) d_Past_init_36 rfl sh_79 (by decide) (vin_lit (x := 32) (by decide)) (shSt_0 (by decide : 304 ∈ lSt)) (by decide) rfl rfl ?_
  rw [show ((32 : Int32).toNatClampNeg) = 32 from by decide]
  refine Wp.topR (fun R5393 eR5393 => ?_)
  have q5394 : R5393 78 0 = some 79 := (rdR_ne eR5393 (by decide)).trans q5392
  refine g_iinc (pc1 := 40) (v := 33) (lv' := [(0, .ref 78), (1, .int 33)]) d_Past_init_37 rfl 1 rfl (by decide) (by decide) [1, 0] rfl ?_
  refine g_goto (tgt := 15) d_Past_init_40 (by decide) ?_
  refine g_iload_n (pc1 := 16) d_Past_init_15 rfl 1 rfl ?_
  refine g_aload_n (pc1 := 17) d_Past_init_16 rfl 0 rfl ?_
  refine g_getr (pc1 := 20) d_Past_init_17 rfl ⟨_, fo_Past_11⟩ sh_78 (by decide) q5394 ?_
  refine g_alen (pc1 := 21) (v := 40) d_Past_init_20 rfl sh_79 (by decide) (by decide) (by decide) (by decide) ?_
  refine g_icmp_ge (pc1 := 24) (tgt := 43) d_Past_init_21 (by decide) rfl (fun h => absurd h (by decide)) (fun _ => ?_)
  refine g_aload_n (pc1 := 25) d_Past_init_24 rfl 0 rfl ?_
  refine g_getr (pc1 := 28) d_Past_init_25 rfl ⟨_, fo_Past_11⟩ sh_78 (by decide) q5394 ?_
  refine g_iload_n (pc1 := 29) d_Past_init_28 rfl 1 rfl ?_
  refine g_new (pc1 := 32) (T := T_State) (ty := ty_State) d_Past_init_29 rfl rfl (fun w h => gtb_of (in_State w h).1 (in_State w h).2) tyk_State (by decide) ck_Past_9 cn_State cz_State (shSt_0 (by decide : 311 ∈ lSt)) (fun i => ((Fz.wR F5391 (by decide) eR5393) _ (Nat.le_refl _) i).1) (fun i => ((Fz.wR F5391 (by decide) eR5393) _ (Nat.le_refl _) i).2.2) (Nat.le_of_ble_eq_true rfl) (Nat.le_of_ble_eq_true rfl) ?_
  refine g_dup (pc1 := 33) d_Past_init_32 rfl rfl ?_
  refine g_callI (pc1 := 36) (E' := (6, 34, 318)) (As := []) (rest := [.ref 311, .int 33, .ref 79]) d_Past_init_33 rfl mo_Past_17 mi_State_init rfl rfl (by decide) rfl rfl (Nat.le_of_ble_eq_true rfl) ⟨Nat.le_of_ble_eq_true rfl, Nat.le_of_ble_eq_true rfl⟩ rfl ?_
  refine t0_State_init 311 (by decide : 311 ∈ lSt) (Fz.up (Fz.wR F5391 (by decide) eR5393)) (fun M5395 L5396 R5397 eM5395 eL5396 eR5397 F5398 => ?_)
  dsimp only
  have q5399 : R5397 78 0 = some 79 := ((congrFun (congrFun eR5397 78) 0).trans (kR_State_ne (by decide))).trans q5394
  refine g_aast (pc1 := 37) (ci := 6) (r := ("CookedLaw$State", T_State, 10)) d_Past_init_36 rfl sh_79 (by decide) (vin_lit (x := 33) (by decide)) (shSt_0 (by decide : 311 ∈ lSt)) (by decide) rfl rfl ?_
  rw [show ((33 : Int32).toNatClampNeg) = 33 from by decide]
  refine Wp.topR (fun R5400 eR5400 => ?_)
  have q5401 : R5400 78 0 = some 79 := (rdR_ne eR5400 (by decide)).trans q5399
  refine g_iinc (pc1 := 40) (v := 34) (lv' := [(0, .ref 78), (1, .int 34)]) d_Past_init_37 rfl 1 rfl (by decide) (by decide) [1, 0] rfl ?_
  refine g_goto (tgt := 15) d_Past_init_40 (by decide) ?_
  refine g_iload_n (pc1 := 16) d_Past_init_15 rfl 1 rfl ?_
  refine g_aload_n (pc1 := 17) d_Past_init_16 rfl 0 rfl ?_
  refine g_getr (pc1 := 20) d_Past_init_17 rfl ⟨_, fo_Past_11⟩ sh_78 (by decide) q5401 ?_
  refine g_alen (pc1 := 21) (v := 40) d_Past_init_20 rfl sh_79 (by decide) (by decide) (by decide) (by decide) ?_
  refine g_icmp_ge (pc1 := 24) (tgt := 43) d_Past_init_21 (by decide) rfl (fun h => absurd h (by decide)) (fun _ => ?_)
  refine g_aload_n (pc1 := 25) d_Past_init_24 rfl 0 rfl ?_
  refine g_getr (pc1 := 28) d_Past_init_25 rfl ⟨_, fo_Past_11⟩ sh_78 (by decide) q5401 ?_
  refine g_iload_n (pc1 := 29) d_Past_init_28 rfl 1 rfl ?_
  refine g_new (pc1 := 32) (T := T_State) (ty := ty_State) d_Past_init_29 rfl rfl (fun w h => gtb_of (in_State w h).1 (in_State w h).2) tyk_State (by decide) ck_Past_9 cn_State cz_State (shSt_0 (by decide : 318 ∈ lSt)) (fun i => ((Fz.wR F5398 (by decide) eR5400) _ (Nat.le_refl _) i).1) (fun i => ((Fz.wR F5398 (by decide) eR5400) _ (Nat.le_refl _) i).2.2) (Nat.le_of_ble_eq_true rfl) (Nat.le_of_ble_eq_true rfl) ?_
  refine g_dup (pc1 := 33) d_Past_init_32 rfl rfl ?_
  refine g_callI (pc1 := 36) (E' := (6, 34, 325)) (As := []) (rest := [.ref 318, .int 34, .ref 79]) d_Past_init_33 rfl mo_Past_17 mi_State_init rfl rfl (by decide) rfl rfl (Nat.le_of_ble_eq_true rfl) ⟨Nat.le_of_ble_eq_true rfl, Nat.le_of_ble_eq_true rfl⟩ rfl ?_
  refine t0_State_init 318 (by decide : 318 ∈ lSt) (Fz.up (Fz.wR F5398 (by decide) eR5400)) (fun M5402 L5403 R5404 eM5402 eL5403 eR5404 F5405 => ?_)
  dsimp only
  have q5406 : R5404 78 0 = some 79 := ((congrFun (congrFun eR5404 78) 0).trans (kR_State_ne (by decide))).trans q5401
  refine g_aast (pc1 := 37) (ci := 6) (r := ("CookedLaw$State", T_State, 10)) d_Past_init_36 rfl sh_79 (by decide) (vin_lit (x := 34) (by decide)) (shSt_0 (by decide : 318 ∈ lSt)) (by decide) rfl rfl ?_
  rw [show ((34 : Int32).toNatClampNeg) = 34 from by decide]
  refine Wp.topR (fun R5407 eR5407 => ?_)
  have q5408 : R5407 78 0 = some 79 := (rdR_ne eR5407 (by decide)).trans q5406
  refine g_iinc (pc1 := 40) (v := 35) (lv' := [(0, .ref 78), (1, .int 35)]) d_Past_init_37 rfl 1 rfl (by decide) (by decide) [1, 0] rfl ?_
  refine g_goto (tgt := 15) d_Past_init_40 (by decide) ?_
  refine g_iload_n (pc1 := 16) d_Past_init_15 rfl 1 rfl ?_
  refine g_aload_n (pc1 := 17) d_Past_init_16 rfl 0 rfl ?_
  refine g_getr (pc1 := 20) d_Past_init_17 rfl ⟨_, fo_Past_11⟩ sh_78 (by decide) q5408 ?_
  refine g_alen (pc1 := 21) (v := 40) d_Past_init_20 rfl sh_79 (by decide) (by decide) (by decide) (by decide) ?_
  refine g_icmp_ge (pc1 := 24) (tgt := 43) d_Past_init_21 (by decide) rfl (fun h => absurd h (by decide)) (fun _ => ?_)
  refine g_aload_n (pc1 := 25) d_Past_init_24 rfl 0 rfl ?_
  refine g_getr (pc1 := 28) d_Past_init_25 rfl ⟨_, fo_Past_11⟩ sh_78 (by decide) q5408 ?_
  refine g_iload_n (pc1 := 29) d_Past_init_28 rfl 1 rfl ?_
  refine g_new (pc1 := 32) (T := T_State) (ty := ty_State) d_Past_init_29 rfl rfl (fun w h => gtb_of (in_State w h).1 (in_State w h).2) tyk_State (by decide) ck_Past_9 cn_State cz_State (shSt_0 (by decide : 325 ∈ lSt)) (fun i => ((Fz.wR F5405 (by decide) eR5407) _ (Nat.le_refl _) i).1) (fun i => ((Fz.wR F5405 (by decide) eR5407) _ (Nat.le_refl _) i).2.2) (Nat.le_of_ble_eq_true rfl) (Nat.le_of_ble_eq_true rfl) ?_
  refine g_dup (pc1 := 33) d_Past_init_32 rfl rfl ?_
  refine g_callI (pc1 := 36) (E' := (6, 34, 332)) (As := []) (rest := [.ref 325, .int 35, .ref 79]) d_Past_init_33 rfl mo_Past_17 mi_State_init rfl rfl (by decide) rfl rfl (Nat.le_of_ble_eq_true rfl) ⟨Nat.le_of_ble_eq_true rfl, Nat.le_of_ble_eq_true rfl⟩ rfl ?_
  refine t0_State_init 325 (by decide : 325 ∈ lSt) (Fz.up (Fz.wR F5405 (by decide) eR5407)) (fun M5409 L5410 R5411 eM5409 eL5410 eR5411 F5412 => ?_)
  dsimp only
  have q5413 : R5411 78 0 = some 79 := ((congrFun (congrFun eR5411 78) 0).trans (kR_State_ne (by decide))).trans q5408
  refine g_aast (pc1 := 37) (ci := 6) (r := ("CookedLaw$State", T_State, 10)) d_Past_init_36 rfl sh_79 (by decide) (vin_lit (x := 35) (by decide)) (shSt_0 (by decide : 325 ∈ lSt)) (by decide) rfl rfl ?_
  rw [show ((35 : Int32).toNatClampNeg) = 35 from by decide]
  refine Wp.topR (fun R5414 eR5414 => ?_)
  have q5415 : R5414 78 0 = some 79 := (rdR_ne eR5414 (by decide)).trans q5413
  refine g_iinc (pc1 := 40) (v := 36) (lv' := [(0, .ref 78), (1, .int 36)]) d_Past_init_37 rfl 1 rfl (by decide) (by decide) [1, 0] rfl ?_
  refine g_goto (tgt := 15) d_Past_init_40 (by decide) ?_
  refine g_iload_n (pc1 := 16) d_Past_init_15 rfl 1 rfl ?_
  refine g_aload_n (pc1 := 17) d_Past_init_16 rfl 0 rfl ?_
  refine g_getr (pc1 := 20) d_Past_init_17 rfl ⟨_, fo_Past_11⟩ sh_78 (by decide) q5415 ?_
  refine g_alen (pc1 := 21) (v := 40) d_Past_init_20 rfl sh_79 (by decide) (by decide) (by decide) (by decide) ?_
  refine g_icmp_ge (pc1 := 24) (tgt := 43) d_Past_init_21 (by decide) rfl (fun h => absurd h (by decide)) (fun _ => ?_)
  refine g_aload_n (pc1 := 25) d_Past_init_24 rfl 0 rfl ?_
  refine g_getr (pc1 := 28) d_Past_init_25 rfl ⟨_, fo_Past_11⟩ sh_78 (by decide) q5415 ?_
  refine g_iload_n (pc1 := 29) d_Past_init_28 rfl 1 rfl ?_
  refine g_new (pc1 := 32) (T := T_State) (ty := ty_State) d_Past_init_29 rfl rfl (fun w h => gtb_of (in_State w h).1 (in_State w h).2) tyk_State (by decide) ck_Past_9 cn_State cz_State (shSt_0 (by decide : 332 ∈ lSt)) (fun i => ((Fz.wR F5412 (by decide) eR5414) _ (Nat.le_refl _) i).1) (fun i => ((Fz.wR F5412 (by decide) eR5414) _ (Nat.le_refl _) i).2.2) (Nat.le_of_ble_eq_true rfl) (Nat.le_of_ble_eq_true rfl) ?_
  refine g_dup (pc1 := 33) d_Past_init_32 rfl rfl ?_
  refine g_callI (pc1 := 36) (E' := (6, 34, 339)) (As := []) (rest := [.ref 332, .int 36, .ref 79]) d_Past_init_33 rfl mo_Past_17 mi_State_init rfl rfl (by decide) rfl rfl (Nat.le_of_ble_eq_true rfl) ⟨Nat.le_of_ble_eq_true rfl, Nat.le_of_ble_eq_true rfl⟩ rfl ?_
  refine t0_State_init 332 (by decide : 332 ∈ lSt) (Fz.up (Fz.wR F5412 (by decide) eR5414)) (fun M5416 L5417 R5418 eM5416 eL5417 eR5418 F5419 => ?_)
  dsimp only
  have q5420 : R5418 78 0 = some 79 := ((congrFun (congrFun eR5418 78) 0).trans (kR_State_ne (by decide))).trans q5415
  refine g_aast (pc1 := 37) (ci := 6) (r := ("CookedLaw$State", T_State, 10)) d_Past_init_36 rfl sh_79 (by decide) (vin_lit (x := 36) (by decide)) (shSt_0 (by decide : 332 ∈ lSt)) (by decide) rfl rfl ?_
  rw [show ((36 : Int32).toNatClampNeg) = 36 from by decide]
  refine Wp.topR (fun R5421 eR5421 => ?_)
  have q5422 : R5421 78 0 = some 79 := (rdR_ne eR5421 (by decide)).trans q5420
  refine g_iinc (pc1 := 40) (v := 37) (lv' := [(0, .ref 78), (1, .int 37)]) d_Past_init_37 rfl 1 rfl (by decide) (by decide) [1, 0] rfl ?_
  refine g_goto (tgt := 15) d_Past_init_40 (by decide) ?_
  refine g_iload_n (pc1 := 16) d_Past_init_15 rfl 1 rfl ?_
  refine g_aload_n (pc1 := 17) d_Past_init_16 rfl 0 rfl ?_
  refine g_getr (pc1 := 20) d_Past_init_17 rfl ⟨_, fo_Past_11⟩ sh_78 (by decide) q5422 ?_
  refine g_alen (pc1 := 21) (v := 40) d_Past_init_20 rfl sh_79 (by decide) (by decide) (by decide) (by decide) ?_
  refine g_icmp_ge (pc1 := 24) (tgt := 43) d_Past_init_21 (by decide) rfl (fun h => absurd h (by decide)) (fun _ => ?_)
  refine g_aload_n (pc1 := 25) d_Past_init_24 rfl 0 rfl ?_
  refine g_getr (pc1 := 28) d_Past_init_25 rfl ⟨_, fo_Past_11⟩ sh_78 (by decide) q5422 ?_
  refine g_iload_n (pc1 := 29) d_Past_init_28 rfl 1 rfl ?_
  refine g_new (pc1 := 32) (T := T_State) (ty := ty_State) d_Past_init_29 rfl rfl (fun w h => gtb_of (in_State w h).1 (in_State w h).2) tyk_State (by decide) ck_Past_9 cn_State cz_State (shSt_0 (by decide : 339 ∈ lSt)) (fun i => ((Fz.wR F5419 (by decide) eR5421) _ (Nat.le_refl _) i).1) (fun i => ((Fz.wR F5419 (by decide) eR5421) _ (Nat.le_refl _) i).2.2) (Nat.le_of_ble_eq_true rfl) (Nat.le_of_ble_eq_true rfl) ?_
  refine g_dup (pc1 := 33) d_Past_init_32 rfl rfl ?_
  refine g_callI (pc1 := 36) (E' := (6, 34, 346)) (As := []) (rest := [.ref 339, .int 37, .ref 79]) d_Past_init_33 rfl mo_Past_17 mi_State_init rfl rfl (by decide) rfl rfl (Nat.le_of_ble_eq_true rfl) ⟨Nat.le_of_ble_eq_true rfl, Nat.le_of_ble_eq_true rfl⟩ rfl ?_
  refine t0_State_init 339 (by decide : 339 ∈ lSt) (Fz.up (Fz.wR F5419 (by decide) eR5421)) (fun M5423 L5424 R5425 eM5423 eL5424 eR5425 F5426 => ?_)
  dsimp only
  have q5427 : R5425 78 0 = some 79 := ((congrFun (congrFun eR5425 78) 0).trans (kR_State_ne (by decide))).trans q5422
  refine g_aast (pc1 := 37) (ci := 6) (r := ("CookedLaw$State", T_State, 10)) d_Past_init_36 rfl sh_79 (by decide) (vin_lit (x := 37) (by decide)) (shSt_0 (by decide : 339 ∈ lSt)) (by decide) rfl rfl ?_
  rw [show ((37 : Int32).toNatClampNeg) = 37 from by decide]
  refine Wp.topR (fun R5428 eR5428 => ?_)
  have q5429 : R5428 78 0 = some 79 := (rdR_ne eR5428 (by decide)).trans q5427
  refine g_iinc (pc1 := 40) (v := 38) (lv' := [(0, .ref 78), (1, .int 38)]) d_Past_init_37 rfl 1 rfl (by decide) (by decide) [1, 0] rfl ?_
  refine g_goto (tgt := 15) d_Past_init_40 (by decide) ?_
  refine g_iload_n (pc1 := 16) d_Past_init_15 rfl 1 rfl ?_
  refine g_aload_n (pc1 := 17) d_Past_init_16 rfl 0 rfl ?_
  refine g_getr (pc1 := 20) d_Past_init_17 rfl ⟨_, fo_Past_11⟩ sh_78 (by decide) q5429 ?_
  refine g_alen (pc1 := 21) (v := 40) d_Past_init_20 rfl sh_79 (by decide) (by decide) (by decide) (by decide) ?_
  refine g_icmp_ge (pc1 := 24) (tgt := 43) d_Past_init_21 (by decide) rfl (fun h => absurd h (by decide)) (fun _ => ?_)
  refine g_aload_n (pc1 := 25) d_Past_init_24 rfl 0 rfl ?_
  refine g_getr (pc1 := 28) d_Past_init_25 rfl ⟨_, fo_Past_11⟩ sh_78 (by decide) q5429 ?_
  refine g_iload_n (pc1 := 29) d_Past_init_28 rfl 1 rfl ?_
  refine g_new (pc1 := 32) (T := T_State) (ty := ty_State) d_Past_init_29 rfl rfl (fun w h => gtb_of (in_State w h).1 (in_State w h).2) tyk_State (by decide) ck_Past_9 cn_State cz_State (shSt_0 (by decide : 346 ∈ lSt)) (fun i => ((Fz.wR F5426 (by decide) eR5428) _ (Nat.le_refl _) i).1) (fun i => ((Fz.wR F5426 (by decide) eR5428) _ (Nat.le_refl _) i).2.2) (Nat.le_of_ble_eq_true rfl) (Nat.le_of_ble_eq_true rfl) ?_
  refine g_dup (pc1 := 33) d_Past_init_32 rfl rfl ?_
  refine g_callI (pc1 := 36) (E' := (6, 34, 353)) (As := []) (rest := [.ref 346, .int 38, .ref 79]) d_Past_init_33 rfl mo_Past_17 mi_State_init rfl rfl (by decide) rfl rfl (Nat.le_of_ble_eq_true rfl) ⟨Nat.le_of_ble_eq_true rfl, Nat.le_of_ble_eq_true rfl⟩ rfl ?_
  refine t0_State_init 346 (by decide : 346 ∈ lSt) (Fz.up (Fz.wR F5426 (by decide) eR5428)) (fun M5430 L5431 R5432 eM5430 eL5431 eR5432 F5433 => ?_)
  dsimp only
  have q5434 : R5432 78 0 = some 79 := ((congrFun (congrFun eR5432 78) 0).trans (kR_State_ne (by decide))).trans q5429
  refine g_aast (pc1 := 37) (ci := 6) (r := ("CookedLaw$State", T_State, 10)) d_Past_init_36 rfl sh_79 (by decide) (vin_lit (x := 38) (by decide)) (shSt_0 (by decide : 346 ∈ lSt)) (by decide) rfl rfl ?_
  rw [show ((38 : Int32).toNatClampNeg) = 38 from by decide]
  refine Wp.topR (fun R5435 eR5435 => ?_)
  have q5436 : R5435 78 0 = some 79 := (rdR_ne eR5435 (by decide)).trans q5434
  refine g_iinc (pc1 := 40) (v := 39) (lv' := [(0, .ref 78), (1, .int 39)]) d_Past_init_37 rfl 1 rfl (by decide) (by decide) [1, 0] rfl ?_
  refine g_goto (tgt := 15) d_Past_init_40 (by decide) ?_
  refine g_iload_n (pc1 := 16) d_Past_init_15 rfl 1 rfl ?_
  refine g_aload_n (pc1 := 17) d_Past_init_16 rfl 0 rfl ?_
  refine g_getr (pc1 := 20) d_Past_init_17 rfl ⟨_, fo_Past_11⟩ sh_78 (by decide) q5436 ?_
  refine g_alen (pc1 := 21) (v := 40) d_Past_init_20 rfl sh_79 (by decide) (by decide) (by decide) (by decide) ?_
  refine g_icmp_ge (pc1 := 24) (tgt := 43) d_Past_init_21 (by decide) rfl (fun h => absurd h (by decide)) (fun _ => ?_)
  refine g_aload_n (pc1 := 25) d_Past_init_24 rfl 0 rfl ?_
  refine g_getr (pc1 := 28) d_Past_init_25 rfl ⟨_, fo_Past_11⟩ sh_78 (by decide) q5436 ?_
  refine g_iload_n (pc1 := 29) d_Past_init_28 rfl 1 rfl ?_
  refine g_new (pc1 := 32) (T := T_State) (ty := ty_State) d_Past_init_29 rfl rfl (fun w h => gtb_of (in_State w h).1 (in_State w h).2) tyk_State (by decide) ck_Past_9 cn_State cz_State (shSt_0 (by decide : 353 ∈ lSt)) (fun i => ((Fz.wR F5433 (by decide) eR5435) _ (Nat.le_refl _) i).1) (fun i => ((Fz.wR F5433 (by decide) eR5435) _ (Nat.le_refl _) i).2.2) (Nat.le_of_ble_eq_true rfl) (Nat.le_of_ble_eq_true rfl) ?_
  refine g_dup (pc1 := 33) d_Past_init_32 rfl rfl ?_
  refine g_callI (pc1 := 36) (E' := (6, 34, 360)) (As := []) (rest := [.ref 353, .int 39, .ref 79]) d_Past_init_33 rfl mo_Past_17 mi_State_init rfl rfl (by decide) rfl rfl (Nat.le_of_ble_eq_true rfl) ⟨Nat.le_of_ble_eq_true rfl, Nat.le_of_ble_eq_true rfl⟩ rfl ?_
  refine t0_State_init 353 (by decide : 353 ∈ lSt) (Fz.up (Fz.wR F5433 (by decide) eR5435)) (fun M5437 L5438 R5439 eM5437 eL5438 eR5439 F5440 => ?_)
  dsimp only
  have q5441 : R5439 78 0 = some 79 := ((congrFun (congrFun eR5439 78) 0).trans (kR_State_ne (by decide))).trans q5436
  refine g_aast (pc1 := 37) (ci := 6) (r := ("CookedLaw$State", T_State, 10)) d_Past_init_36 rfl sh_79 (by decide) (vin_lit (x := 39) (by decide)) (shSt_0 (by decide : 353 ∈ lSt)) (by decide) rfl rfl ?_
  rw [show ((39 : Int32).toNatClampNeg) = 39 from by decide]
  refine Wp.topR (fun R5442 eR5442 => ?_)
  have q5443 : R5442 78 0 = some 79 := (rdR_ne eR5442 (by decide)).trans q5441
  refine g_iinc (pc1 := 40) (v := 40) (lv' := [(0, .ref 78), (1, .int 40)]) d_Past_init_37 rfl 1 rfl (by decide) (by decide) [1, 0] rfl ?_
  refine g_goto (tgt := 15) d_Past_init_40 (by decide) ?_
  refine g_iload_n (pc1 := 16) d_Past_init_15 rfl 1 rfl ?_
  refine g_aload_n (pc1 := 17) d_Past_init_16 rfl 0 rfl ?_
  refine g_getr (pc1 := 20) d_Past_init_17 rfl ⟨_, fo_Past_11⟩ sh_78 (by decide) q5443 ?_
  refine g_alen (pc1 := 21) (v := 40) d_Past_init_20 rfl sh_79 (by decide) (by decide) (by decide) (by decide) ?_
  refine g_icmp_ge (pc1 := 24) (tgt := 43) d_Past_init_21 (by decide) rfl (fun _ => ?_) (fun h => absurd h (by decide))
  refine g_return rfl d_Past_init_43 rfl ?_
  exact hQ _ _ _ (by subst_vars; rfl) (by subst_vars; rfl) (by subst_vars; rfl) (Fz.wR F5440 (by decide) eR5442)
def kM_Slots_init (M : gM) : gM := (kM_State_init 376 (kM_State_init 369 (kM_State_init 362 M)))
def kL_Slots_init (L : gL) : gL := (kL_State_init 376 (kL_State_init 369 (kL_State_init 362 L)))
def kR_Slots_init (R : gR) : gR := (uR (kR_State_init 376 (uR (kR_State_init 369 (uR (kR_State_init 362 (uR R 360 0 (some 361))) 361 0 (some 362))) 361 1 (some 369))) 361 2 (some 376))
set_option maxHeartbeats 4000000 in
set_option maxRecDepth 20000 in
theorem t0_Slots_init {l : Launch} {M : gM} {L : gL} {R : gR} {Q : Option Value → gM → gL → gR → Prop} (hF : Fz 361 M L R) (hQ : ∀ (M' : gM) (L' : gL) (R' : gR), M' = kM_Slots_init M → L' = kL_Slots_init L → R' = kR_Slots_init R → Fz 383 M' L' R' → Q none M' L' R') : Tm l y_Slots_init (22, 135, 383) 361 [.ref 360] M L R Q := by
  refine Tm.of (by decide) (Nat.le_of_ble_eq_true rfl) ?_
  show Wp l y_Slots_init (22, 135, 383) 361 0 0 0 [(0, .ref 360)] [] M L R Q
  refine g_aload_n (pc1 := 1) d_Slots_init_0 rfl 0 rfl ?_
  refine g_objInit (pc1 := 4) d_Slots_init_1 rfl ml_Slots_3 mi_objectInit mc_objectInit (by decide) (Nat.le_of_ble_eq_true rfl) ?_
  refine g_aload_n (pc1 := 5) d_Slots_init_4 rfl 0 rfl ?_
  refine g_iconst (pc1 := 6) (v := 3) d_Slots_init_5 rfl (by decide) ?_
  refine g_newR (pc1 := 9) d_Slots_init_6 rfl ck_Slots_9 sh_361 (fun i => (hF _ (Nat.le_refl _) i).2.2) (by decide) (by decide) (by decide) (Nat.le_of_ble_eq_true rfl) (Nat.le_of_ble_eq_true rfl) ?_
  refine g_putF (pc1 := 12) (v := .ref 361) (M' := M) (R' := uR R 360 0 (some 361)) d_Slots_init_9 rfl rfl ff_Slots_11 (fun _ => po_8_0 _) sh_360 (by decide) (fun _ => fvl_R_self) (fun _ q h => fvl_R_ne q h) (fun _ _ _ h => ent_neR h) ?_
  refine Wp.topR (fun R5444 eR5444 => ?_)
  have q5445 : R5444 360 0 = some 361 := rdR_eq eR5444
  refine g_iconst (pc1 := 13) (v := 0) d_Slots_init_12 rfl (by decide) ?_
  refine g_istore_n (pc1 := 14) (lv' := [(0, .ref 360), (1, .int 0)]) d_Slots_init_13 rfl rfl (by decide) [1, 0] rfl ?_
  refine g_iload_n (pc1 := 15) d_Slots_init_14 rfl 1 rfl ?_
  refine g_aload_n (pc1 := 16) d_Slots_init_15 rfl 0 rfl ?_
  refine g_getr (pc1 := 19) d_Slots_init_16 rfl ⟨_, fo_Slots_11⟩ sh_360 (by decide) q5445 ?_
  refine g_alen (pc1 := 20) (v := 3) d_Slots_init_19 rfl sh_361 (by decide) (by decide) (by decide) (by decide) ?_
  refine g_icmp_ge (pc1 := 23) (tgt := 42) d_Slots_init_20 (by decide) rfl (fun h => absurd h (by decide)) (fun _ => ?_)
  refine g_aload_n (pc1 := 24) d_Slots_init_23 rfl 0 rfl ?_
  refine g_getr (pc1 := 27) d_Slots_init_24 rfl ⟨_, fo_Slots_11⟩ sh_360 (by decide) q5445 ?_
  refine g_iload_n (pc1 := 28) d_Slots_init_27 rfl 1 rfl ?_
  refine g_new (pc1 := 31) (T := T_State) (ty := ty_State) d_Slots_init_28 rfl rfl (fun w h => gtb_of (in_State w h).1 (in_State w h).2) tyk_State (by decide) ck_Slots_9 cn_State cz_State (shSt_0 (by decide : 362 ∈ lSt)) (fun i => ((Fz.wR (Fz.up hF) (by decide) eR5444) _ (Nat.le_refl _) i).1) (fun i => ((Fz.wR (Fz.up hF) (by decide) eR5444) _ (Nat.le_refl _) i).2.2) (Nat.le_of_ble_eq_true rfl) (Nat.le_of_ble_eq_true rfl) ?_
  refine g_dup (pc1 := 32) d_Slots_init_31 rfl rfl ?_
  refine g_callI (pc1 := 35) (E' := (6, 34, 369)) (As := []) (rest := [.ref 362, .int 0, .ref 361]) d_Slots_init_32 rfl mo_Slots_17 mi_State_init rfl rfl (by decide) rfl rfl (Nat.le_of_ble_eq_true rfl) ⟨Nat.le_of_ble_eq_true rfl, Nat.le_of_ble_eq_true rfl⟩ rfl ?_
  refine t0_State_init 362 (by decide : 362 ∈ lSt) (Fz.up (Fz.wR (Fz.up hF) (by decide) eR5444)) (fun M5446 L5447 R5448 eM5446 eL5447 eR5448 F5449 => ?_)
  dsimp only
  have q5450 : R5448 360 0 = some 361 := ((congrFun (congrFun eR5448 360) 0).trans (kR_State_ne (by decide))).trans q5445
  refine g_aast (pc1 := 36) (ci := 6) (r := ("CookedLaw$State", T_State, 10)) d_Slots_init_35 rfl sh_361 (by decide) (vin_lit (x := 0) (by decide)) (shSt_0 (by decide : 362 ∈ lSt)) (by decide) rfl rfl ?_
  rw [show ((0 : Int32).toNatClampNeg) = 0 from by decide]
  refine Wp.topR (fun R5451 eR5451 => ?_)
  have q5452 : R5451 360 0 = some 361 := (rdR_ne eR5451 (by decide)).trans q5450
  refine g_iinc (pc1 := 39) (v := 1) (lv' := [(0, .ref 360), (1, .int 1)]) d_Slots_init_36 rfl 1 rfl (by decide) (by decide) [1, 0] rfl ?_
  refine g_goto (tgt := 14) d_Slots_init_39 (by decide) ?_
  refine g_iload_n (pc1 := 15) d_Slots_init_14 rfl 1 rfl ?_
  refine g_aload_n (pc1 := 16) d_Slots_init_15 rfl 0 rfl ?_
  refine g_getr (pc1 := 19) d_Slots_init_16 rfl ⟨_, fo_Slots_11⟩ sh_360 (by decide) q5452 ?_
  refine g_alen (pc1 := 20) (v := 3) d_Slots_init_19 rfl sh_361 (by decide) (by decide) (by decide) (by decide) ?_
  refine g_icmp_ge (pc1 := 23) (tgt := 42) d_Slots_init_20 (by decide) rfl (fun h => absurd h (by decide)) (fun _ => ?_)
  refine g_aload_n (pc1 := 24) d_Slots_init_23 rfl 0 rfl ?_
  refine g_getr (pc1 := 27) d_Slots_init_24 rfl ⟨_, fo_Slots_11⟩ sh_360 (by decide) q5452 ?_
  refine g_iload_n (pc1 := 28) d_Slots_init_27 rfl 1 rfl ?_
  refine g_new (pc1 := 31) (T := T_State) (ty := ty_State) d_Slots_init_28 rfl rfl (fun w h => gtb_of (in_State w h).1 (in_State w h).2) tyk_State (by decide) ck_Slots_9 cn_State cz_State (shSt_0 (by decide : 369 ∈ lSt)) (fun i => ((Fz.wR F5449 (by decide) eR5451) _ (Nat.le_refl _) i).1) (fun i => ((Fz.wR F5449 (by decide) eR5451) _ (Nat.le_refl _) i).2.2) (Nat.le_of_ble_eq_true rfl) (Nat.le_of_ble_eq_true rfl) ?_
  refine g_dup (pc1 := 32) d_Slots_init_31 rfl rfl ?_
  refine g_callI (pc1 := 35) (E' := (6, 34, 376)) (As := []) (rest := [.ref 369, .int 1, .ref 361]) d_Slots_init_32 rfl mo_Slots_17 mi_State_init rfl rfl (by decide) rfl rfl (Nat.le_of_ble_eq_true rfl) ⟨Nat.le_of_ble_eq_true rfl, Nat.le_of_ble_eq_true rfl⟩ rfl ?_
  refine t0_State_init 369 (by decide : 369 ∈ lSt) (Fz.up (Fz.wR F5449 (by decide) eR5451)) (fun M5453 L5454 R5455 eM5453 eL5454 eR5455 F5456 => ?_)
  dsimp only
  have q5457 : R5455 360 0 = some 361 := ((congrFun (congrFun eR5455 360) 0).trans (kR_State_ne (by decide))).trans q5452
  refine g_aast (pc1 := 36) (ci := 6) (r := ("CookedLaw$State", T_State, 10)) d_Slots_init_35 rfl sh_361 (by decide) (vin_lit (x := 1) (by decide)) (shSt_0 (by decide : 369 ∈ lSt)) (by decide) rfl rfl ?_
  rw [show ((1 : Int32).toNatClampNeg) = 1 from by decide]
  refine Wp.topR (fun R5458 eR5458 => ?_)
  have q5459 : R5458 360 0 = some 361 := (rdR_ne eR5458 (by decide)).trans q5457
  refine g_iinc (pc1 := 39) (v := 2) (lv' := [(0, .ref 360), (1, .int 2)]) d_Slots_init_36 rfl 1 rfl (by decide) (by decide) [1, 0] rfl ?_
  refine g_goto (tgt := 14) d_Slots_init_39 (by decide) ?_
  refine g_iload_n (pc1 := 15) d_Slots_init_14 rfl 1 rfl ?_
  refine g_aload_n (pc1 := 16) d_Slots_init_15 rfl 0 rfl ?_
  refine g_getr (pc1 := 19) d_Slots_init_16 rfl ⟨_, fo_Slots_11⟩ sh_360 (by decide) q5459 ?_
  refine g_alen (pc1 := 20) (v := 3) d_Slots_init_19 rfl sh_361 (by decide) (by decide) (by decide) (by decide) ?_
  refine g_icmp_ge (pc1 := 23) (tgt := 42) d_Slots_init_20 (by decide) rfl (fun h => absurd h (by decide)) (fun _ => ?_)
  refine g_aload_n (pc1 := 24) d_Slots_init_23 rfl 0 rfl ?_
  refine g_getr (pc1 := 27) d_Slots_init_24 rfl ⟨_, fo_Slots_11⟩ sh_360 (by decide) q5459 ?_
  refine g_iload_n (pc1 := 28) d_Slots_init_27 rfl 1 rfl ?_
  refine g_new (pc1 := 31) (T := T_State) (ty := ty_State) d_Slots_init_28 rfl rfl (fun w h => gtb_of (in_State w h).1 (in_State w h).2) tyk_State (by decide) ck_Slots_9 cn_State cz_State (shSt_0 (by decide : 376 ∈ lSt)) (fun i => ((Fz.wR F5456 (by decide) eR5458) _ (Nat.le_refl _) i).1) (fun i => ((Fz.wR F5456 (by decide) eR5458) _ (Nat.le_refl _) i).2.2) (Nat.le_of_ble_eq_true rfl) (Nat.le_of_ble_eq_true rfl) ?_
  refine g_dup (pc1 := 32) d_Slots_init_31 rfl rfl ?_
  refine g_callI (pc1 := 35) (E' := (6, 34, 383)) (As := []) (rest := [.ref 376, .int 2, .ref 361]) d_Slots_init_32 rfl mo_Slots_17 mi_State_init rfl rfl (by decide) rfl rfl (Nat.le_of_ble_eq_true rfl) ⟨Nat.le_of_ble_eq_true rfl, Nat.le_of_ble_eq_true rfl⟩ rfl ?_
  refine t0_State_init 376 (by decide : 376 ∈ lSt) (Fz.up (Fz.wR F5456 (by decide) eR5458)) (fun M5460 L5461 R5462 eM5460 eL5461 eR5462 F5463 => ?_)
  dsimp only
  have q5464 : R5462 360 0 = some 361 := ((congrFun (congrFun eR5462 360) 0).trans (kR_State_ne (by decide))).trans q5459
  refine g_aast (pc1 := 36) (ci := 6) (r := ("CookedLaw$State", T_State, 10)) d_Slots_init_35 rfl sh_361 (by decide) (vin_lit (x := 2) (by decide)) (shSt_0 (by decide : 376 ∈ lSt)) (by decide) rfl rfl ?_
  rw [show ((2 : Int32).toNatClampNeg) = 2 from by decide]
  refine Wp.topR (fun R5465 eR5465 => ?_)
  have q5466 : R5465 360 0 = some 361 := (rdR_ne eR5465 (by decide)).trans q5464
  refine g_iinc (pc1 := 39) (v := 3) (lv' := [(0, .ref 360), (1, .int 3)]) d_Slots_init_36 rfl 1 rfl (by decide) (by decide) [1, 0] rfl ?_
  refine g_goto (tgt := 14) d_Slots_init_39 (by decide) ?_
  refine g_iload_n (pc1 := 15) d_Slots_init_14 rfl 1 rfl ?_
  refine g_aload_n (pc1 := 16) d_Slots_init_15 rfl 0 rfl ?_
  refine g_getr (pc1 := 19) d_Slots_init_16 rfl ⟨_, fo_Slots_11⟩ sh_360 (by decide) q5466 ?_
  refine g_alen (pc1 := 20) (v := 3) d_Slots_init_19 rfl sh_361 (by decide) (by decide) (by decide) (by decide) ?_
  refine g_icmp_ge (pc1 := 23) (tgt := 42) d_Slots_init_20 (by decide) rfl (fun _ => ?_) (fun h => absurd h (by decide))
  refine g_return rfl d_Slots_init_42 rfl ?_
  exact hQ _ _ _ (by subst_vars; rfl) (by subst_vars; rfl) (by subst_vars; rfl) (Fz.wR F5463 (by decide) eR5465)
def kM_Tokens_init (M : gM) : gM := M
def kL_Tokens_init (L : gL) : gL := (uL (uL (uL (uL (uL (uL (uL (uL (uL (uL (uL (uL (uL (uL (uL (uL (uL (uL (uL (uL (uL (uL (uL (uL (uL (uL (uL (uL (uL (uL (uL (uL (uL (uL (uL (uL (uL (uL (uL (uL (uL (uL (uL (uL (uL (uL (uL (uL (uL (uL (uL (uL (uL (uL (uL (uL (uL (uL (uL (uL (uL (uL (uL (uL (uL (uL (uL (uL (uL (uL (uL (uL (uL (uL (uL (uL (uL (uL (uL (uL (uL (uL (uL (uL (uL (uL (uL (uL L 5 0 6) 5 0 207) 5 0 6639) 5 0 212452) 5 1 4) 5 1 137) 5 1 4403) 5 1 140904) 5 2 7) 5 2 245) 5 2 7845) 5 2 251059) 5 2 8033908) 5 3 4) 5 3 133) 5 3 4261) 5 3 136356) 5 4 6) 5 4 207) 5 4 6642) 5 4 212547) 5 4 6801509) 5 5 2) 5 5 73) 5 5 2350) 5 5 75204) 5 5 2406547) 5 6 6) 5 6 201) 5 6 6444) 5 6 206220) 5 6 6599059) 5 7 19) 5 7 620) 5 7 19849) 5 7 635184) 5 7 20325907) 5 8 19) 5 8 613) 5 8 19621) 5 8 627876) 5 9 9) 5 9 294) 5 10 20) 5 10 648) 5 10 20741) 5 10 663726) 5 11 5) 5 11 172) 5 11 5523) 5 11 176741) 5 12 19) 5 12 629) 5 12 20141) 5 13 8) 5 13 261) 5 13 8353) 5 13 267316) 5 14 11) 5 14 361) 5 14 11566) 5 14 370116) 5 15 13) 5 15 417) 5 15 13358) 5 15 427481) 5 16 4) 5 16 129) 5 16 4153) 5 17 16) 5 17 513) 5 17 16428) 5 17 525697) 5 17 16822324) 5 17 538314373) 5 18 1) 5 18 39) 5 18 1263) 5 19 19) 5 19 628) 5 19 20111) 5 19 643555) 5 19 20593771) 5 20 16) 5 20 530) 5 20 16969) 5 20 543011) 5 20 17376357)
def kR_Tokens_init (R : gR) : gR := (uR (uR (uR (uR R 4 0 (some 5)) 4 1 (some 6)) 4 2 (some 7)) 4 3 (some 8))
set_option maxHeartbeats 4000000 in
set_option maxRecDepth 20000 in
theorem t0_Tokens_init {l : Launch} {M : gM} {L : gL} {R : gR} {Q : Option Value → gM → gL → gR → Prop} (hF : Fz 5 M L R) (hQ : ∀ (M' : gM) (L' : gL) (R' : gR), M' = kM_Tokens_init M → L' = kL_Tokens_init L → R' = kR_Tokens_init R → Fz 9 M' L' R' → Q none M' L' R') : Tm l y_Tokens_init (4, 1224, 9) 5 [.ref 4] M L R Q := by
  refine Tm.of (by decide) (Nat.le_of_ble_eq_true rfl) ?_
  show Wp l y_Tokens_init (4, 1224, 9) 5 0 0 0 [(0, .ref 4)] [] M L R Q
  refine g_aload_n (pc1 := 1) d_Tokens_init_0 rfl 0 rfl ?_
  refine g_objInit (pc1 := 4) d_Tokens_init_1 rfl ml_Tokens_3 mi_objectInit mc_objectInit (by decide) (Nat.le_of_ble_eq_true rfl) ?_
  refine g_aload_n (pc1 := 5) d_Tokens_init_4 rfl 0 rfl ?_
  refine g_bipush (pc1 := 7) (v := 21) d_Tokens_init_5 rfl (by decide) ?_
  refine g_newJ (pc1 := 9) d_Tokens_init_7 rfl ca_long sh_5 (fun i => (hF _ (Nat.le_refl _) i).2.1) (by decide) (by decide) (by decide) (Nat.le_of_ble_eq_true rfl) (Nat.le_of_ble_eq_true rfl) ?_
  refine g_putF (pc1 := 12) (v := .ref 5) (M' := M) (R' := uR R 4 0 (some 5)) d_Tokens_init_9 rfl rfl ff_Tokens_9 (fun _ => po_3_0 _) sh_4 (by decide) (fun _ => fvl_R_self) (fun _ q h => fvl_R_ne q h) (fun _ _ _ h => ent_neR h) ?_
  refine Wp.topR (fun R5467 eR5467 => ?_)
  have q5468 : R5467 4 0 = some 5 := rdR_eq eR5467
  refine g_aload_n (pc1 := 13) d_Tokens_init_12 rfl 0 rfl ?_
  refine g_sipush (pc1 := 16) (v := 401) d_Tokens_init_13 rfl (by decide) ?_
  refine g_newI (pc1 := 18) d_Tokens_init_16 rfl ca_int sh_6 (fun i => ((Fz.wR (Fz.up hF) (by decide) eR5467) _ (Nat.le_refl _) i).1) (by decide) (by decide) (by decide) (Nat.le_of_ble_eq_true rfl) (Nat.le_of_ble_eq_true rfl) ?_
  refine g_putF (pc1 := 21) (v := .ref 6) (M' := M) (R' := uR R5467 4 1 (some 6)) d_Tokens_init_18 rfl rfl ff_Tokens_15 (fun _ => po_3_1 _) sh_4 (by decide) (fun _ => fvl_R_self) (fun _ q h => fvl_R_ne q h) (fun _ _ _ h => ent_neR h) ?_
  refine Wp.topR (fun R5469 eR5469 => ?_)
  have q5470 : R5469 4 0 = some 5 := (rdR_ne eR5469 (by decide)).trans q5468
  refine g_aload_n (pc1 := 22) d_Tokens_init_21 rfl 0 rfl ?_
  refine g_sipush (pc1 := 25) (v := 401) d_Tokens_init_22 rfl (by decide) ?_
  refine g_newI (pc1 := 27) d_Tokens_init_25 rfl ca_int sh_7 (fun i => ((Fz.wR (Fz.up (Fz.wR (Fz.up hF) (by decide) eR5467)) (by decide) eR5469) _ (Nat.le_refl _) i).1) (by decide) (by decide) (by decide) (Nat.le_of_ble_eq_true rfl) (Nat.le_of_ble_eq_true rfl) ?_
  refine g_putF (pc1 := 30) (v := .ref 7) (M' := M) (R' := uR R5469 4 2 (some 7)) d_Tokens_init_27 rfl rfl ff_Tokens_19 (fun _ => po_3_2 _) sh_4 (by decide) (fun _ => fvl_R_self) (fun _ q h => fvl_R_ne q h) (fun _ _ _ h => ent_neR h) ?_
  refine Wp.topR (fun R5471 eR5471 => ?_)
  have q5472 : R5471 4 0 = some 5 := (rdR_ne eR5471 (by decide)).trans q5470
  refine g_aload_n (pc1 := 31) d_Tokens_init_30 rfl 0 rfl ?_
  refine g_sipush (pc1 := 34) (v := 401) d_Tokens_init_31 rfl (by decide) ?_
  refine g_newJ (pc1 := 36) d_Tokens_init_34 rfl ca_long sh_8 (fun i => ((Fz.wR (Fz.up (Fz.wR (Fz.up (Fz.wR (Fz.up hF) (by decide) eR5467)) (by decide) eR5469)) (by decide) eR5471) _ (Nat.le_refl _) i).2.1) (by decide) (by decide) (by decide) (Nat.le_of_ble_eq_true rfl) (Nat.le_of_ble_eq_true rfl) ?_
  refine g_putF (pc1 := 39) (v := .ref 8) (M' := M) (R' := uR R5471 4 3 (some 8)) d_Tokens_init_36 rfl rfl ff_Tokens_22 (fun _ => po_3_3 _) sh_4 (by decide) (fun _ => fvl_R_self) (fun _ q h => fvl_R_ne q h) (fun _ _ _ h => ent_neR h) ?_
  refine Wp.topR (fun R5473 eR5473 => ?_)
  have q5474 : R5473 4 0 = some 5 := (rdR_ne eR5473 (by decide)).trans q5472
  refine g_iconst (pc1 := 40) (v := 0) d_Tokens_init_39 rfl (by decide) ?_
  refine g_istore_n (pc1 := 41) (lv' := [(0, .ref 4), (1, .int 0)]) d_Tokens_init_40 rfl rfl (by decide) [1, 0] rfl ?_
  refine g_iconst (pc1 := 42) (v := 0) d_Tokens_init_41 rfl (by decide) ?_
  refine g_istore_n (pc1 := 43) (lv' := [(0, .ref 4), (1, .int 0), (2, .int 0)]) d_Tokens_init_42 rfl rfl (by decide) [1, 2, 0] rfl ?_
  refine g_iload_n (pc1 := 44) d_Tokens_init_43 rfl 2 rfl ?_
  refine g_strlen (pc1 := 49) rfl d_Tokens_init_44 d_Tokens_init_46 rfl (Nat.le_of_ble_eq_true rfl) ⟨Nat.le_of_ble_eq_true rfl, Nat.le_of_ble_eq_true rfl⟩ ?_
  refine g_icmp_ge (pc1 := 52) (tgt := 102) d_Tokens_init_49 (by decide) rfl (fun h => absurd h (by decide)) (fun _ => ?_)
  refine g_strchr (pc1 := 58) (v := 102) rfl d_Tokens_init_52 d_Tokens_init_54 d_Tokens_init_55 rfl 2 rfl (by decide) (by decide) (by decide +kernel) (Nat.le_of_ble_eq_true rfl) ⟨Nat.le_of_ble_eq_true rfl, Nat.le_of_ble_eq_true rfl⟩ ?_
  refine g_istore_n (pc1 := 59) (lv' := [(0, .ref 4), (1, .int 0), (2, .int 0), (3, .int 102)]) d_Tokens_init_58 rfl rfl (by decide) [1, 2, 3, 0] rfl ?_
  refine g_iload_n (pc1 := 60) d_Tokens_init_59 rfl 3 rfl ?_
  refine g_bipush (pc1 := 62) (v := 32) d_Tokens_init_60 rfl (by decide) ?_
  refine g_icmp_ne (pc1 := 65) (tgt := 71) d_Tokens_init_62 (by decide) rfl (fun _ => ?_) (fun h => absurd h (by decide))
  refine g_iload_n (pc1 := 72) d_Tokens_init_71 rfl 1 rfl ?_
  refine g_aload_n (pc1 := 73) d_Tokens_init_72 rfl 0 rfl ?_
  refine g_getr (pc1 := 76) d_Tokens_init_73 rfl ⟨_, fo_Tokens_9⟩ sh_4 (by decide) q5474 ?_
  refine g_alen (pc1 := 77) (v := 21) d_Tokens_init_76 rfl sh_5 (by decide) (by decide) (by decide) (by decide) ?_
  refine g_icmp_ge (pc1 := 80) (tgt := 96) d_Tokens_init_77 (by decide) rfl (fun h => absurd h (by decide)) (fun _ => ?_)
  refine g_aload_n (pc1 := 81) d_Tokens_init_80 rfl 0 rfl ?_
  refine g_getr (pc1 := 84) d_Tokens_init_81 rfl ⟨_, fo_Tokens_9⟩ sh_4 (by decide) q5474 ?_
  refine g_iload_n (pc1 := 85) d_Tokens_init_84 rfl 1 rfl ?_
  refine g_aload_n (pc1 := 86) d_Tokens_init_85 rfl 0 rfl ?_
  refine g_getr (pc1 := 89) d_Tokens_init_86 rfl ⟨_, fo_Tokens_9⟩ sh_4 (by decide) q5474 ?_
  refine g_iload_n (pc1 := 90) d_Tokens_init_89 rfl 1 rfl ?_
  refine g_lald (pc1 := 91) d_Tokens_init_90 rfl sh_5 (by decide) (vin_lit (x := 0) (by decide)) ?_
  have Z5475 : ∀ j : Nat, L 5 j = 0 := fun j => (hF _ (by decide) j).2.1
  refine Wp.vall (y := 0) (by rw [show (0 : Int32).toNatClampNeg = 0 from by decide]; exact (Z5475 0)) ?_
  refine g_iload_n (pc1 := 92) d_Tokens_init_91 rfl 3 rfl ?_
  refine g_callS (pc1 := 95) (E' := (0, 0, 9)) (As := [.long 0, .int 102]) (rest := [.int 0, .ref 5]) d_Tokens_init_92 rfl mo_Tokens_37 ms_Tokens_withLetter (by decide) rfl rfl (Nat.le_of_ble_eq_true rfl) ⟨Nat.le_of_ble_eq_true rfl, Nat.le_of_ble_eq_true rfl⟩ rfl ?_
  refine t0_withLetter ?_
  dsimp only [psh]
  refine Wp.vall (y := 6) (by decide +kernel) ?_
  refine g_last (pc1 := 96) d_Tokens_init_95 rfl sh_5 (by decide) (vin_lit (x := 0) (by decide)) ?_
  rw [show ((0 : Int32).toNatClampNeg) = 0 from by decide]
  refine Wp.topL (fun L5476 eL5476 => ?_)
  have Z5477 : ∀ j : Nat, 0 < j → L5476 5 j = 0 := fun j hj => (rdL_ne eL5476 (fun q => by omega)).trans (Z5475 j)
  have q5478 : L5476 5 0 = 6 := rdL_eq eL5476
  refine g_iinc (pc1 := 99) (v := 1) (lv' := [(0, .ref 4), (1, .int 0), (2, .int 1), (3, .int 102)]) d_Tokens_init_96 rfl 2 rfl (by decide) (by decide) [1, 2, 0, 3] rfl ?_
  refine g_goto (tgt := 43) d_Tokens_init_99 (by decide) ?_
  refine g_iload_n (pc1 := 44) d_Tokens_init_43 rfl 2 rfl ?_
  refine g_strlen (pc1 := 49) rfl d_Tokens_init_44 d_Tokens_init_46 rfl (Nat.le_of_ble_eq_true rfl) ⟨Nat.le_of_ble_eq_true rfl, Nat.le_of_ble_eq_true rfl⟩ ?_
  refine g_icmp_ge (pc1 := 52) (tgt := 102) d_Tokens_init_49 (by decide) rfl (fun h => absurd h (by decide)) (fun _ => ?_)
  refine g_strchr (pc1 := 58) (v := 111) rfl d_Tokens_init_52 d_Tokens_init_54 d_Tokens_init_55 rfl 2 rfl (by decide) (by decide) (by decide +kernel) (Nat.le_of_ble_eq_true rfl) ⟨Nat.le_of_ble_eq_true rfl, Nat.le_of_ble_eq_true rfl⟩ ?_
  refine g_istore_n (pc1 := 59) (lv' := [(0, .ref 4), (1, .int 0), (2, .int 1), (3, .int 111)]) d_Tokens_init_58 rfl rfl (by decide) [1, 2, 3, 0] rfl ?_
  refine g_iload_n (pc1 := 60) d_Tokens_init_59 rfl 3 rfl ?_
  refine g_bipush (pc1 := 62) (v := 32) d_Tokens_init_60 rfl (by decide) ?_
  refine g_icmp_ne (pc1 := 65) (tgt := 71) d_Tokens_init_62 (by decide) rfl (fun _ => ?_) (fun h => absurd h (by decide))
  refine g_iload_n (pc1 := 72) d_Tokens_init_71 rfl 1 rfl ?_
  refine g_aload_n (pc1 := 73) d_Tokens_init_72 rfl 0 rfl ?_
  refine g_getr (pc1 := 76) d_Tokens_init_73 rfl ⟨_, fo_Tokens_9⟩ sh_4 (by decide) q5474 ?_
  refine g_alen (pc1 := 77) (v := 21) d_Tokens_init_76 rfl sh_5 (by decide) (by decide) (by decide) (by decide) ?_
  refine g_icmp_ge (pc1 := 80) (tgt := 96) d_Tokens_init_77 (by decide) rfl (fun h => absurd h (by decide)) (fun _ => ?_)
  refine g_aload_n (pc1 := 81) d_Tokens_init_80 rfl 0 rfl ?_
  refine g_getr (pc1 := 84) d_Tokens_init_81 rfl ⟨_, fo_Tokens_9⟩ sh_4 (by decide) q5474 ?_
  refine g_iload_n (pc1 := 85) d_Tokens_init_84 rfl 1 rfl ?_
  refine g_aload_n (pc1 := 86) d_Tokens_init_85 rfl 0 rfl ?_
  refine g_getr (pc1 := 89) d_Tokens_init_86 rfl ⟨_, fo_Tokens_9⟩ sh_4 (by decide) q5474 ?_
  refine g_iload_n (pc1 := 90) d_Tokens_init_89 rfl 1 rfl ?_
  refine g_lald (pc1 := 91) d_Tokens_init_90 rfl sh_5 (by decide) (vin_lit (x := 0) (by decide)) ?_
  refine Wp.vall (y := 6) (by rw [show (0 : Int32).toNatClampNeg = 0 from by decide]; exact q5478) ?_
  refine g_iload_n (pc1 := 92) d_Tokens_init_91 rfl 3 rfl ?_
  refine g_callS (pc1 := 95) (E' := (0, 0, 9)) (As := [.long 6, .int 111]) (rest := [.int 0, .ref 5]) d_Tokens_init_92 rfl mo_Tokens_37 ms_Tokens_withLetter (by decide) rfl rfl (Nat.le_of_ble_eq_true rfl) ⟨Nat.le_of_ble_eq_true rfl, Nat.le_of_ble_eq_true rfl⟩ rfl ?_
  refine t0_withLetter ?_
  dsimp only [psh]
  refine Wp.vall (y := 207) (by decide +kernel) ?_
  refine g_last (pc1 := 96) d_Tokens_init_95 rfl sh_5 (by decide) (vin_lit (x := 0) (by decide)) ?_
  rw [show ((0 : Int32).toNatClampNeg) = 0 from by decide]
  refine Wp.topL (fun L5479 eL5479 => ?_)
  have Z5480 : ∀ j : Nat, 0 < j → L5479 5 j = 0 := fun j hj => (rdL_ne eL5479 (fun q => by omega)).trans (Z5477 j (by omega))
  have q5481 : L5479 5 0 = 207 := rdL_eq eL5479
  refine g_iinc (pc1 := 99) (v := 2) (lv' := [(0, .ref 4), (1, .int 0), (2, .int 2), (3, .int 111)]) d_Tokens_init_96 rfl 2 rfl (by decide) (by decide) [1, 2, 0, 3] rfl ?_
  refine g_goto (tgt := 43) d_Tokens_init_99 (by decide) ?_
  refine g_iload_n (pc1 := 44) d_Tokens_init_43 rfl 2 rfl ?_
  refine g_strlen (pc1 := 49) rfl d_Tokens_init_44 d_Tokens_init_46 rfl (Nat.le_of_ble_eq_true rfl) ⟨Nat.le_of_ble_eq_true rfl, Nat.le_of_ble_eq_true rfl⟩ ?_
  refine g_icmp_ge (pc1 := 52) (tgt := 102) d_Tokens_init_49 (by decide) rfl (fun h => absurd h (by decide)) (fun _ => ?_)
  refine g_strchr (pc1 := 58) (v := 111) rfl d_Tokens_init_52 d_Tokens_init_54 d_Tokens_init_55 rfl 2 rfl (by decide) (by decide) (by decide +kernel) (Nat.le_of_ble_eq_true rfl) ⟨Nat.le_of_ble_eq_true rfl, Nat.le_of_ble_eq_true rfl⟩ ?_
  refine g_istore_n (pc1 := 59) (lv' := [(0, .ref 4), (1, .int 0), (2, .int 2), (3, .int 111)]) d_Tokens_init_58 rfl rfl (by decide) [1, 2, 3, 0] rfl ?_
  refine g_iload_n (pc1 := 60) d_Tokens_init_59 rfl 3 rfl ?_
  refine g_bipush (pc1 := 62) (v := 32) d_Tokens_init_60 rfl (by decide) ?_
  refine g_icmp_ne (pc1 := 65) (tgt := 71) d_Tokens_init_62 (by decide) rfl (fun _ => ?_) (fun h => absurd h (by decide))
  refine g_iload_n (pc1 := 72) d_Tokens_init_71 rfl 1 rfl ?_
  refine g_aload_n (pc1 := 73) d_Tokens_init_72 rfl 0 rfl ?_
  refine g_getr (pc1 := 76) d_Tokens_init_73 rfl ⟨_, fo_Tokens_9⟩ sh_4 (by decide) q5474 ?_
  refine g_alen (pc1 := 77) (v := 21) d_Tokens_init_76 rfl sh_5 (by decide) (by decide) (by decide) (by decide) ?_
  refine g_icmp_ge (pc1 := 80) (tgt := 96) d_Tokens_init_77 (by decide) rfl (fun h => absurd h (by decide)) (fun _ => ?_)
  refine g_aload_n (pc1 := 81) d_Tokens_init_80 rfl 0 rfl ?_
  refine g_getr (pc1 := 84) d_Tokens_init_81 rfl ⟨_, fo_Tokens_9⟩ sh_4 (by decide) q5474 ?_
  refine g_iload_n (pc1 := 85) d_Tokens_init_84 rfl 1 rfl ?_
  refine g_aload_n (pc1 := 86) d_Tokens_init_85 rfl 0 rfl ?_
  refine g_getr (pc1 := 89) d_Tokens_init_86 rfl ⟨_, fo_Tokens_9⟩ sh_4 (by decide) q5474 ?_
  refine g_iload_n (pc1 := 90) d_Tokens_init_89 rfl 1 rfl ?_
  refine g_lald (pc1 := 91) d_Tokens_init_90 rfl sh_5 (by decide) (vin_lit (x := 0) (by decide)) ?_
  refine Wp.vall (y := 207) (by rw [show (0 : Int32).toNatClampNeg = 0 from by decide]; exact q5481) ?_
  refine g_iload_n (pc1 := 92) d_Tokens_init_91 rfl 3 rfl ?_
  refine g_callS (pc1 := 95) (E' := (0, 0, 9)) (As := [.long 207, .int 111]) (rest := [.int 0, .ref 5]) d_Tokens_init_92 rfl mo_Tokens_37 ms_Tokens_withLetter (by decide) rfl rfl (Nat.le_of_ble_eq_true rfl) ⟨Nat.le_of_ble_eq_true rfl, Nat.le_of_ble_eq_true rfl⟩ rfl ?_
  refine t0_withLetter ?_
  dsimp only [psh]
  refine Wp.vall (y := 6639) (by decide +kernel) ?_
  refine g_last (pc1 := 96) d_Tokens_init_95 rfl sh_5 (by decide) (vin_lit (x := 0) (by decide)) ?_
  rw [show ((0 : Int32).toNatClampNeg) = 0 from by decide]
  refine Wp.topL (fun L5482 eL5482 => ?_)
  have Z5483 : ∀ j : Nat, 0 < j → L5482 5 j = 0 := fun j hj => (rdL_ne eL5482 (fun q => by omega)).trans (Z5480 j (by omega))
  have q5484 : L5482 5 0 = 6639 := rdL_eq eL5482
  refine g_iinc (pc1 := 99) (v := 3) (lv' := [(0, .ref 4), (1, .int 0), (2, .int 3), (3, .int 111)]) d_Tokens_init_96 rfl 2 rfl (by decide) (by decide) [1, 2, 0, 3] rfl ?_
  refine g_goto (tgt := 43) d_Tokens_init_99 (by decide) ?_
  refine g_iload_n (pc1 := 44) d_Tokens_init_43 rfl 2 rfl ?_
  refine g_strlen (pc1 := 49) rfl d_Tokens_init_44 d_Tokens_init_46 rfl (Nat.le_of_ble_eq_true rfl) ⟨Nat.le_of_ble_eq_true rfl, Nat.le_of_ble_eq_true rfl⟩ ?_
  refine g_icmp_ge (pc1 := 52) (tgt := 102) d_Tokens_init_49 (by decide) rfl (fun h => absurd h (by decide)) (fun _ => ?_)
  refine g_strchr (pc1 := 58) (v := 100) rfl d_Tokens_init_52 d_Tokens_init_54 d_Tokens_init_55 rfl 2 rfl (by decide) (by decide) (by decide +kernel) (Nat.le_of_ble_eq_true rfl) ⟨Nat.le_of_ble_eq_true rfl, Nat.le_of_ble_eq_true rfl⟩ ?_
  refine g_istore_n (pc1 := 59) (lv' := [(0, .ref 4), (1, .int 0), (2, .int 3), (3, .int 100)]) d_Tokens_init_58 rfl rfl (by decide) [1, 2, 3, 0] rfl ?_
  refine g_iload_n (pc1 := 60) d_Tokens_init_59 rfl 3 rfl ?_
  refine g_bipush (pc1 := 62) (v := 32) d_Tokens_init_60 rfl (by decide) ?_
  refine g_icmp_ne (pc1 := 65) (tgt := 71) d_Tokens_init_62 (by decide) rfl (fun _ => ?_) (fun h => absurd h (by decide))
  refine g_iload_n (pc1 := 72) d_Tokens_init_71 rfl 1 rfl ?_
  refine g_aload_n (pc1 := 73) d_Tokens_init_72 rfl 0 rfl ?_
  refine g_getr (pc1 := 76) d_Tokens_init_73 rfl ⟨_, fo_Tokens_9⟩ sh_4 (by decide) q5474 ?_
  refine g_alen (pc1 := 77) (v := 21) d_Tokens_init_76 rfl sh_5 (by decide) (by decide) (by decide) (by decide) ?_
  refine g_icmp_ge (pc1 := 80) (tgt := 96) d_Tokens_init_77 (by decide) rfl (fun h => absurd h (by decide)) (fun _ => ?_)
  refine g_aload_n (pc1 := 81) d_Tokens_init_80 rfl 0 rfl ?_
  refine g_getr (pc1 := 84) d_Tokens_init_81 rfl ⟨_, fo_Tokens_9⟩ sh_4 (by decide) q5474 ?_
  refine g_iload_n (pc1 := 85) d_Tokens_init_84 rfl 1 rfl ?_
  refine g_aload_n (pc1 := 86) d_Tokens_init_85 rfl 0 rfl ?_
  refine g_getr (pc1 := 89) d_Tokens_init_86 rfl ⟨_, fo_Tokens_9⟩ sh_4 (by decide) q5474 ?_
  refine g_iload_n (pc1 := 90) d_Tokens_init_89 rfl 1 rfl ?_
  refine g_lald (pc1 := 91) d_Tokens_init_90 rfl sh_5 (by decide) (vin_lit (x := 0) (by decide)) ?_
  refine Wp.vall (y := 6639) (by rw [show (0 : Int32).toNatClampNeg = 0 from by decide]; exact q5484) ?_
  refine g_iload_n (pc1 := 92) d_Tokens_init_91 rfl 3 rfl ?_
  refine g_callS (pc1 := 95) (E' := (0, 0, 9)) (As := [.long 6639, .int 100]) (rest := [.int 0, .ref 5]) d_Tokens_init_92 rfl mo_Tokens_37 ms_Tokens_withLetter (by decide) rfl rfl (Nat.le_of_ble_eq_true rfl) ⟨Nat.le_of_ble_eq_true rfl, Nat.le_of_ble_eq_true rfl⟩ rfl ?_
  refine t0_withLetter ?_
  dsimp only [psh]
  refine Wp.vall (y := 212452) (by decide +kernel) ?_
  refine g_last (pc1 := 96) d_Tokens_init_95 rfl sh_5 (by decide) (vin_lit (x := 0) (by decide)) ?_
  rw [show ((0 : Int32).toNatClampNeg) = 0 from by decide]
  refine Wp.topL (fun L5485 eL5485 => ?_)
  have Z5486 : ∀ j : Nat, 0 < j → L5485 5 j = 0 := fun j hj => (rdL_ne eL5485 (fun q => by omega)).trans (Z5483 j (by omega))
  have q5487 : L5485 5 0 = 212452 := rdL_eq eL5485
  refine g_iinc (pc1 := 99) (v := 4) (lv' := [(0, .ref 4), (1, .int 0), (2, .int 4), (3, .int 100)]) d_Tokens_init_96 rfl 2 rfl (by decide) (by decide) [1, 2, 0, 3] rfl ?_
  refine g_goto (tgt := 43) d_Tokens_init_99 (by decide) ?_
  refine g_iload_n (pc1 := 44) d_Tokens_init_43 rfl 2 rfl ?_
  refine g_strlen (pc1 := 49) rfl d_Tokens_init_44 d_Tokens_init_46 rfl (Nat.le_of_ble_eq_true rfl) ⟨Nat.le_of_ble_eq_true rfl, Nat.le_of_ble_eq_true rfl⟩ ?_
  refine g_icmp_ge (pc1 := 52) (tgt := 102) d_Tokens_init_49 (by decide) rfl (fun h => absurd h (by decide)) (fun _ => ?_)
  refine g_strchr (pc1 := 58) (v := 32) rfl d_Tokens_init_52 d_Tokens_init_54 d_Tokens_init_55 rfl 2 rfl (by decide) (by decide) (by decide +kernel) (Nat.le_of_ble_eq_true rfl) ⟨Nat.le_of_ble_eq_true rfl, Nat.le_of_ble_eq_true rfl⟩ ?_
  refine g_istore_n (pc1 := 59) (lv' := [(0, .ref 4), (1, .int 0), (2, .int 4), (3, .int 32)]) d_Tokens_init_58 rfl rfl (by decide) [1, 2, 3, 0] rfl ?_
  refine g_iload_n (pc1 := 60) d_Tokens_init_59 rfl 3 rfl ?_
  refine g_bipush (pc1 := 62) (v := 32) d_Tokens_init_60 rfl (by decide) ?_
  refine g_icmp_ne (pc1 := 65) (tgt := 71) d_Tokens_init_62 (by decide) rfl (fun h => absurd h (by decide)) (fun _ => ?_)
  refine g_iinc (pc1 := 68) (v := 1) (lv' := [(0, .ref 4), (1, .int 1), (2, .int 4), (3, .int 32)]) d_Tokens_init_65 rfl 1 rfl (by decide) (by decide) [1, 0, 2, 3] rfl ?_
  refine g_goto (tgt := 96) d_Tokens_init_68 (by decide) ?_
  refine g_iinc (pc1 := 99) (v := 5) (lv' := [(0, .ref 4), (1, .int 1), (2, .int 5), (3, .int 32)]) d_Tokens_init_96 rfl 2 rfl (by decide) (by decide) [1, 2, 0, 3] rfl ?_
  refine g_goto (tgt := 43) d_Tokens_init_99 (by decide) ?_
  refine g_iload_n (pc1 := 44) d_Tokens_init_43 rfl 2 rfl ?_
  refine g_strlen (pc1 := 49) rfl d_Tokens_init_44 d_Tokens_init_46 rfl (Nat.le_of_ble_eq_true rfl) ⟨Nat.le_of_ble_eq_true rfl, Nat.le_of_ble_eq_true rfl⟩ ?_
  refine g_icmp_ge (pc1 := 52) (tgt := 102) d_Tokens_init_49 (by decide) rfl (fun h => absurd h (by decide)) (fun _ => ?_)
  refine g_strchr (pc1 := 58) (v := 100) rfl d_Tokens_init_52 d_Tokens_init_54 d_Tokens_init_55 rfl 2 rfl (by decide) (by decide) (by decide +kernel) (Nat.le_of_ble_eq_true rfl) ⟨Nat.le_of_ble_eq_true rfl, Nat.le_of_ble_eq_true rfl⟩ ?_
  refine g_istore_n (pc1 := 59) (lv' := [(0, .ref 4), (1, .int 1), (2, .int 5), (3, .int 100)]) d_Tokens_init_58 rfl rfl (by decide) [1, 2, 3, 0] rfl ?_
  refine g_iload_n (pc1 := 60) d_Tokens_init_59 rfl 3 rfl ?_
  refine g_bipush (pc1 := 62) (v := 32) d_Tokens_init_60 rfl (by decide) ?_
  refine g_icmp_ne (pc1 := 65) (tgt := 71) d_Tokens_init_62 (by decide) rfl (fun _ => ?_) (fun h => absurd h (by decide))
  refine g_iload_n (pc1 := 72) d_Tokens_init_71 rfl 1 rfl ?_
  refine g_aload_n (pc1 := 73) d_Tokens_init_72 rfl 0 rfl ?_
  refine g_getr (pc1 := 76) d_Tokens_init_73 rfl ⟨_, fo_Tokens_9⟩ sh_4 (by decide) q5474 ?_
  refine g_alen (pc1 := 77) (v := 21) d_Tokens_init_76 rfl sh_5 (by decide) (by decide) (by decide) (by decide) ?_
  refine g_icmp_ge (pc1 := 80) (tgt := 96) d_Tokens_init_77 (by decide) rfl (fun h => absurd h (by decide)) (fun _ => ?_)
  refine g_aload_n (pc1 := 81) d_Tokens_init_80 rfl 0 rfl ?_
  refine g_getr (pc1 := 84) d_Tokens_init_81 rfl ⟨_, fo_Tokens_9⟩ sh_4 (by decide) q5474 ?_
  refine g_iload_n (pc1 := 85) d_Tokens_init_84 rfl 1 rfl ?_
  refine g_aload_n (pc1 := 86) d_Tokens_init_85 rfl 0 rfl ?_
  refine g_getr (pc1 := 89) d_Tokens_init_86 rfl ⟨_, fo_Tokens_9⟩ sh_4 (by decide) q5474 ?_
  refine g_iload_n (pc1 := 90) d_Tokens_init_89 rfl 1 rfl ?_
  refine g_lald (pc1 := 91) d_Tokens_init_90 rfl sh_5 (by decide) (vin_lit (x := 1) (by decide)) ?_
  refine Wp.vall (y := 0) (by rw [show (1 : Int32).toNatClampNeg = 1 from by decide]; exact (Z5486 1 (by decide))) ?_
  refine g_iload_n (pc1 := 92) d_Tokens_init_91 rfl 3 rfl ?_
  refine g_callS (pc1 := 95) (E' := (0, 0, 9)) (As := [.long 0, .int 100]) (rest := [.int 1, .ref 5]) d_Tokens_init_92 rfl mo_Tokens_37 ms_Tokens_withLetter (by decide) rfl rfl (Nat.le_of_ble_eq_true rfl) ⟨Nat.le_of_ble_eq_true rfl, Nat.le_of_ble_eq_true rfl⟩ rfl ?_
  refine t0_withLetter ?_
  dsimp only [psh]
  refine Wp.vall (y := 4) (by decide +kernel) ?_
  refine g_last (pc1 := 96) d_Tokens_init_95 rfl sh_5 (by decide) (vin_lit (x := 1) (by decide)) ?_
  rw [show ((1 : Int32).toNatClampNeg) = 1 from by decide]
  refine Wp.topL (fun L5488 eL5488 => ?_)
  have Z5489 : ∀ j : Nat, 1 < j → L5488 5 j = 0 := fun j hj => (rdL_ne eL5488 (fun q => by omega)).trans (Z5486 j (by omega))
  have q5490 : L5488 5 1 = 4 := rdL_eq eL5488
  refine g_iinc (pc1 := 99) (v := 6) (lv' := [(0, .ref 4), (1, .int 1), (2, .int 6), (3, .int 100)]) d_Tokens_init_96 rfl 2 rfl (by decide) (by decide) [1, 2, 0, 3] rfl ?_
  refine g_goto (tgt := 43) d_Tokens_init_99 (by decide) ?_
  refine g_iload_n (pc1 := 44) d_Tokens_init_43 rfl 2 rfl ?_
  refine g_strlen (pc1 := 49) rfl d_Tokens_init_44 d_Tokens_init_46 rfl (Nat.le_of_ble_eq_true rfl) ⟨Nat.le_of_ble_eq_true rfl, Nat.le_of_ble_eq_true rfl⟩ ?_
  refine g_icmp_ge (pc1 := 52) (tgt := 102) d_Tokens_init_49 (by decide) rfl (fun h => absurd h (by decide)) (fun _ => ?_)
  refine g_strchr (pc1 := 58) (v := 105) rfl d_Tokens_init_52 d_Tokens_init_54 d_Tokens_init_55 rfl 2 rfl (by decide) (by decide) (by decide +kernel) (Nat.le_of_ble_eq_true rfl) ⟨Nat.le_of_ble_eq_true rfl, Nat.le_of_ble_eq_true rfl⟩ ?_
  refine g_istore_n (pc1 := 59) (lv' := [(0, .ref 4), (1, .int 1), (2, .int 6), (3, .int 105)]) d_Tokens_init_58 rfl rfl (by decide) [1, 2, 3, 0] rfl ?_
  refine g_iload_n (pc1 := 60) d_Tokens_init_59 rfl 3 rfl ?_
  refine g_bipush (pc1 := 62) (v := 32) d_Tokens_init_60 rfl (by decide) ?_
  refine g_icmp_ne (pc1 := 65) (tgt := 71) d_Tokens_init_62 (by decide) rfl (fun _ => ?_) (fun h => absurd h (by decide))
  refine g_iload_n (pc1 := 72) d_Tokens_init_71 rfl 1 rfl ?_
  refine g_aload_n (pc1 := 73) d_Tokens_init_72 rfl 0 rfl ?_
  refine g_getr (pc1 := 76) d_Tokens_init_73 rfl ⟨_, fo_Tokens_9⟩ sh_4 (by decide) q5474 ?_
  refine g_alen (pc1 := 77) (v := 21) d_Tokens_init_76 rfl sh_5 (by decide) (by decide) (by decide) (by decide) ?_
  refine g_icmp_ge (pc1 := 80) (tgt := 96) d_Tokens_init_77 (by decide) rfl (fun h => absurd h (by decide)) (fun _ => ?_)
  refine g_aload_n (pc1 := 81) d_Tokens_init_80 rfl 0 rfl ?_
  refine g_getr (pc1 := 84) d_Tokens_init_81 rfl ⟨_, fo_Tokens_9⟩ sh_4 (by decide) q5474 ?_
  refine g_iload_n (pc1 := 85) d_Tokens_init_84 rfl 1 rfl ?_
  refine g_aload_n (pc1 := 86) d_Tokens_init_85 rfl 0 rfl ?_
  refine g_getr (pc1 := 89) d_Tokens_init_86 rfl ⟨_, fo_Tokens_9⟩ sh_4 (by decide) q5474 ?_
  refine g_iload_n (pc1 := 90) d_Tokens_init_89 rfl 1 rfl ?_
  refine g_lald (pc1 := 91) d_Tokens_init_90 rfl sh_5 (by decide) (vin_lit (x := 1) (by decide)) ?_
  refine Wp.vall (y := 4) (by rw [show (1 : Int32).toNatClampNeg = 1 from by decide]; exact q5490) ?_
  refine g_iload_n (pc1 := 92) d_Tokens_init_91 rfl 3 rfl ?_
  refine g_callS (pc1 := 95) (E' := (0, 0, 9)) (As := [.long 4, .int 105]) (rest := [.int 1, .ref 5]) d_Tokens_init_92 rfl mo_Tokens_37 ms_Tokens_withLetter (by decide) rfl rfl (Nat.le_of_ble_eq_true rfl) ⟨Nat.le_of_ble_eq_true rfl, Nat.le_of_ble_eq_true rfl⟩ rfl ?_
  refine t0_withLetter ?_
  dsimp only [psh]
  refine Wp.vall (y := 137) (by decide +kernel) ?_
  refine g_last (pc1 := 96) d_Tokens_init_95 rfl sh_5 (by decide) (vin_lit (x := 1) (by decide)) ?_
  rw [show ((1 : Int32).toNatClampNeg) = 1 from by decide]
  refine Wp.topL (fun L5491 eL5491 => ?_)
  have Z5492 : ∀ j : Nat, 1 < j → L5491 5 j = 0 := fun j hj => (rdL_ne eL5491 (fun q => by omega)).trans (Z5489 j (by omega))
  have q5493 : L5491 5 1 = 137 := rdL_eq eL5491
  refine g_iinc (pc1 := 99) (v := 7) (lv' := [(0, .ref 4), (1, .int 1), (2, .int 7), (3, .int 105)]) d_Tokens_init_96 rfl 2 rfl (by decide) (by decide) [1, 2, 0, 3] rfl ?_
  refine g_goto (tgt := 43) d_Tokens_init_99 (by decide) ?_
  refine g_iload_n (pc1 := 44) d_Tokens_init_43 rfl 2 rfl ?_
  refine g_strlen (pc1 := 49) rfl d_Tokens_init_44 d_Tokens_init_46 rfl (Nat.le_of_ble_eq_true rfl) ⟨Nat.le_of_ble_eq_true rfl, Nat.le_of_ble_eq_true rfl⟩ ?_
  refine g_icmp_ge (pc1 := 52) (tgt := 102) d_Tokens_init_49 (by decide) rfl (fun h => absurd h (by decide)) (fun _ => ?_)
  refine g_strchr (pc1 := 58) (v := 115) rfl d_Tokens_init_52 d_Tokens_init_54 d_Tokens_init_55 rfl 2 rfl (by decide) (by decide) (by decide +kernel) (Nat.le_of_ble_eq_true rfl) ⟨Nat.le_of_ble_eq_true rfl, Nat.le_of_ble_eq_true rfl⟩ ?_
  refine g_istore_n (pc1 := 59) (lv' := [(0, .ref 4), (1, .int 1), (2, .int 7), (3, .int 115)]) d_Tokens_init_58 rfl rfl (by decide) [1, 2, 3, 0] rfl ?_
  refine g_iload_n (pc1 := 60) d_Tokens_init_59 rfl 3 rfl ?_
  refine g_bipush (pc1 := 62) (v := 32) d_Tokens_init_60 rfl (by decide) ?_
  refine g_icmp_ne (pc1 := 65) (tgt := 71) d_Tokens_init_62 (by decide) rfl (fun _ => ?_) (fun h => absurd h (by decide))
  refine g_iload_n (pc1 := 72) d_Tokens_init_71 rfl 1 rfl ?_
  refine g_aload_n (pc1 := 73) d_Tokens_init_72 rfl 0 rfl ?_
  refine g_getr (pc1 := 76) d_Tokens_init_73 rfl ⟨_, fo_Tokens_9⟩ sh_4 (by decide) q5474 ?_
  refine g_alen (pc1 := 77) (v := 21) d_Tokens_init_76 rfl sh_5 (by decide) (by decide) (by decide) (by decide) ?_
  refine g_icmp_ge (pc1 := 80) (tgt := 96) d_Tokens_init_77 (by decide) rfl (fun h => absurd h (by decide)) (fun _ => ?_)
  refine g_aload_n (pc1 := 81) d_Tokens_init_80 rfl 0 rfl ?_
  refine g_getr (pc1 := 84) d_Tokens_init_81 rfl ⟨_, fo_Tokens_9⟩ sh_4 (by decide) q5474 ?_
  refine g_iload_n (pc1 := 85) d_Tokens_init_84 rfl 1 rfl ?_
  refine g_aload_n (pc1 := 86) d_Tokens_init_85 rfl 0 rfl ?_
  refine g_getr (pc1 := 89) d_Tokens_init_86 rfl ⟨_, fo_Tokens_9⟩ sh_4 (by decide) q5474 ?_
  refine g_iload_n (pc1 := 90) d_Tokens_init_89 rfl 1 rfl ?_
  refine g_lald (pc1 := 91) d_Tokens_init_90 rfl sh_5 (by decide) (vin_lit (x := 1) (by decide)) ?_
  refine Wp.vall (y := 137) (by rw [show (1 : Int32).toNatClampNeg = 1 from by decide]; exact q5493) ?_
  refine g_iload_n (pc1 := 92) d_Tokens_init_91 rfl 3 rfl ?_
  refine g_callS (pc1 := 95) (E' := (0, 0, 9)) (As := [.long 137, .int 115]) (rest := [.int 1, .ref 5]) d_Tokens_init_92 rfl mo_Tokens_37 ms_Tokens_withLetter (by decide) rfl rfl (Nat.le_of_ble_eq_true rfl) ⟨Nat.le_of_ble_eq_true rfl, Nat.le_of_ble_eq_true rfl⟩ rfl ?_
  refine t0_withLetter ?_
  dsimp only [psh]
  refine Wp.vall (y := 4403) (by decide +kernel) ?_
  refine g_last (pc1 := 96) d_Tokens_init_95 rfl sh_5 (by decide) (vin_lit (x := 1) (by decide)) ?_
  rw [show ((1 : Int32).toNatClampNeg) = 1 from by decide]
  refine Wp.topL (fun L5494 eL5494 => ?_)
  have Z5495 : ∀ j : Nat, 1 < j → L5494 5 j = 0 := fun j hj => (rdL_ne eL5494 (fun q => by omega)).trans (Z5492 j (by omega))
  have q5496 : L5494 5 1 = 4403 := rdL_eq eL5494
  refine g_iinc (pc1 := 99) (v := 8) (lv' := [(0, .ref 4), (1, .int 1), (2, .int 8), (3, .int 115)]) d_Tokens_init_96 rfl 2 rfl (by decide) (by decide) [1, 2, 0, 3] rfl ?_
  refine g_goto (tgt := 43) d_Tokens_init_99 (by decide) ?_
  refine g_iload_n (pc1 := 44) d_Tokens_init_43 rfl 2 rfl ?_
  refine g_strlen (pc1 := 49) rfl d_Tokens_init_44 d_Tokens_init_46 rfl (Nat.le_of_ble_eq_true rfl) ⟨Nat.le_of_ble_eq_true rfl, Nat.le_of_ble_eq_true rfl⟩ ?_
  refine g_icmp_ge (pc1 := 52) (tgt := 102) d_Tokens_init_49 (by decide) rfl (fun h => absurd h (by decide)) (fun _ => ?_)
  refine g_strchr (pc1 := 58) (v := 104) rfl d_Tokens_init_52 d_Tokens_init_54 d_Tokens_init_55 rfl 2 rfl (by decide) (by decide) (by decide +kernel) (Nat.le_of_ble_eq_true rfl) ⟨Nat.le_of_ble_eq_true rfl, Nat.le_of_ble_eq_true rfl⟩ ?_
  refine g_istore_n (pc1 := 59) (lv' := [(0, .ref 4), (1, .int 1), (2, .int 8), (3, .int 104)]) d_Tokens_init_58 rfl rfl (by decide) [1, 2, 3, 0] rfl ?_
  refine g_iload_n (pc1 := 60) d_Tokens_init_59 rfl 3 rfl ?_
  refine g_bipush (pc1 := 62) (v := 32) d_Tokens_init_60 rfl (by decide) ?_
  refine g_icmp_ne (pc1 := 65) (tgt := 71) d_Tokens_init_62 (by decide) rfl (fun _ => ?_) (fun h => absurd h (by decide))
  refine g_iload_n (pc1 := 72) d_Tokens_init_71 rfl 1 rfl ?_
  refine g_aload_n (pc1 := 73) d_Tokens_init_72 rfl 0 rfl ?_
  refine g_getr (pc1 := 76) d_Tokens_init_73 rfl ⟨_, fo_Tokens_9⟩ sh_4 (by decide) q5474 ?_
  refine g_alen (pc1 := 77) (v := 21) d_Tokens_init_76 rfl sh_5 (by decide) (by decide) (by decide) (by decide) ?_
  refine g_icmp_ge (pc1 := 80) (tgt := 96) d_Tokens_init_77 (by decide) rfl (fun h => absurd h (by decide)) (fun _ => ?_)
  refine g_aload_n (pc1 := 81) d_Tokens_init_80 rfl 0 rfl ?_
  refine g_getr (pc1 := 84) d_Tokens_init_81 rfl ⟨_, fo_Tokens_9⟩ sh_4 (by decide) q5474 ?_
  refine g_iload_n (pc1 := 85) d_Tokens_init_84 rfl 1 rfl ?_
  refine g_aload_n (pc1 := 86) d_Tokens_init_85 rfl 0 rfl ?_
  refine g_getr (pc1 := 89) d_Tokens_init_86 rfl ⟨_, fo_Tokens_9⟩ sh_4 (by decide) q5474 ?_
  refine g_iload_n (pc1 := 90) d_Tokens_init_89 rfl 1 rfl ?_
  refine g_lald (pc1 := 91) d_Tokens_init_90 rfl sh_5 (by decide) (vin_lit (x := 1) (by decide)) ?_
  refine Wp.vall (y := 4403) (by rw [show (1 : Int32).toNatClampNeg = 1 from by decide]; exact q5496) ?_
  refine g_iload_n (pc1 := 92) d_Tokens_init_91 rfl 3 rfl ?_
  refine g_callS (pc1 := 95) (E' := (0, 0, 9)) (As := [.long 4403, .int 104]) (rest := [.int 1, .ref 5]) d_Tokens_init_92 rfl mo_Tokens_37 ms_Tokens_withLetter (by decide) rfl rfl (Nat.le_of_ble_eq_true rfl) ⟨Nat.le_of_ble_eq_true rfl, Nat.le_of_ble_eq_true rfl⟩ rfl ?_
  refine t0_withLetter ?_
  dsimp only [psh]
  refine Wp.vall (y := 140904) (by decide +kernel) ?_
  refine g_last (pc1 := 96) d_Tokens_init_95 rfl sh_5 (by decide) (vin_lit (x := 1) (by decide)) ?_
  rw [show ((1 : Int32).toNatClampNeg) = 1 from by decide]
  refine Wp.topL (fun L5497 eL5497 => ?_)
  have Z5498 : ∀ j : Nat, 1 < j → L5497 5 j = 0 := fun j hj => (rdL_ne eL5497 (fun q => by omega)).trans (Z5495 j (by omega))
  have q5499 : L5497 5 1 = 140904 := rdL_eq eL5497
  refine g_iinc (pc1 := 99) (v := 9) (lv' := [(0, .ref 4), (1, .int 1), (2, .int 9), (3, .int 104)]) d_Tokens_init_96 rfl 2 rfl (by decide) (by decide) [1, 2, 0, 3] rfl ?_
  refine g_goto (tgt := 43) d_Tokens_init_99 (by decide) ?_
  refine g_iload_n (pc1 := 44) d_Tokens_init_43 rfl 2 rfl ?_
  refine g_strlen (pc1 := 49) rfl d_Tokens_init_44 d_Tokens_init_46 rfl (Nat.le_of_ble_eq_true rfl) ⟨Nat.le_of_ble_eq_true rfl, Nat.le_of_ble_eq_true rfl⟩ ?_
  refine g_icmp_ge (pc1 := 52) (tgt := 102) d_Tokens_init_49 (by decide) rfl (fun h => absurd h (by decide)) (fun _ => ?_)
  refine g_strchr (pc1 := 58) (v := 32) rfl d_Tokens_init_52 d_Tokens_init_54 d_Tokens_init_55 rfl 2 rfl (by decide) (by decide) (by decide +kernel) (Nat.le_of_ble_eq_true rfl) ⟨Nat.le_of_ble_eq_true rfl, Nat.le_of_ble_eq_true rfl⟩ ?_
  refine g_istore_n (pc1 := 59) (lv' := [(0, .ref 4), (1, .int 1), (2, .int 9), (3, .int 32)]) d_Tokens_init_58 rfl rfl (by decide) [1, 2, 3, 0] rfl ?_
  refine g_iload_n (pc1 := 60) d_Tokens_init_59 rfl 3 rfl ?_
  refine g_bipush (pc1 := 62) (v := 32) d_Tokens_init_60 rfl (by decide) ?_
  refine g_icmp_ne (pc1 := 65) (tgt := 71) d_Tokens_init_62 (by decide) rfl (fun h => absurd h (by decide)) (fun _ => ?_)
  refine g_iinc (pc1 := 68) (v := 2) (lv' := [(0, .ref 4), (1, .int 2), (2, .int 9), (3, .int 32)]) d_Tokens_init_65 rfl 1 rfl (by decide) (by decide) [1, 0, 2, 3] rfl ?_
  refine g_goto (tgt := 96) d_Tokens_init_68 (by decide) ?_
  refine g_iinc (pc1 := 99) (v := 10) (lv' := [(0, .ref 4), (1, .int 2), (2, .int 10), (3, .int 32)]) d_Tokens_init_96 rfl 2 rfl (by decide) (by decide) [1, 2, 0, 3] rfl ?_
  refine g_goto (tgt := 43) d_Tokens_init_99 (by decide) ?_
  refine g_iload_n (pc1 := 44) d_Tokens_init_43 rfl 2 rfl ?_
  refine g_strlen (pc1 := 49) rfl d_Tokens_init_44 d_Tokens_init_46 rfl (Nat.le_of_ble_eq_true rfl) ⟨Nat.le_of_ble_eq_true rfl, Nat.le_of_ble_eq_true rfl⟩ ?_
  refine g_icmp_ge (pc1 := 52) (tgt := 102) d_Tokens_init_49 (by decide) rfl (fun h => absurd h (by decide)) (fun _ => ?_)
  refine g_strchr (pc1 := 58) (v := 103) rfl d_Tokens_init_52 d_Tokens_init_54 d_Tokens_init_55 rfl 2 rfl (by decide) (by decide) (by decide +kernel) (Nat.le_of_ble_eq_true rfl) ⟨Nat.le_of_ble_eq_true rfl, Nat.le_of_ble_eq_true rfl⟩ ?_
  refine g_istore_n (pc1 := 59) (lv' := [(0, .ref 4), (1, .int 2), (2, .int 10), (3, .int 103)]) d_Tokens_init_58 rfl rfl (by decide) [1, 2, 3, 0] rfl ?_
  refine g_iload_n (pc1 := 60) d_Tokens_init_59 rfl 3 rfl ?_
  refine g_bipush (pc1 := 62) (v := 32) d_Tokens_init_60 rfl (by decide) ?_
  refine g_icmp_ne (pc1 := 65) (tgt := 71) d_Tokens_init_62 (by decide) rfl (fun _ => ?_) (fun h => absurd h (by decide))
  refine g_iload_n (pc1 := 72) d_Tokens_init_71 rfl 1 rfl ?_
  refine g_aload_n (pc1 := 73) d_Tokens_init_72 rfl 0 rfl ?_
  refine g_getr (pc1 := 76) d_Tokens_init_73 rfl ⟨_, fo_Tokens_9⟩ sh_4 (by decide) q5474 ?_
  refine g_alen (pc1 := 77) (v := 21) d_Tokens_init_76 rfl sh_5 (by decide) (by decide) (by decide) (by decide) ?_
  refine g_icmp_ge (pc1 := 80) (tgt := 96) d_Tokens_init_77 (by decide) rfl (fun h => absurd h (by decide)) (fun _ => ?_)
  refine g_aload_n (pc1 := 81) d_Tokens_init_80 rfl 0 rfl ?_
  refine g_getr (pc1 := 84) d_Tokens_init_81 rfl ⟨_, fo_Tokens_9⟩ sh_4 (by decide) q5474 ?_
  refine g_iload_n (pc1 := 85) d_Tokens_init_84 rfl 1 rfl ?_
  refine g_aload_n (pc1 := 86) d_Tokens_init_85 rfl 0 rfl ?_
  refine g_getr (pc1 := 89) d_Tokens_init_86 rfl ⟨_, fo_Tokens_9⟩ sh_4 (by decide) q5474 ?_
  refine g_iload_n (pc1 := 90) d_Tokens_init_89 rfl 1 rfl ?_
  refine g_lald (pc1 := 91) d_Tokens_init_90 rfl sh_5 (by decide) (vin_lit (x := 2) (by decide)) ?_
  refine Wp.vall (y := 0) (by rw [show (2 : Int32).toNatClampNeg = 2 from by decide]; exact (Z5498 2 (by decide))) ?_
  refine g_iload_n (pc1 := 92) d_Tokens_init_91 rfl 3 rfl ?_
  refine g_callS (pc1 := 95) (E' := (0, 0, 9)) (As := [.long 0, .int 103]) (rest := [.int 2, .ref 5]) d_Tokens_init_92 rfl mo_Tokens_37 ms_Tokens_withLetter (by decide) rfl rfl (Nat.le_of_ble_eq_true rfl) ⟨Nat.le_of_ble_eq_true rfl, Nat.le_of_ble_eq_true rfl⟩ rfl ?_
  refine t0_withLetter ?_
  dsimp only [psh]
  refine Wp.vall (y := 7) (by decide +kernel) ?_
  refine g_last (pc1 := 96) d_Tokens_init_95 rfl sh_5 (by decide) (vin_lit (x := 2) (by decide)) ?_
  rw [show ((2 : Int32).toNatClampNeg) = 2 from by decide]
  refine Wp.topL (fun L5500 eL5500 => ?_)
  have Z5501 : ∀ j : Nat, 2 < j → L5500 5 j = 0 := fun j hj => (rdL_ne eL5500 (fun q => by omega)).trans (Z5498 j (by omega))
  have q5502 : L5500 5 2 = 7 := rdL_eq eL5500
  refine g_iinc (pc1 := 99) (v := 11) (lv' := [(0, .ref 4), (1, .int 2), (2, .int 11), (3, .int 103)]) d_Tokens_init_96 rfl 2 rfl (by decide) (by decide) [1, 2, 0, 3] rfl ?_
  refine g_goto (tgt := 43) d_Tokens_init_99 (by decide) ?_
  refine g_iload_n (pc1 := 44) d_Tokens_init_43 rfl 2 rfl ?_
  refine g_strlen (pc1 := 49) rfl d_Tokens_init_44 d_Tokens_init_46 rfl (Nat.le_of_ble_eq_true rfl) ⟨Nat.le_of_ble_eq_true rfl, Nat.le_of_ble_eq_true rfl⟩ ?_
  refine g_icmp_ge (pc1 := 52) (tgt := 102) d_Tokens_init_49 (by decide) rfl (fun h => absurd h (by decide)) (fun _ => ?_)
  refine g_strchr (pc1 := 58) (v := 117) rfl d_Tokens_init_52 d_Tokens_init_54 d_Tokens_init_55 rfl 2 rfl (by decide) (by decide) (by decide +kernel) (Nat.le_of_ble_eq_true rfl) ⟨Nat.le_of_ble_eq_true rfl, Nat.le_of_ble_eq_true rfl⟩ ?_
  refine g_istore_n (pc1 := 59) (lv' := [(0, .ref 4), (1, .int 2), (2, .int 11), (3, .int 117)]) d_Tokens_init_58 rfl rfl (by decide) [1, 2, 3, 0] rfl ?_
  refine g_iload_n (pc1 := 60) d_Tokens_init_59 rfl 3 rfl ?_
  refine g_bipush (pc1 := 62) (v := 32) d_Tokens_init_60 rfl (by decide) ?_
  refine g_icmp_ne (pc1 := 65) (tgt := 71) d_Tokens_init_62 (by decide) rfl (fun _ => ?_) (fun h => absurd h (by decide))
  refine g_iload_n (pc1 := 72) d_Tokens_init_71 rfl 1 rfl ?_
  refine g_aload_n (pc1 := 73) d_Tokens_init_72 rfl 0 rfl ?_
  refine g_getr (pc1 := 76) d_Tokens_init_73 rfl ⟨_, fo_Tokens_9⟩ sh_4 (by decide) q5474 ?_
  refine g_alen (pc1 := 77) (v := 21) d_Tokens_init_76 rfl sh_5 (by decide) (by decide) (by decide) (by decide) ?_
  refine g_icmp_ge (pc1 := 80) (tgt := 96) d_Tokens_init_77 (by decide) rfl (fun h => absurd h (by decide)) (fun _ => ?_)
  refine g_aload_n (pc1 := 81) d_Tokens_init_80 rfl 0 rfl ?_
  refine g_getr (pc1 := 84) d_Tokens_init_81 rfl ⟨_, fo_Tokens_9⟩ sh_4 (by decide) q5474 ?_
  refine g_iload_n (pc1 := 85) d_Tokens_init_84 rfl 1 rfl ?_
  refine g_aload_n (pc1 := 86) d_Tokens_init_85 rfl 0 rfl ?_
  refine g_getr (pc1 := 89) d_Tokens_init_86 rfl ⟨_, fo_Tokens_9⟩ sh_4 (by decide) q5474 ?_
  refine g_iload_n (pc1 := 90) d_Tokens_init_89 rfl 1 rfl ?_
  refine g_lald (pc1 := 91) d_Tokens_init_90 rfl sh_5 (by decide) (vin_lit (x := 2) (by decide)) ?_
  refine Wp.vall (y := 7) (by rw [show (2 : Int32).toNatClampNeg = 2 from by decide]; exact q5502) ?_
  refine g_iload_n (pc1 := 92) d_Tokens_init_91 rfl 3 rfl ?_
  refine g_callS (pc1 := 95) (E' := (0, 0, 9)) (As := [.long 7, .int 117]) (rest := [.int 2, .ref 5]) d_Tokens_init_92 rfl mo_Tokens_37 ms_Tokens_withLetter (by decide) rfl rfl (Nat.le_of_ble_eq_true rfl) ⟨Nat.le_of_ble_eq_true rfl, Nat.le_of_ble_eq_true rfl⟩ rfl ?_
  refine t0_withLetter ?_
  dsimp only [psh]
  refine Wp.vall (y := 245) (by decide +kernel) ?_
  refine g_last (pc1 := 96) d_Tokens_init_95 rfl sh_5 (by decide) (vin_lit (x := 2) (by decide)) ?_
  rw [show ((2 : Int32).toNatClampNeg) = 2 from by decide]
  refine Wp.topL (fun L5503 eL5503 => ?_)
  have Z5504 : ∀ j : Nat, 2 < j → L5503 5 j = 0 := fun j hj => (rdL_ne eL5503 (fun q => by omega)).trans (Z5501 j (by omega))
  have q5505 : L5503 5 2 = 245 := rdL_eq eL5503
  refine g_iinc (pc1 := 99) (v := 12) (lv' := [(0, .ref 4), (1, .int 2), (2, .int 12), (3, .int 117)]) d_Tokens_init_96 rfl 2 rfl (by decide) (by decide) [1, 2, 0, 3] rfl ?_
  refine g_goto (tgt := 43) d_Tokens_init_99 (by decide) ?_
  refine g_iload_n (pc1 := 44) d_Tokens_init_43 rfl 2 rfl ?_
  refine g_strlen (pc1 := 49) rfl d_Tokens_init_44 d_Tokens_init_46 rfl (Nat.le_of_ble_eq_true rfl) ⟨Nat.le_of_ble_eq_true rfl, Nat.le_of_ble_eq_true rfl⟩ ?_
  refine g_icmp_ge (pc1 := 52) (tgt := 102) d_Tokens_init_49 (by decide) rfl (fun h => absurd h (by decide)) (fun _ => ?_)
  refine g_strchr (pc1 := 58) (v := 101) rfl d_Tokens_init_52 d_Tokens_init_54 d_Tokens_init_55 rfl 2 rfl (by decide) (by decide) (by decide +kernel) (Nat.le_of_ble_eq_true rfl) ⟨Nat.le_of_ble_eq_true rfl, Nat.le_of_ble_eq_true rfl⟩ ?_
  refine g_istore_n (pc1 := 59) (lv' := [(0, .ref 4), (1, .int 2), (2, .int 12), (3, .int 101)]) d_Tokens_init_58 rfl rfl (by decide) [1, 2, 3, 0] rfl ?_
  refine g_iload_n (pc1 := 60) d_Tokens_init_59 rfl 3 rfl ?_
  refine g_bipush (pc1 := 62) (v := 32) d_Tokens_init_60 rfl (by decide) ?_
  refine g_icmp_ne (pc1 := 65) (tgt := 71) d_Tokens_init_62 (by decide) rfl (fun _ => ?_) (fun h => absurd h (by decide))
  refine g_iload_n (pc1 := 72) d_Tokens_init_71 rfl 1 rfl ?_
  refine g_aload_n (pc1 := 73) d_Tokens_init_72 rfl 0 rfl ?_
  refine g_getr (pc1 := 76) d_Tokens_init_73 rfl ⟨_, fo_Tokens_9⟩ sh_4 (by decide) q5474 ?_
  refine g_alen (pc1 := 77) (v := 21) d_Tokens_init_76 rfl sh_5 (by decide) (by decide) (by decide) (by decide) ?_
  refine g_icmp_ge (pc1 := 80) (tgt := 96) d_Tokens_init_77 (by decide) rfl (fun h => absurd h (by decide)) (fun _ => ?_)
  refine g_aload_n (pc1 := 81) d_Tokens_init_80 rfl 0 rfl ?_
  refine g_getr (pc1 := 84) d_Tokens_init_81 rfl ⟨_, fo_Tokens_9⟩ sh_4 (by decide) q5474 ?_
  refine g_iload_n (pc1 := 85) d_Tokens_init_84 rfl 1 rfl ?_
  refine g_aload_n (pc1 := 86) d_Tokens_init_85 rfl 0 rfl ?_
  refine g_getr (pc1 := 89) d_Tokens_init_86 rfl ⟨_, fo_Tokens_9⟩ sh_4 (by decide) q5474 ?_
  refine g_iload_n (pc1 := 90) d_Tokens_init_89 rfl 1 rfl ?_
  refine g_lald (pc1 := 91) d_Tokens_init_90 rfl sh_5 (by decide) (vin_lit (x := 2) (by decide)) ?_
  refine Wp.vall (y := 245) (by rw [show (2 : Int32).toNatClampNeg = 2 from by decide]; exact q5505) ?_
  refine g_iload_n (pc1 := 92) d_Tokens_init_91 rfl 3 rfl ?_
  refine g_callS (pc1 := 95) (E' := (0, 0, 9)) (As := [.long 245, .int 101]) (rest := [.int 2, .ref 5]) d_Tokens_init_92 rfl mo_Tokens_37 ms_Tokens_withLetter (by decide) rfl rfl (Nat.le_of_ble_eq_true rfl) ⟨Nat.le_of_ble_eq_true rfl, Nat.le_of_ble_eq_true rfl⟩ rfl ?_
  refine t0_withLetter ?_
  dsimp only [psh]
  refine Wp.vall (y := 7845) (by decide +kernel) ?_
  refine g_last (pc1 := 96) d_Tokens_init_95 rfl sh_5 (by decide) (vin_lit (x := 2) (by decide)) ?_
  rw [show ((2 : Int32).toNatClampNeg) = 2 from by decide]
  refine Wp.topL (fun L5506 eL5506 => ?_)
  have Z5507 : ∀ j : Nat, 2 < j → L5506 5 j = 0 := fun j hj => (rdL_ne eL5506 (fun q => by omega)).trans (Z5504 j (by omega))
  have q5508 : L5506 5 2 = 7845 := rdL_eq eL5506
  refine g_iinc (pc1 := 99) (v := 13) (lv' := [(0, .ref 4), (1, .int 2), (2, .int 13), (3, .int 101)]) d_Tokens_init_96 rfl 2 rfl (by decide) (by decide) [1, 2, 0, 3] rfl ?_
  refine g_goto (tgt := 43) d_Tokens_init_99 (by decide) ?_
  refine g_iload_n (pc1 := 44) d_Tokens_init_43 rfl 2 rfl ?_
  refine g_strlen (pc1 := 49) rfl d_Tokens_init_44 d_Tokens_init_46 rfl (Nat.le_of_ble_eq_true rfl) ⟨Nat.le_of_ble_eq_true rfl, Nat.le_of_ble_eq_true rfl⟩ ?_
  refine g_icmp_ge (pc1 := 52) (tgt := 102) d_Tokens_init_49 (by decide) rfl (fun h => absurd h (by decide)) (fun _ => ?_)
  refine g_strchr (pc1 := 58) (v := 115) rfl d_Tokens_init_52 d_Tokens_init_54 d_Tokens_init_55 rfl 2 rfl (by decide) (by decide) (by decide +kernel) (Nat.le_of_ble_eq_true rfl) ⟨Nat.le_of_ble_eq_true rfl, Nat.le_of_ble_eq_true rfl⟩ ?_
  refine g_istore_n (pc1 := 59) (lv' := [(0, .ref 4), (1, .int 2), (2, .int 13), (3, .int 115)]) d_Tokens_init_58 rfl rfl (by decide) [1, 2, 3, 0] rfl ?_
  refine g_iload_n (pc1 := 60) d_Tokens_init_59 rfl 3 rfl ?_
  refine g_bipush (pc1 := 62) (v := 32) d_Tokens_init_60 rfl (by decide) ?_
  refine g_icmp_ne (pc1 := 65) (tgt := 71) d_Tokens_init_62 (by decide) rfl (fun _ => ?_) (fun h => absurd h (by decide))
  refine g_iload_n (pc1 := 72) d_Tokens_init_71 rfl 1 rfl ?_
  refine g_aload_n (pc1 := 73) d_Tokens_init_72 rfl 0 rfl ?_
  refine g_getr (pc1 := 76) d_Tokens_init_73 rfl ⟨_, fo_Tokens_9⟩ sh_4 (by decide) q5474 ?_
  refine g_alen (pc1 := 77) (v := 21) d_Tokens_init_76 rfl sh_5 (by decide) (by decide) (by decide) (by decide) ?_
  refine g_icmp_ge (pc1 := 80) (tgt := 96) d_Tokens_init_77 (by decide) rfl (fun h => absurd h (by decide)) (fun _ => ?_)
  refine g_aload_n (pc1 := 81) d_Tokens_init_80 rfl 0 rfl ?_
  refine g_getr (pc1 := 84) d_Tokens_init_81 rfl ⟨_, fo_Tokens_9⟩ sh_4 (by decide) q5474 ?_
  refine g_iload_n (pc1 := 85) d_Tokens_init_84 rfl 1 rfl ?_
  refine g_aload_n (pc1 := 86) d_Tokens_init_85 rfl 0 rfl ?_
  refine g_getr (pc1 := 89) d_Tokens_init_86 rfl ⟨_, fo_Tokens_9⟩ sh_4 (by decide) q5474 ?_
  refine g_iload_n (pc1 := 90) d_Tokens_init_89 rfl 1 rfl ?_
  refine g_lald (pc1 := 91) d_Tokens_init_90 rfl sh_5 (by decide) (vin_lit (x := 2) (by decide)) ?_
  refine Wp.vall (y := 7845) (by rw [show (2 : Int32).toNatClampNeg = 2 from by decide]; exact q5508) ?_
  refine g_iload_n (pc1 := 92) d_Tokens_init_91 rfl 3 rfl ?_
  refine g_callS (pc1 := 95) (E' := (0, 0, 9)) (As := [.long 7845, .int 115]) (rest := [.int 2, .ref 5]) d_Tokens_init_92 rfl mo_Tokens_37 ms_Tokens_withLetter (by decide) rfl rfl (Nat.le_of_ble_eq_true rfl) ⟨Nat.le_of_ble_eq_true rfl, Nat.le_of_ble_eq_true rfl⟩ rfl ?_
  refine t0_withLetter ?_
  dsimp only [psh]
  refine Wp.vall (y := 251059) (by decide +kernel) ?_
  refine g_last (pc1 := 96) d_Tokens_init_95 rfl sh_5 (by decide) (vin_lit (x := 2) (by decide)) ?_
  rw [show ((2 : Int32).toNatClampNeg) = 2 from by decide]
  refine Wp.topL (fun L5509 eL5509 => ?_)
  have Z5510 : ∀ j : Nat, 2 < j → L5509 5 j = 0 := fun j hj => (rdL_ne eL5509 (fun q => by omega)).trans (Z5507 j (by omega))
  have q5511 : L5509 5 2 = 251059 := rdL_eq eL5509
  refine g_iinc (pc1 := 99) (v := 14) (lv' := [(0, .ref 4), (1, .int 2), (2, .int 14), (3, .int 115)]) d_Tokens_init_96 rfl 2 rfl (by decide) (by decide) [1, 2, 0, 3] rfl ?_
  refine g_goto (tgt := 43) d_Tokens_init_99 (by decide) ?_
  refine g_iload_n (pc1 := 44) d_Tokens_init_43 rfl 2 rfl ?_
  refine g_strlen (pc1 := 49) rfl d_Tokens_init_44 d_Tokens_init_46 rfl (Nat.le_of_ble_eq_true rfl) ⟨Nat.le_of_ble_eq_true rfl, Nat.le_of_ble_eq_true rfl⟩ ?_
  refine g_icmp_ge (pc1 := 52) (tgt := 102) d_Tokens_init_49 (by decide) rfl (fun h => absurd h (by decide)) (fun _ => ?_)
  refine g_strchr (pc1 := 58) (v := 116) rfl d_Tokens_init_52 d_Tokens_init_54 d_Tokens_init_55 rfl 2 rfl (by decide) (by decide) (by decide +kernel) (Nat.le_of_ble_eq_true rfl) ⟨Nat.le_of_ble_eq_true rfl, Nat.le_of_ble_eq_true rfl⟩ ?_
  refine g_istore_n (pc1 := 59) (lv' := [(0, .ref 4), (1, .int 2), (2, .int 14), (3, .int 116)]) d_Tokens_init_58 rfl rfl (by decide) [1, 2, 3, 0] rfl ?_
  refine g_iload_n (pc1 := 60) d_Tokens_init_59 rfl 3 rfl ?_
  refine g_bipush (pc1 := 62) (v := 32) d_Tokens_init_60 rfl (by decide) ?_
  refine g_icmp_ne (pc1 := 65) (tgt := 71) d_Tokens_init_62 (by decide) rfl (fun _ => ?_) (fun h => absurd h (by decide))
  refine g_iload_n (pc1 := 72) d_Tokens_init_71 rfl 1 rfl ?_
  refine g_aload_n (pc1 := 73) d_Tokens_init_72 rfl 0 rfl ?_
  refine g_getr (pc1 := 76) d_Tokens_init_73 rfl ⟨_, fo_Tokens_9⟩ sh_4 (by decide) q5474 ?_
  refine g_alen (pc1 := 77) (v := 21) d_Tokens_init_76 rfl sh_5 (by decide) (by decide) (by decide) (by decide) ?_
  refine g_icmp_ge (pc1 := 80) (tgt := 96) d_Tokens_init_77 (by decide) rfl (fun h => absurd h (by decide)) (fun _ => ?_)
  refine g_aload_n (pc1 := 81) d_Tokens_init_80 rfl 0 rfl ?_
  refine g_getr (pc1 := 84) d_Tokens_init_81 rfl ⟨_, fo_Tokens_9⟩ sh_4 (by decide) q5474 ?_
  refine g_iload_n (pc1 := 85) d_Tokens_init_84 rfl 1 rfl ?_
  refine g_aload_n (pc1 := 86) d_Tokens_init_85 rfl 0 rfl ?_
  refine g_getr (pc1 := 89) d_Tokens_init_86 rfl ⟨_, fo_Tokens_9⟩ sh_4 (by decide) q5474 ?_
  refine g_iload_n (pc1 := 90) d_Tokens_init_89 rfl 1 rfl ?_
  refine g_lald (pc1 := 91) d_Tokens_init_90 rfl sh_5 (by decide) (vin_lit (x := 2) (by decide)) ?_
  refine Wp.vall (y := 251059) (by rw [show (2 : Int32).toNatClampNeg = 2 from by decide]; exact q5511) ?_
  refine g_iload_n (pc1 := 92) d_Tokens_init_91 rfl 3 rfl ?_
  refine g_callS (pc1 := 95) (E' := (0, 0, 9)) (As := [.long 251059, .int 116]) (rest := [.int 2, .ref 5]) d_Tokens_init_92 rfl mo_Tokens_37 ms_Tokens_withLetter (by decide) rfl rfl (Nat.le_of_ble_eq_true rfl) ⟨Nat.le_of_ble_eq_true rfl, Nat.le_of_ble_eq_true rfl⟩ rfl ?_
  refine t0_withLetter ?_
  dsimp only [psh]
  refine Wp.vall (y := 8033908) (by decide +kernel) ?_
  refine g_last (pc1 := 96) d_Tokens_init_95 rfl sh_5 (by decide) (vin_lit (x := 2) (by decide)) ?_
  rw [show ((2 : Int32).toNatClampNeg) = 2 from by decide]
  refine Wp.topL (fun L5512 eL5512 => ?_)
  have Z5513 : ∀ j : Nat, 2 < j → L5512 5 j = 0 := fun j hj => (rdL_ne eL5512 (fun q => by omega)).trans (Z5510 j (by omega))
  have q5514 : L5512 5 2 = 8033908 := rdL_eq eL5512
  refine g_iinc (pc1 := 99) (v := 15) (lv' := [(0, .ref 4), (1, .int 2), (2, .int 15), (3, .int 116)]) d_Tokens_init_96 rfl 2 rfl (by decide) (by decide) [1, 2, 0, 3] rfl ?_
  refine g_goto (tgt := 43) d_Tokens_init_99 (by decide) ?_
  refine g_iload_n (pc1 := 44) d_Tokens_init_43 rfl 2 rfl ?_
  refine g_strlen (pc1 := 49) rfl d_Tokens_init_44 d_Tokens_init_46 rfl (Nat.le_of_ble_eq_true rfl) ⟨Nat.le_of_ble_eq_true rfl, Nat.le_of_ble_eq_true rfl⟩ ?_
  refine g_icmp_ge (pc1 := 52) (tgt := 102) d_Tokens_init_49 (by decide) rfl (fun h => absurd h (by decide)) (fun _ => ?_)
  refine g_strchr (pc1 := 58) (v := 32) rfl d_Tokens_init_52 d_Tokens_init_54 d_Tokens_init_55 rfl 2 rfl (by decide) (by decide) (by decide +kernel) (Nat.le_of_ble_eq_true rfl) ⟨Nat.le_of_ble_eq_true rfl, Nat.le_of_ble_eq_true rfl⟩ ?_
  refine g_istore_n (pc1 := 59) (lv' := [(0, .ref 4), (1, .int 2), (2, .int 15), (3, .int 32)]) d_Tokens_init_58 rfl rfl (by decide) [1, 2, 3, 0] rfl ?_
  refine g_iload_n (pc1 := 60) d_Tokens_init_59 rfl 3 rfl ?_
  refine g_bipush (pc1 := 62) (v := 32) d_Tokens_init_60 rfl (by decide) ?_
  refine g_icmp_ne (pc1 := 65) (tgt := 71) d_Tokens_init_62 (by decide) rfl (fun h => absurd h (by decide)) (fun _ => ?_)
  refine g_iinc (pc1 := 68) (v := 3) (lv' := [(0, .ref 4), (1, .int 3), (2, .int 15), (3, .int 32)]) d_Tokens_init_65 rfl 1 rfl (by decide) (by decide) [1, 0, 2, 3] rfl ?_
  refine g_goto (tgt := 96) d_Tokens_init_68 (by decide) ?_
  refine g_iinc (pc1 := 99) (v := 16) (lv' := [(0, .ref 4), (1, .int 3), (2, .int 16), (3, .int 32)]) d_Tokens_init_96 rfl 2 rfl (by decide) (by decide) [1, 2, 0, 3] rfl ?_
  refine g_goto (tgt := 43) d_Tokens_init_99 (by decide) ?_
  refine g_iload_n (pc1 := 44) d_Tokens_init_43 rfl 2 rfl ?_
  refine g_strlen (pc1 := 49) rfl d_Tokens_init_44 d_Tokens_init_46 rfl (Nat.le_of_ble_eq_true rfl) ⟨Nat.le_of_ble_eq_true rfl, Nat.le_of_ble_eq_true rfl⟩ ?_
  refine g_icmp_ge (pc1 := 52) (tgt := 102) d_Tokens_init_49 (by decide) rfl (fun h => absurd h (by decide)) (fun _ => ?_)
  refine g_strchr (pc1 := 58) (v := 100) rfl d_Tokens_init_52 d_Tokens_init_54 d_Tokens_init_55 rfl 2 rfl (by decide) (by decide) (by decide +kernel) (Nat.le_of_ble_eq_true rfl) ⟨Nat.le_of_ble_eq_true rfl, Nat.le_of_ble_eq_true rfl⟩ ?_
  refine g_istore_n (pc1 := 59) (lv' := [(0, .ref 4), (1, .int 3), (2, .int 16), (3, .int 100)]) d_Tokens_init_58 rfl rfl (by decide) [1, 2, 3, 0] rfl ?_
  refine g_iload_n (pc1 := 60) d_Tokens_init_59 rfl 3 rfl ?_
  refine g_bipush (pc1 := 62) (v := 32) d_Tokens_init_60 rfl (by decide) ?_
  refine g_icmp_ne (pc1 := 65) (tgt := 71) d_Tokens_init_62 (by decide) rfl (fun _ => ?_) (fun h => absurd h (by decide))
  refine g_iload_n (pc1 := 72) d_Tokens_init_71 rfl 1 rfl ?_
  refine g_aload_n (pc1 := 73) d_Tokens_init_72 rfl 0 rfl ?_
  refine g_getr (pc1 := 76) d_Tokens_init_73 rfl ⟨_, fo_Tokens_9⟩ sh_4 (by decide) q5474 ?_
  refine g_alen (pc1 := 77) (v := 21) d_Tokens_init_76 rfl sh_5 (by decide) (by decide) (by decide) (by decide) ?_
  refine g_icmp_ge (pc1 := 80) (tgt := 96) d_Tokens_init_77 (by decide) rfl (fun h => absurd h (by decide)) (fun _ => ?_)
  refine g_aload_n (pc1 := 81) d_Tokens_init_80 rfl 0 rfl ?_
  refine g_getr (pc1 := 84) d_Tokens_init_81 rfl ⟨_, fo_Tokens_9⟩ sh_4 (by decide) q5474 ?_
  refine g_iload_n (pc1 := 85) d_Tokens_init_84 rfl 1 rfl ?_
  refine g_aload_n (pc1 := 86) d_Tokens_init_85 rfl 0 rfl ?_
  refine g_getr (pc1 := 89) d_Tokens_init_86 rfl ⟨_, fo_Tokens_9⟩ sh_4 (by decide) q5474 ?_
  refine g_iload_n (pc1 := 90) d_Tokens_init_89 rfl 1 rfl ?_
  refine g_lald (pc1 := 91) d_Tokens_init_90 rfl sh_5 (by decide) (vin_lit (x := 3) (by decide)) ?_
  refine Wp.vall (y := 0) (by rw [show (3 : Int32).toNatClampNeg = 3 from by decide]; exact (Z5513 3 (by decide))) ?_
  refine g_iload_n (pc1 := 92) d_Tokens_init_91 rfl 3 rfl ?_
  refine g_callS (pc1 := 95) (E' := (0, 0, 9)) (As := [.long 0, .int 100]) (rest := [.int 3, .ref 5]) d_Tokens_init_92 rfl mo_Tokens_37 ms_Tokens_withLetter (by decide) rfl rfl (Nat.le_of_ble_eq_true rfl) ⟨Nat.le_of_ble_eq_true rfl, Nat.le_of_ble_eq_true rfl⟩ rfl ?_
  refine t0_withLetter ?_
  dsimp only [psh]
  refine Wp.vall (y := 4) (by decide +kernel) ?_
  refine g_last (pc1 := 96) d_Tokens_init_95 rfl sh_5 (by decide) (vin_lit (x := 3) (by decide)) ?_
  rw [show ((3 : Int32).toNatClampNeg) = 3 from by decide]
  refine Wp.topL (fun L5515 eL5515 => ?_)
  have Z5516 : ∀ j : Nat, 3 < j → L5515 5 j = 0 := fun j hj => (rdL_ne eL5515 (fun q => by omega)).trans (Z5513 j (by omega))
  have q5517 : L5515 5 3 = 4 := rdL_eq eL5515
  refine g_iinc (pc1 := 99) (v := 17) (lv' := [(0, .ref 4), (1, .int 3), (2, .int 17), (3, .int 100)]) d_Tokens_init_96 rfl 2 rfl (by decide) (by decide) [1, 2, 0, 3] rfl ?_
  refine g_goto (tgt := 43) d_Tokens_init_99 (by decide) ?_
  refine g_iload_n (pc1 := 44) d_Tokens_init_43 rfl 2 rfl ?_
  refine g_strlen (pc1 := 49) rfl d_Tokens_init_44 d_Tokens_init_46 rfl (Nat.le_of_ble_eq_true rfl) ⟨Nat.le_of_ble_eq_true rfl, Nat.le_of_ble_eq_true rfl⟩ ?_
  refine g_icmp_ge (pc1 := 52) (tgt := 102) d_Tokens_init_49 (by decide) rfl (fun h => absurd h (by decide)) (fun _ => ?_)
  refine g_strchr (pc1 := 58) (v := 101) rfl d_Tokens_init_52 d_Tokens_init_54 d_Tokens_init_55 rfl 2 rfl (by decide) (by decide) (by decide +kernel) (Nat.le_of_ble_eq_true rfl) ⟨Nat.le_of_ble_eq_true rfl, Nat.le_of_ble_eq_true rfl⟩ ?_
  refine g_istore_n (pc1 := 59) (lv' := [(0, .ref 4), (1, .int 3), (2, .int 17), (3, .int 101)]) d_Tokens_init_58 rfl rfl (by decide) [1, 2, 3, 0] rfl ?_
  refine g_iload_n (pc1 := 60) d_Tokens_init_59 rfl 3 rfl ?_
  refine g_bipush (pc1 := 62) (v := 32) d_Tokens_init_60 rfl (by decide) ?_
  refine g_icmp_ne (pc1 := 65) (tgt := 71) d_Tokens_init_62 (by decide) rfl (fun _ => ?_) (fun h => absurd h (by decide))
  refine g_iload_n (pc1 := 72) d_Tokens_init_71 rfl 1 rfl ?_
  refine g_aload_n (pc1 := 73) d_Tokens_init_72 rfl 0 rfl ?_
  refine g_getr (pc1 := 76) d_Tokens_init_73 rfl ⟨_, fo_Tokens_9⟩ sh_4 (by decide) q5474 ?_
  refine g_alen (pc1 := 77) (v := 21) d_Tokens_init_76 rfl sh_5 (by decide) (by decide) (by decide) (by decide) ?_
  refine g_icmp_ge (pc1 := 80) (tgt := 96) d_Tokens_init_77 (by decide) rfl (fun h => absurd h (by decide)) (fun _ => ?_)
  refine g_aload_n (pc1 := 81) d_Tokens_init_80 rfl 0 rfl ?_
  refine g_getr (pc1 := 84) d_Tokens_init_81 rfl ⟨_, fo_Tokens_9⟩ sh_4 (by decide) q5474 ?_
  refine g_iload_n (pc1 := 85) d_Tokens_init_84 rfl 1 rfl ?_
  refine g_aload_n (pc1 := 86) d_Tokens_init_85 rfl 0 rfl ?_
  refine g_getr (pc1 := 89) d_Tokens_init_86 rfl ⟨_, fo_Tokens_9⟩ sh_4 (by decide) q5474 ?_
  refine g_iload_n (pc1 := 90) d_Tokens_init_89 rfl 1 rfl ?_
  refine g_lald (pc1 := 91) d_Tokens_init_90 rfl sh_5 (by decide) (vin_lit (x := 3) (by decide)) ?_
  refine Wp.vall (y := 4) (by rw [show (3 : Int32).toNatClampNeg = 3 from by decide]; exact q5517) ?_
  refine g_iload_n (pc1 := 92) d_Tokens_init_91 rfl 3 rfl ?_
  refine g_callS (pc1 := 95) (E' := (0, 0, 9)) (As := [.long 4, .int 101]) (rest := [.int 3, .ref 5]) d_Tokens_init_92 rfl mo_Tokens_37 ms_Tokens_withLetter (by decide) rfl rfl (Nat.le_of_ble_eq_true rfl) ⟨Nat.le_of_ble_eq_true rfl, Nat.le_of_ble_eq_true rfl⟩ rfl ?_
  refine t0_withLetter ?_
  dsimp only [psh]
  refine Wp.vall (y := 133) (by decide +kernel) ?_
  refine g_last (pc1 := 96) d_Tokens_init_95 rfl sh_5 (by decide) (vin_lit (x := 3) (by decide)) ?_
  rw [show ((3 : Int32).toNatClampNeg) = 3 from by decide]
  refine Wp.topL (fun L5518 eL5518 => ?_)
  have Z5519 : ∀ j : Nat, 3 < j → L5518 5 j = 0 := fun j hj => (rdL_ne eL5518 (fun q => by omega)).trans (Z5516 j (by omega))
  have q5520 : L5518 5 3 = 133 := rdL_eq eL5518
  refine g_iinc (pc1 := 99) (v := 18) (lv' := [(0, .ref 4), (1, .int 3), (2, .int 18), (3, .int 101)]) d_Tokens_init_96 rfl 2 rfl (by decide) (by decide) [1, 2, 0, 3] rfl ?_
  refine g_goto (tgt := 43) d_Tokens_init_99 (by decide) ?_
  refine g_iload_n (pc1 := 44) d_Tokens_init_43 rfl 2 rfl ?_
  refine g_strlen (pc1 := 49) rfl d_Tokens_init_44 d_Tokens_init_46 rfl (Nat.le_of_ble_eq_true rfl) ⟨Nat.le_of_ble_eq_true rfl, Nat.le_of_ble_eq_true rfl⟩ ?_
  refine g_icmp_ge (pc1 := 52) (tgt := 102) d_Tokens_init_49 (by decide) rfl (fun h => absurd h (by decide)) (fun _ => ?_)
  refine g_strchr (pc1 := 58) (v := 101) rfl d_Tokens_init_52 d_Tokens_init_54 d_Tokens_init_55 rfl 2 rfl (by decide) (by decide) (by decide +kernel) (Nat.le_of_ble_eq_true rfl) ⟨Nat.le_of_ble_eq_true rfl, Nat.le_of_ble_eq_true rfl⟩ ?_
  refine g_istore_n (pc1 := 59) (lv' := [(0, .ref 4), (1, .int 3), (2, .int 18), (3, .int 101)]) d_Tokens_init_58 rfl rfl (by decide) [1, 2, 3, 0] rfl ?_
  refine g_iload_n (pc1 := 60) d_Tokens_init_59 rfl 3 rfl ?_
  refine g_bipush (pc1 := 62) (v := 32) d_Tokens_init_60 rfl (by decide) ?_
  refine g_icmp_ne (pc1 := 65) (tgt := 71) d_Tokens_init_62 (by decide) rfl (fun _ => ?_) (fun h => absurd h (by decide))
  refine g_iload_n (pc1 := 72) d_Tokens_init_71 rfl 1 rfl ?_
  refine g_aload_n (pc1 := 73) d_Tokens_init_72 rfl 0 rfl ?_
  refine g_getr (pc1 := 76) d_Tokens_init_73 rfl ⟨_, fo_Tokens_9⟩ sh_4 (by decide) q5474 ?_
  refine g_alen (pc1 := 77) (v := 21) d_Tokens_init_76 rfl sh_5 (by decide) (by decide) (by decide) (by decide) ?_
  refine g_icmp_ge (pc1 := 80) (tgt := 96) d_Tokens_init_77 (by decide) rfl (fun h => absurd h (by decide)) (fun _ => ?_)
  refine g_aload_n (pc1 := 81) d_Tokens_init_80 rfl 0 rfl ?_
  refine g_getr (pc1 := 84) d_Tokens_init_81 rfl ⟨_, fo_Tokens_9⟩ sh_4 (by decide) q5474 ?_
  refine g_iload_n (pc1 := 85) d_Tokens_init_84 rfl 1 rfl ?_
  refine g_aload_n (pc1 := 86) d_Tokens_init_85 rfl 0 rfl ?_
  refine g_getr (pc1 := 89) d_Tokens_init_86 rfl ⟨_, fo_Tokens_9⟩ sh_4 (by decide) q5474 ?_
  refine g_iload_n (pc1 := 90) d_Tokens_init_89 rfl 1 rfl ?_
  refine g_lald (pc1 := 91) d_Tokens_init_90 rfl sh_5 (by decide) (vin_lit (x := 3) (by decide)) ?_
  refine Wp.vall (y := 133) (by rw [show (3 : Int32).toNatClampNeg = 3 from by decide]; exact q5520) ?_
  refine g_iload_n (pc1 := 92) d_Tokens_init_91 rfl 3 rfl ?_
  refine g_callS (pc1 := 95) (E' := (0, 0, 9)) (As := [.long 133, .int 101]) (rest := [.int 3, .ref 5]) d_Tokens_init_92 rfl mo_Tokens_37 ms_Tokens_withLetter (by decide) rfl rfl (Nat.le_of_ble_eq_true rfl) ⟨Nat.le_of_ble_eq_true rfl, Nat.le_of_ble_eq_true rfl⟩ rfl ?_
  refine t0_withLetter ?_
  dsimp only [psh]
  refine Wp.vall (y := 4261) (by decide +kernel) ?_
  refine g_last (pc1 := 96) d_Tokens_init_95 rfl sh_5 (by decide) (vin_lit (x := 3) (by decide)) ?_
  rw [show ((3 : Int32).toNatClampNeg) = 3 from by decide]
  refine Wp.topL (fun L5521 eL5521 => ?_)
  have Z5522 : ∀ j : Nat, 3 < j → L5521 5 j = 0 := fun j hj => (rdL_ne eL5521 (fun q => by omega)).trans (Z5519 j (by omega))
  have q5523 : L5521 5 3 = 4261 := rdL_eq eL5521
  refine g_iinc (pc1 := 99) (v := 19) (lv' := [(0, .ref 4), (1, .int 3), (2, .int 19), (3, .int 101)]) d_Tokens_init_96 rfl 2 rfl (by decide) (by decide) [1, 2, 0, 3] rfl ?_
  refine g_goto (tgt := 43) d_Tokens_init_99 (by decide) ?_
  refine g_iload_n (pc1 := 44) d_Tokens_init_43 rfl 2 rfl ?_
  refine g_strlen (pc1 := 49) rfl d_Tokens_init_44 d_Tokens_init_46 rfl (Nat.le_of_ble_eq_true rfl) ⟨Nat.le_of_ble_eq_true rfl, Nat.le_of_ble_eq_true rfl⟩ ?_
  refine g_icmp_ge (pc1 := 52) (tgt := 102) d_Tokens_init_49 (by decide) rfl (fun h => absurd h (by decide)) (fun _ => ?_)
  refine g_strchr (pc1 := 58) (v := 100) rfl d_Tokens_init_52 d_Tokens_init_54 d_Tokens_init_55 rfl 2 rfl (by decide) (by decide) (by decide +kernel) (Nat.le_of_ble_eq_true rfl) ⟨Nat.le_of_ble_eq_true rfl, Nat.le_of_ble_eq_true rfl⟩ ?_
  refine g_istore_n (pc1 := 59) (lv' := [(0, .ref 4), (1, .int 3), (2, .int 19), (3, .int 100)]) d_Tokens_init_58 rfl rfl (by decide) [1, 2, 3, 0] rfl ?_
  refine g_iload_n (pc1 := 60) d_Tokens_init_59 rfl 3 rfl ?_
  refine g_bipush (pc1 := 62) (v := 32) d_Tokens_init_60 rfl (by decide) ?_
  refine g_icmp_ne (pc1 := 65) (tgt := 71) d_Tokens_init_62 (by decide) rfl (fun _ => ?_) (fun h => absurd h (by decide))
  refine g_iload_n (pc1 := 72) d_Tokens_init_71 rfl 1 rfl ?_
  refine g_aload_n (pc1 := 73) d_Tokens_init_72 rfl 0 rfl ?_
  refine g_getr (pc1 := 76) d_Tokens_init_73 rfl ⟨_, fo_Tokens_9⟩ sh_4 (by decide) q5474 ?_
  refine g_alen (pc1 := 77) (v := 21) d_Tokens_init_76 rfl sh_5 (by decide) (by decide) (by decide) (by decide) ?_
  refine g_icmp_ge (pc1 := 80) (tgt := 96) d_Tokens_init_77 (by decide) rfl (fun h => absurd h (by decide)) (fun _ => ?_)
  refine g_aload_n (pc1 := 81) d_Tokens_init_80 rfl 0 rfl ?_
  refine g_getr (pc1 := 84) d_Tokens_init_81 rfl ⟨_, fo_Tokens_9⟩ sh_4 (by decide) q5474 ?_
  refine g_iload_n (pc1 := 85) d_Tokens_init_84 rfl 1 rfl ?_
  refine g_aload_n (pc1 := 86) d_Tokens_init_85 rfl 0 rfl ?_
  refine g_getr (pc1 := 89) d_Tokens_init_86 rfl ⟨_, fo_Tokens_9⟩ sh_4 (by decide) q5474 ?_
  refine g_iload_n (pc1 := 90) d_Tokens_init_89 rfl 1 rfl ?_
  refine g_lald (pc1 := 91) d_Tokens_init_90 rfl sh_5 (by decide) (vin_lit (x := 3) (by decide)) ?_
  refine Wp.vall (y := 4261) (by rw [show (3 : Int32).toNatClampNeg = 3 from by decide]; exact q5523) ?_
  refine g_iload_n (pc1 := 92) d_Tokens_init_91 rfl 3 rfl ?_
  refine g_callS (pc1 := 95) (E' := (0, 0, 9)) (As := [.long 4261, .int 100]) (rest := [.int 3, .ref 5]) d_Tokens_init_92 rfl mo_Tokens_37 ms_Tokens_withLetter (by decide) rfl rfl (Nat.le_of_ble_eq_true rfl) ⟨Nat.le_of_ble_eq_true rfl, Nat.le_of_ble_eq_true rfl⟩ rfl ?_
  refine t0_withLetter ?_
  dsimp only [psh]
  refine Wp.vall (y := 136356) (by decide +kernel) ?_
  refine g_last (pc1 := 96) d_Tokens_init_95 rfl sh_5 (by decide) (vin_lit (x := 3) (by decide)) ?_
  rw [show ((3 : Int32).toNatClampNeg) = 3 from by decide]
  refine Wp.topL (fun L5524 eL5524 => ?_)
  have Z5525 : ∀ j : Nat, 3 < j → L5524 5 j = 0 := fun j hj => (rdL_ne eL5524 (fun q => by omega)).trans (Z5522 j (by omega))
  have q5526 : L5524 5 3 = 136356 := rdL_eq eL5524
  refine g_iinc (pc1 := 99) (v := 20) (lv' := [(0, .ref 4), (1, .int 3), (2, .int 20), (3, .int 100)]) d_Tokens_init_96 rfl 2 rfl (by decide) (by decide) [1, 2, 0, 3] rfl ?_
  refine g_goto (tgt := 43) d_Tokens_init_99 (by decide) ?_
  refine g_iload_n (pc1 := 44) d_Tokens_init_43 rfl 2 rfl ?_
  refine g_strlen (pc1 := 49) rfl d_Tokens_init_44 d_Tokens_init_46 rfl (Nat.le_of_ble_eq_true rfl) ⟨Nat.le_of_ble_eq_true rfl, Nat.le_of_ble_eq_true rfl⟩ ?_
  refine g_icmp_ge (pc1 := 52) (tgt := 102) d_Tokens_init_49 (by decide) rfl (fun h => absurd h (by decide)) (fun _ => ?_)
  refine g_strchr (pc1 := 58) (v := 32) rfl d_Tokens_init_52 d_Tokens_init_54 d_Tokens_init_55 rfl 2 rfl (by decide) (by decide) (by decide +kernel) (Nat.le_of_ble_eq_true rfl) ⟨Nat.le_of_ble_eq_true rfl, Nat.le_of_ble_eq_true rfl⟩ ?_
  refine g_istore_n (pc1 := 59) (lv' := [(0, .ref 4), (1, .int 3), (2, .int 20), (3, .int 32)]) d_Tokens_init_58 rfl rfl (by decide) [1, 2, 3, 0] rfl ?_
  refine g_iload_n (pc1 := 60) d_Tokens_init_59 rfl 3 rfl ?_
  refine g_bipush (pc1 := 62) (v := 32) d_Tokens_init_60 rfl (by decide) ?_
  refine g_icmp_ne (pc1 := 65) (tgt := 71) d_Tokens_init_62 (by decide) rfl (fun h => absurd h (by decide)) (fun _ => ?_)
  refine g_iinc (pc1 := 68) (v := 4) (lv' := [(0, .ref 4), (1, .int 4), (2, .int 20), (3, .int 32)]) d_Tokens_init_65 rfl 1 rfl (by decide) (by decide) [1, 0, 2, 3] rfl ?_
  refine g_goto (tgt := 96) d_Tokens_init_68 (by decide) ?_
  refine g_iinc (pc1 := 99) (v := 21) (lv' := [(0, .ref 4), (1, .int 4), (2, .int 21), (3, .int 32)]) d_Tokens_init_96 rfl 2 rfl (by decide) (by decide) [1, 2, 0, 3] rfl ?_
  refine g_goto (tgt := 43) d_Tokens_init_99 (by decide) ?_
  refine g_iload_n (pc1 := 44) d_Tokens_init_43 rfl 2 rfl ?_
  refine g_strlen (pc1 := 49) rfl d_Tokens_init_44 d_Tokens_init_46 rfl (Nat.le_of_ble_eq_true rfl) ⟨Nat.le_of_ble_eq_true rfl, Nat.le_of_ble_eq_true rfl⟩ ?_
  refine g_icmp_ge (pc1 := 52) (tgt := 102) d_Tokens_init_49 (by decide) rfl (fun h => absurd h (by decide)) (fun _ => ?_)
  refine g_strchr (pc1 := 58) (v := 102) rfl d_Tokens_init_52 d_Tokens_init_54 d_Tokens_init_55 rfl 2 rfl (by decide) (by decide) (by decide +kernel) (Nat.le_of_ble_eq_true rfl) ⟨Nat.le_of_ble_eq_true rfl, Nat.le_of_ble_eq_true rfl⟩ ?_
  refine g_istore_n (pc1 := 59) (lv' := [(0, .ref 4), (1, .int 4), (2, .int 21), (3, .int 102)]) d_Tokens_init_58 rfl rfl (by decide) [1, 2, 3, 0] rfl ?_
  refine g_iload_n (pc1 := 60) d_Tokens_init_59 rfl 3 rfl ?_
  refine g_bipush (pc1 := 62) (v := 32) d_Tokens_init_60 rfl (by decide) ?_
  refine g_icmp_ne (pc1 := 65) (tgt := 71) d_Tokens_init_62 (by decide) rfl (fun _ => ?_) (fun h => absurd h (by decide))
  refine g_iload_n (pc1 := 72) d_Tokens_init_71 rfl 1 rfl ?_
  refine g_aload_n (pc1 := 73) d_Tokens_init_72 rfl 0 rfl ?_
  refine g_getr (pc1 := 76) d_Tokens_init_73 rfl ⟨_, fo_Tokens_9⟩ sh_4 (by decide) q5474 ?_
  refine g_alen (pc1 := 77) (v := 21) d_Tokens_init_76 rfl sh_5 (by decide) (by decide) (by decide) (by decide) ?_
  refine g_icmp_ge (pc1 := 80) (tgt := 96) d_Tokens_init_77 (by decide) rfl (fun h => absurd h (by decide)) (fun _ => ?_)
  refine g_aload_n (pc1 := 81) d_Tokens_init_80 rfl 0 rfl ?_
  refine g_getr (pc1 := 84) d_Tokens_init_81 rfl ⟨_, fo_Tokens_9⟩ sh_4 (by decide) q5474 ?_
  refine g_iload_n (pc1 := 85) d_Tokens_init_84 rfl 1 rfl ?_
  refine g_aload_n (pc1 := 86) d_Tokens_init_85 rfl 0 rfl ?_
  refine g_getr (pc1 := 89) d_Tokens_init_86 rfl ⟨_, fo_Tokens_9⟩ sh_4 (by decide) q5474 ?_
  refine g_iload_n (pc1 := 90) d_Tokens_init_89 rfl 1 rfl ?_
  refine g_lald (pc1 := 91) d_Tokens_init_90 rfl sh_5 (by decide) (vin_lit (x := 4) (by decide)) ?_
  refine Wp.vall (y := 0) (by rw [show (4 : Int32).toNatClampNeg = 4 from by decide]; exact (Z5525 4 (by decide))) ?_
  refine g_iload_n (pc1 := 92) d_Tokens_init_91 rfl 3 rfl ?_
  refine g_callS (pc1 := 95) (E' := (0, 0, 9)) (As := [.long 0, .int 102]) (rest := [.int 4, .ref 5]) d_Tokens_init_92 rfl mo_Tokens_37 ms_Tokens_withLetter (by decide) rfl rfl (Nat.le_of_ble_eq_true rfl) ⟨Nat.le_of_ble_eq_true rfl, Nat.le_of_ble_eq_true rfl⟩ rfl ?_
  refine t0_withLetter ?_
  dsimp only [psh]
  refine Wp.vall (y := 6) (by decide +kernel) ?_
  refine g_last (pc1 := 96) d_Tokens_init_95 rfl sh_5 (by decide) (vin_lit (x := 4) (by decide)) ?_
  rw [show ((4 : Int32).toNatClampNeg) = 4 from by decide]
  refine Wp.topL (fun L5527 eL5527 => ?_)
  have Z5528 : ∀ j : Nat, 4 < j → L5527 5 j = 0 := fun j hj => (rdL_ne eL5527 (fun q => by omega)).trans (Z5525 j (by omega))
  have q5529 : L5527 5 4 = 6 := rdL_eq eL5527
  refine g_iinc (pc1 := 99) (v := 22) (lv' := [(0, .ref 4), (1, .int 4), (2, .int 22), (3, .int 102)]) d_Tokens_init_96 rfl 2 rfl (by decide) (by decide) [1, 2, 0, 3] rfl ?_
  refine g_goto (tgt := 43) d_Tokens_init_99 (by decide) ?_
  refine g_iload_n (pc1 := 44) d_Tokens_init_43 rfl 2 rfl ?_
  refine g_strlen (pc1 := 49) rfl d_Tokens_init_44 d_Tokens_init_46 rfl (Nat.le_of_ble_eq_true rfl) ⟨Nat.le_of_ble_eq_true rfl, Nat.le_of_ble_eq_true rfl⟩ ?_
  refine g_icmp_ge (pc1 := 52) (tgt := 102) d_Tokens_init_49 (by decide) rfl (fun h => absurd h (by decide)) (fun _ => ?_)
  refine g_strchr (pc1 := 58) (v := 111) rfl d_Tokens_init_52 d_Tokens_init_54 d_Tokens_init_55 rfl 2 rfl (by decide) (by decide) (by decide +kernel) (Nat.le_of_ble_eq_true rfl) ⟨Nat.le_of_ble_eq_true rfl, Nat.le_of_ble_eq_true rfl⟩ ?_
  refine g_istore_n (pc1 := 59) (lv' := [(0, .ref 4), (1, .int 4), (2, .int 22), (3, .int 111)]) d_Tokens_init_58 rfl rfl (by decide) [1, 2, 3, 0] rfl ?_
  refine g_iload_n (pc1 := 60) d_Tokens_init_59 rfl 3 rfl ?_
  refine g_bipush (pc1 := 62) (v := 32) d_Tokens_init_60 rfl (by decide) ?_
  refine g_icmp_ne (pc1 := 65) (tgt := 71) d_Tokens_init_62 (by decide) rfl (fun _ => ?_) (fun h => absurd h (by decide))
  refine g_iload_n (pc1 := 72) d_Tokens_init_71 rfl 1 rfl ?_
  refine g_aload_n (pc1 := 73) d_Tokens_init_72 rfl 0 rfl ?_
  refine g_getr (pc1 := 76) d_Tokens_init_73 rfl ⟨_, fo_Tokens_9⟩ sh_4 (by decide) q5474 ?_
  refine g_alen (pc1 := 77) (v := 21) d_Tokens_init_76 rfl sh_5 (by decide) (by decide) (by decide) (by decide) ?_
  refine g_icmp_ge (pc1 := 80) (tgt := 96) d_Tokens_init_77 (by decide) rfl (fun h => absurd h (by decide)) (fun _ => ?_)
  refine g_aload_n (pc1 := 81) d_Tokens_init_80 rfl 0 rfl ?_
  refine g_getr (pc1 := 84) d_Tokens_init_81 rfl ⟨_, fo_Tokens_9⟩ sh_4 (by decide) q5474 ?_
  refine g_iload_n (pc1 := 85) d_Tokens_init_84 rfl 1 rfl ?_
  refine g_aload_n (pc1 := 86) d_Tokens_init_85 rfl 0 rfl ?_
  refine g_getr (pc1 := 89) d_Tokens_init_86 rfl ⟨_, fo_Tokens_9⟩ sh_4 (by decide) q5474 ?_
  refine g_iload_n (pc1 := 90) d_Tokens_init_89 rfl 1 rfl ?_
  refine g_lald (pc1 := 91) d_Tokens_init_90 rfl sh_5 (by decide) (vin_lit (x := 4) (by decide)) ?_
  refine Wp.vall (y := 6) (by rw [show (4 : Int32).toNatClampNeg = 4 from by decide]; exact q5529) ?_
  refine g_iload_n (pc1 := 92) d_Tokens_init_91 rfl 3 rfl ?_
  refine g_callS (pc1 := 95) (E' := (0, 0, 9)) (As := [.long 6, .int 111]) (rest := [.int 4, .ref 5]) d_Tokens_init_92 rfl mo_Tokens_37 ms_Tokens_withLetter (by decide) rfl rfl (Nat.le_of_ble_eq_true rfl) ⟨Nat.le_of_ble_eq_true rfl, Nat.le_of_ble_eq_true rfl⟩ rfl ?_
  refine t0_withLetter ?_
  dsimp only [psh]
  refine Wp.vall (y := 207) (by decide +kernel) ?_
  refine g_last (pc1 := 96) d_Tokens_init_95 rfl sh_5 (by decide) (vin_lit (x := 4) (by decide)) ?_
  rw [show ((4 : Int32).toNatClampNeg) = 4 from by decide]
  refine Wp.topL (fun L5530 eL5530 => ?_)
  have Z5531 : ∀ j : Nat, 4 < j → L5530 5 j = 0 := fun j hj => (rdL_ne eL5530 (fun q => by omega)).trans (Z5528 j (by omega))
  have q5532 : L5530 5 4 = 207 := rdL_eq eL5530
  refine g_iinc (pc1 := 99) (v := 23) (lv' := [(0, .ref 4), (1, .int 4), (2, .int 23), (3, .int 111)]) d_Tokens_init_96 rfl 2 rfl (by decide) (by decide) [1, 2, 0, 3] rfl ?_
  refine g_goto (tgt := 43) d_Tokens_init_99 (by decide) ?_
  refine g_iload_n (pc1 := 44) d_Tokens_init_43 rfl 2 rfl ?_
  refine g_strlen (pc1 := 49) rfl d_Tokens_init_44 d_Tokens_init_46 rfl (Nat.le_of_ble_eq_true rfl) ⟨Nat.le_of_ble_eq_true rfl, Nat.le_of_ble_eq_true rfl⟩ ?_
  refine g_icmp_ge (pc1 := 52) (tgt := 102) d_Tokens_init_49 (by decide) rfl (fun h => absurd h (by decide)) (fun _ => ?_)
  refine g_strchr (pc1 := 58) (v := 114) rfl d_Tokens_init_52 d_Tokens_init_54 d_Tokens_init_55 rfl 2 rfl (by decide) (by decide) (by decide +kernel) (Nat.le_of_ble_eq_true rfl) ⟨Nat.le_of_ble_eq_true rfl, Nat.le_of_ble_eq_true rfl⟩ ?_
  refine g_istore_n (pc1 := 59) (lv' := [(0, .ref 4), (1, .int 4), (2, .int 23), (3, .int 114)]) d_Tokens_init_58 rfl rfl (by decide) [1, 2, 3, 0] rfl ?_
  refine g_iload_n (pc1 := 60) d_Tokens_init_59 rfl 3 rfl ?_
  refine g_bipush (pc1 := 62) (v := 32) d_Tokens_init_60 rfl (by decide) ?_
  refine g_icmp_ne (pc1 := 65) (tgt := 71) d_Tokens_init_62 (by decide) rfl (fun _ => ?_) (fun h => absurd h (by decide))
  refine g_iload_n (pc1 := 72) d_Tokens_init_71 rfl 1 rfl ?_
  refine g_aload_n (pc1 := 73) d_Tokens_init_72 rfl 0 rfl ?_
  refine g_getr (pc1 := 76) d_Tokens_init_73 rfl ⟨_, fo_Tokens_9⟩ sh_4 (by decide) q5474 ?_
  refine g_alen (pc1 := 77) (v := 21) d_Tokens_init_76 rfl sh_5 (by decide) (by decide) (by decide) (by decide) ?_
  refine g_icmp_ge (pc1 := 80) (tgt := 96) d_Tokens_init_77 (by decide) rfl (fun h => absurd h (by decide)) (fun _ => ?_)
  refine g_aload_n (pc1 := 81) d_Tokens_init_80 rfl 0 rfl ?_
  refine g_getr (pc1 := 84) d_Tokens_init_81 rfl ⟨_, fo_Tokens_9⟩ sh_4 (by decide) q5474 ?_
  refine g_iload_n (pc1 := 85) d_Tokens_init_84 rfl 1 rfl ?_
  refine g_aload_n (pc1 := 86) d_Tokens_init_85 rfl 0 rfl ?_
  refine g_getr (pc1 := 89) d_Tokens_init_86 rfl ⟨_, fo_Tokens_9⟩ sh_4 (by decide) q5474 ?_
  refine g_iload_n (pc1 := 90) d_Tokens_init_89 rfl 1 rfl ?_
  refine g_lald (pc1 := 91) d_Tokens_init_90 rfl sh_5 (by decide) (vin_lit (x := 4) (by decide)) ?_
  refine Wp.vall (y := 207) (by rw [show (4 : Int32).toNatClampNeg = 4 from by decide]; exact q5532) ?_
  refine g_iload_n (pc1 := 92) d_Tokens_init_91 rfl 3 rfl ?_
  refine g_callS (pc1 := 95) (E' := (0, 0, 9)) (As := [.long 207, .int 114]) (rest := [.int 4, .ref 5]) d_Tokens_init_92 rfl mo_Tokens_37 ms_Tokens_withLetter (by decide) rfl rfl (Nat.le_of_ble_eq_true rfl) ⟨Nat.le_of_ble_eq_true rfl, Nat.le_of_ble_eq_true rfl⟩ rfl ?_
  refine t0_withLetter ?_
  dsimp only [psh]
  refine Wp.vall (y := 6642) (by decide +kernel) ?_
  refine g_last (pc1 := 96) d_Tokens_init_95 rfl sh_5 (by decide) (vin_lit (x := 4) (by decide)) ?_
  rw [show ((4 : Int32).toNatClampNeg) = 4 from by decide]
  refine Wp.topL (fun L5533 eL5533 => ?_)
  have Z5534 : ∀ j : Nat, 4 < j → L5533 5 j = 0 := fun j hj => (rdL_ne eL5533 (fun q => by omega)).trans (Z5531 j (by omega))
  have q5535 : L5533 5 4 = 6642 := rdL_eq eL5533
  refine g_iinc (pc1 := 99) (v := 24) (lv' := [(0, .ref 4), (1, .int 4), (2, .int 24), (3, .int 114)]) d_Tokens_init_96 rfl 2 rfl (by decide) (by decide) [1, 2, 0, 3] rfl ?_
  refine g_goto (tgt := 43) d_Tokens_init_99 (by decide) ?_
  refine g_iload_n (pc1 := 44) d_Tokens_init_43 rfl 2 rfl ?_
  refine g_strlen (pc1 := 49) rfl d_Tokens_init_44 d_Tokens_init_46 rfl (Nat.le_of_ble_eq_true rfl) ⟨Nat.le_of_ble_eq_true rfl, Nat.le_of_ble_eq_true rfl⟩ ?_
  refine g_icmp_ge (pc1 := 52) (tgt := 102) d_Tokens_init_49 (by decide) rfl (fun h => absurd h (by decide)) (fun _ => ?_)
  refine g_strchr (pc1 := 58) (v := 99) rfl d_Tokens_init_52 d_Tokens_init_54 d_Tokens_init_55 rfl 2 rfl (by decide) (by decide) (by decide +kernel) (Nat.le_of_ble_eq_true rfl) ⟨Nat.le_of_ble_eq_true rfl, Nat.le_of_ble_eq_true rfl⟩ ?_
  refine g_istore_n (pc1 := 59) (lv' := [(0, .ref 4), (1, .int 4), (2, .int 24), (3, .int 99)]) d_Tokens_init_58 rfl rfl (by decide) [1, 2, 3, 0] rfl ?_
  refine g_iload_n (pc1 := 60) d_Tokens_init_59 rfl 3 rfl ?_
  refine g_bipush (pc1 := 62) (v := 32) d_Tokens_init_60 rfl (by decide) ?_
  refine g_icmp_ne (pc1 := 65) (tgt := 71) d_Tokens_init_62 (by decide) rfl (fun _ => ?_) (fun h => absurd h (by decide))
  refine g_iload_n (pc1 := 72) d_Tokens_init_71 rfl 1 rfl ?_
  refine g_aload_n (pc1 := 73) d_Tokens_init_72 rfl 0 rfl ?_
  refine g_getr (pc1 := 76) d_Tokens_init_73 rfl ⟨_, fo_Tokens_9⟩ sh_4 (by decide) q5474 ?_
  refine g_alen (pc1 := 77) (v := 21) d_Tokens_init_76 rfl sh_5 (by decide) (by decide) (by decide) (by decide) ?_
  refine g_icmp_ge (pc1 := 80) (tgt := 96) d_Tokens_init_77 (by decide) rfl (fun h => absurd h (by decide)) (fun _ => ?_)
  refine g_aload_n (pc1 := 81) d_Tokens_init_80 rfl 0 rfl ?_
  refine g_getr (pc1 := 84) d_Tokens_init_81 rfl ⟨_, fo_Tokens_9⟩ sh_4 (by decide) q5474 ?_
  refine g_iload_n (pc1 := 85) d_Tokens_init_84 rfl 1 rfl ?_
  refine g_aload_n (pc1 := 86) d_Tokens_init_85 rfl 0 rfl ?_
  refine g_getr (pc1 := 89) d_Tokens_init_86 rfl ⟨_, fo_Tokens_9⟩ sh_4 (by decide) q5474 ?_
  refine g_iload_n (pc1 := 90) d_Tokens_init_89 rfl 1 rfl ?_
  refine g_lald (pc1 := 91) d_Tokens_init_90 rfl sh_5 (by decide) (vin_lit (x := 4) (by decide)) ?_
  refine Wp.vall (y := 6642) (by rw [show (4 : Int32).toNatClampNeg = 4 from by decide]; exact q5535) ?_
  refine g_iload_n (pc1 := 92) d_Tokens_init_91 rfl 3 rfl ?_
  refine g_callS (pc1 := 95) (E' := (0, 0, 9)) (As := [.long 6642, .int 99]) (rest := [.int 4, .ref 5]) d_Tokens_init_92 rfl mo_Tokens_37 ms_Tokens_withLetter (by decide) rfl rfl (Nat.le_of_ble_eq_true rfl) ⟨Nat.le_of_ble_eq_true rfl, Nat.le_of_ble_eq_true rfl⟩ rfl ?_
  refine t0_withLetter ?_
  dsimp only [psh]
  refine Wp.vall (y := 212547) (by decide +kernel) ?_
  refine g_last (pc1 := 96) d_Tokens_init_95 rfl sh_5 (by decide) (vin_lit (x := 4) (by decide)) ?_
  rw [show ((4 : Int32).toNatClampNeg) = 4 from by decide]
  refine Wp.topL (fun L5536 eL5536 => ?_)
  have Z5537 : ∀ j : Nat, 4 < j → L5536 5 j = 0 := fun j hj => (rdL_ne eL5536 (fun q => by omega)).trans (Z5534 j (by omega))
  have q5538 : L5536 5 4 = 212547 := rdL_eq eL5536
  refine g_iinc (pc1 := 99) (v := 25) (lv' := [(0, .ref 4), (1, .int 4), (2, .int 25), (3, .int 99)]) d_Tokens_init_96 rfl 2 rfl (by decide) (by decide) [1, 2, 0, 3] rfl ?_
  refine g_goto (tgt := 43) d_Tokens_init_99 (by decide) ?_
  refine g_iload_n (pc1 := 44) d_Tokens_init_43 rfl 2 rfl ?_
  refine g_strlen (pc1 := 49) rfl d_Tokens_init_44 d_Tokens_init_46 rfl (Nat.le_of_ble_eq_true rfl) ⟨Nat.le_of_ble_eq_true rfl, Nat.le_of_ble_eq_true rfl⟩ ?_
  refine g_icmp_ge (pc1 := 52) (tgt := 102) d_Tokens_init_49 (by decide) rfl (fun h => absurd h (by decide)) (fun _ => ?_)
  refine g_strchr (pc1 := 58) (v := 101) rfl d_Tokens_init_52 d_Tokens_init_54 d_Tokens_init_55 rfl 2 rfl (by decide) (by decide) (by decide +kernel) (Nat.le_of_ble_eq_true rfl) ⟨Nat.le_of_ble_eq_true rfl, Nat.le_of_ble_eq_true rfl⟩ ?_
  refine g_istore_n (pc1 := 59) (lv' := [(0, .ref 4), (1, .int 4), (2, .int 25), (3, .int 101)]) d_Tokens_init_58 rfl rfl (by decide) [1, 2, 3, 0] rfl ?_
  refine g_iload_n (pc1 := 60) d_Tokens_init_59 rfl 3 rfl ?_
  refine g_bipush (pc1 := 62) (v := 32) d_Tokens_init_60 rfl (by decide) ?_
  refine g_icmp_ne (pc1 := 65) (tgt := 71) d_Tokens_init_62 (by decide) rfl (fun _ => ?_) (fun h => absurd h (by decide))
  refine g_iload_n (pc1 := 72) d_Tokens_init_71 rfl 1 rfl ?_
  refine g_aload_n (pc1 := 73) d_Tokens_init_72 rfl 0 rfl ?_
  refine g_getr (pc1 := 76) d_Tokens_init_73 rfl ⟨_, fo_Tokens_9⟩ sh_4 (by decide) q5474 ?_
  refine g_alen (pc1 := 77) (v := 21) d_Tokens_init_76 rfl sh_5 (by decide) (by decide) (by decide) (by decide) ?_
  refine g_icmp_ge (pc1 := 80) (tgt := 96) d_Tokens_init_77 (by decide) rfl (fun h => absurd h (by decide)) (fun _ => ?_)
  refine g_aload_n (pc1 := 81) d_Tokens_init_80 rfl 0 rfl ?_
  refine g_getr (pc1 := 84) d_Tokens_init_81 rfl ⟨_, fo_Tokens_9⟩ sh_4 (by decide) q5474 ?_
  refine g_iload_n (pc1 := 85) d_Tokens_init_84 rfl 1 rfl ?_
  refine g_aload_n (pc1 := 86) d_Tokens_init_85 rfl 0 rfl ?_
  refine g_getr (pc1 := 89) d_Tokens_init_86 rfl ⟨_, fo_Tokens_9⟩ sh_4 (by decide) q5474 ?_
  refine g_iload_n (pc1 := 90) d_Tokens_init_89 rfl 1 rfl ?_
  refine g_lald (pc1 := 91) d_Tokens_init_90 rfl sh_5 (by decide) (vin_lit (x := 4) (by decide)) ?_
  refine Wp.vall (y := 212547) (by rw [show (4 : Int32).toNatClampNeg = 4 from by decide]; exact q5538) ?_
  refine g_iload_n (pc1 := 92) d_Tokens_init_91 rfl 3 rfl ?_
  refine g_callS (pc1 := 95) (E' := (0, 0, 9)) (As := [.long 212547, .int 101]) (rest := [.int 4, .ref 5]) d_Tokens_init_92 rfl mo_Tokens_37 ms_Tokens_withLetter (by decide) rfl rfl (Nat.le_of_ble_eq_true rfl) ⟨Nat.le_of_ble_eq_true rfl, Nat.le_of_ble_eq_true rfl⟩ rfl ?_
  refine t0_withLetter ?_
  dsimp only [psh]
  refine Wp.vall (y := 6801509) (by decide +kernel) ?_
  refine g_last (pc1 := 96) d_Tokens_init_95 rfl sh_5 (by decide) (vin_lit (x := 4) (by decide)) ?_
  rw [show ((4 : Int32).toNatClampNeg) = 4 from by decide]
  refine Wp.topL (fun L5539 eL5539 => ?_)
  have Z5540 : ∀ j : Nat, 4 < j → L5539 5 j = 0 := fun j hj => (rdL_ne eL5539 (fun q => by omega)).trans (Z5537 j (by omega))
  have q5541 : L5539 5 4 = 6801509 := rdL_eq eL5539
  refine g_iinc (pc1 := 99) (v := 26) (lv' := [(0, .ref 4), (1, .int 4), (2, .int 26), (3, .int 101)]) d_Tokens_init_96 rfl 2 rfl (by decide) (by decide) [1, 2, 0, 3] rfl ?_
  refine g_goto (tgt := 43) d_Tokens_init_99 (by decide) ?_
  refine g_iload_n (pc1 := 44) d_Tokens_init_43 rfl 2 rfl ?_
  refine g_strlen (pc1 := 49) rfl d_Tokens_init_44 d_Tokens_init_46 rfl (Nat.le_of_ble_eq_true rfl) ⟨Nat.le_of_ble_eq_true rfl, Nat.le_of_ble_eq_true rfl⟩ ?_
  refine g_icmp_ge (pc1 := 52) (tgt := 102) d_Tokens_init_49 (by decide) rfl (fun h => absurd h (by decide)) (fun _ => ?_)
  refine g_strchr (pc1 := 58) (v := 32) rfl d_Tokens_init_52 d_Tokens_init_54 d_Tokens_init_55 rfl 2 rfl (by decide) (by decide) (by decide +kernel) (Nat.le_of_ble_eq_true rfl) ⟨Nat.le_of_ble_eq_true rfl, Nat.le_of_ble_eq_true rfl⟩ ?_
  refine g_istore_n (pc1 := 59) (lv' := [(0, .ref 4), (1, .int 4), (2, .int 26), (3, .int 32)]) d_Tokens_init_58 rfl rfl (by decide) [1, 2, 3, 0] rfl ?_
  refine g_iload_n (pc1 := 60) d_Tokens_init_59 rfl 3 rfl ?_
  refine g_bipush (pc1 := 62) (v := 32) d_Tokens_init_60 rfl (by decide) ?_
  refine g_icmp_ne (pc1 := 65) (tgt := 71) d_Tokens_init_62 (by decide) rfl (fun h => absurd h (by decide)) (fun _ => ?_)
  refine g_iinc (pc1 := 68) (v := 5) (lv' := [(0, .ref 4), (1, .int 5), (2, .int 26), (3, .int 32)]) d_Tokens_init_65 rfl 1 rfl (by decide) (by decide) [1, 0, 2, 3] rfl ?_
  refine g_goto (tgt := 96) d_Tokens_init_68 (by decide) ?_
  refine g_iinc (pc1 := 99) (v := 27) (lv' := [(0, .ref 4), (1, .int 5), (2, .int 27), (3, .int 32)]) d_Tokens_init_96 rfl 2 rfl (by decide) (by decide) [1, 2, 0, 3] rfl ?_
  refine g_goto (tgt := 43) d_Tokens_init_99 (by decide) ?_
  refine g_iload_n (pc1 := 44) d_Tokens_init_43 rfl 2 rfl ?_
  refine g_strlen (pc1 := 49) rfl d_Tokens_init_44 d_Tokens_init_46 rfl (Nat.le_of_ble_eq_true rfl) ⟨Nat.le_of_ble_eq_true rfl, Nat.le_of_ble_eq_true rfl⟩ ?_
  refine g_icmp_ge (pc1 := 52) (tgt := 102) d_Tokens_init_49 (by decide) rfl (fun h => absurd h (by decide)) (fun _ => ?_)
  refine g_strchr (pc1 := 58) (v := 98) rfl d_Tokens_init_52 d_Tokens_init_54 d_Tokens_init_55 rfl 2 rfl (by decide) (by decide) (by decide +kernel) (Nat.le_of_ble_eq_true rfl) ⟨Nat.le_of_ble_eq_true rfl, Nat.le_of_ble_eq_true rfl⟩ ?_
  refine g_istore_n (pc1 := 59) (lv' := [(0, .ref 4), (1, .int 5), (2, .int 27), (3, .int 98)]) d_Tokens_init_58 rfl rfl (by decide) [1, 2, 3, 0] rfl ?_
  refine g_iload_n (pc1 := 60) d_Tokens_init_59 rfl 3 rfl ?_
  refine g_bipush (pc1 := 62) (v := 32) d_Tokens_init_60 rfl (by decide) ?_
  refine g_icmp_ne (pc1 := 65) (tgt := 71) d_Tokens_init_62 (by decide) rfl (fun _ => ?_) (fun h => absurd h (by decide))
  refine g_iload_n (pc1 := 72) d_Tokens_init_71 rfl 1 rfl ?_
  refine g_aload_n (pc1 := 73) d_Tokens_init_72 rfl 0 rfl ?_
  refine g_getr (pc1 := 76) d_Tokens_init_73 rfl ⟨_, fo_Tokens_9⟩ sh_4 (by decide) q5474 ?_
  refine g_alen (pc1 := 77) (v := 21) d_Tokens_init_76 rfl sh_5 (by decide) (by decide) (by decide) (by decide) ?_
  refine g_icmp_ge (pc1 := 80) (tgt := 96) d_Tokens_init_77 (by decide) rfl (fun h => absurd h (by decide)) (fun _ => ?_)
  refine g_aload_n (pc1 := 81) d_Tokens_init_80 rfl 0 rfl ?_
  refine g_getr (pc1 := 84) d_Tokens_init_81 rfl ⟨_, fo_Tokens_9⟩ sh_4 (by decide) q5474 ?_
  refine g_iload_n (pc1 := 85) d_Tokens_init_84 rfl 1 rfl ?_
  refine g_aload_n (pc1 := 86) d_Tokens_init_85 rfl 0 rfl ?_
  refine g_getr (pc1 := 89) d_Tokens_init_86 rfl ⟨_, fo_Tokens_9⟩ sh_4 (by decide) q5474 ?_
  refine g_iload_n (pc1 := 90) d_Tokens_init_89 rfl 1 rfl ?_
  refine g_lald (pc1 := 91) d_Tokens_init_90 rfl sh_5 (by decide) (vin_lit (x := 5) (by decide)) ?_
  refine Wp.vall (y := 0) (by rw [show (5 : Int32).toNatClampNeg = 5 from by decide]; exact (Z5540 5 (by decide))) ?_
  refine g_iload_n (pc1 := 92) d_Tokens_init_91 rfl 3 rfl ?_
  refine g_callS (pc1 := 95) (E' := (0, 0, 9)) (As := [.long 0, .int 98]) (rest := [.int 5, .ref 5]) d_Tokens_init_92 rfl mo_Tokens_37 ms_Tokens_withLetter (by decide) rfl rfl (Nat.le_of_ble_eq_true rfl) ⟨Nat.le_of_ble_eq_true rfl, Nat.le_of_ble_eq_true rfl⟩ rfl ?_
  refine t0_withLetter ?_
  dsimp only [psh]
  refine Wp.vall (y := 2) (by decide +kernel) ?_
  refine g_last (pc1 := 96) d_Tokens_init_95 rfl sh_5 (by decide) (vin_lit (x := 5) (by decide)) ?_
  rw [show ((5 : Int32).toNatClampNeg) = 5 from by decide]
  refine Wp.topL (fun L5542 eL5542 => ?_)
  have Z5543 : ∀ j : Nat, 5 < j → L5542 5 j = 0 := fun j hj => (rdL_ne eL5542 (fun q => by omega)).trans (Z5540 j (by omega))
  have q5544 : L5542 5 5 = 2 := rdL_eq eL5542
  refine g_iinc (pc1 := 99) (v := 28) (lv' := [(0, .ref 4), (1, .int 5), (2, .int 28), (3, .int 98)]) d_Tokens_init_96 rfl 2 rfl (by decide) (by decide) [1, 2, 0, 3] rfl ?_
  refine g_goto (tgt := 43) d_Tokens_init_99 (by decide) ?_
  refine g_iload_n (pc1 := 44) d_Tokens_init_43 rfl 2 rfl ?_
  refine g_strlen (pc1 := 49) rfl d_Tokens_init_44 d_Tokens_init_46 rfl (Nat.le_of_ble_eq_true rfl) ⟨Nat.le_of_ble_eq_true rfl, Nat.le_of_ble_eq_true rfl⟩ ?_
  refine g_icmp_ge (pc1 := 52) (tgt := 102) d_Tokens_init_49 (by decide) rfl (fun h => absurd h (by decide)) (fun _ => ?_)
  refine g_strchr (pc1 := 58) (v := 105) rfl d_Tokens_init_52 d_Tokens_init_54 d_Tokens_init_55 rfl 2 rfl (by decide) (by decide) (by decide +kernel) (Nat.le_of_ble_eq_true rfl) ⟨Nat.le_of_ble_eq_true rfl, Nat.le_of_ble_eq_true rfl⟩ ?_
  refine g_istore_n (pc1 := 59) (lv' := [(0, .ref 4), (1, .int 5), (2, .int 28), (3, .int 105)]) d_Tokens_init_58 rfl rfl (by decide) [1, 2, 3, 0] rfl ?_
  refine g_iload_n (pc1 := 60) d_Tokens_init_59 rfl 3 rfl ?_
  refine g_bipush (pc1 := 62) (v := 32) d_Tokens_init_60 rfl (by decide) ?_
  refine g_icmp_ne (pc1 := 65) (tgt := 71) d_Tokens_init_62 (by decide) rfl (fun _ => ?_) (fun h => absurd h (by decide))
  refine g_iload_n (pc1 := 72) d_Tokens_init_71 rfl 1 rfl ?_
  refine g_aload_n (pc1 := 73) d_Tokens_init_72 rfl 0 rfl ?_
  refine g_getr (pc1 := 76) d_Tokens_init_73 rfl ⟨_, fo_Tokens_9⟩ sh_4 (by decide) q5474 ?_
  refine g_alen (pc1 := 77) (v := 21) d_Tokens_init_76 rfl sh_5 (by decide) (by decide) (by decide) (by decide) ?_
  refine g_icmp_ge (pc1 := 80) (tgt := 96) d_Tokens_init_77 (by decide) rfl (fun h => absurd h (by decide)) (fun _ => ?_)
  refine g_aload_n (pc1 := 81) d_Tokens_init_80 rfl 0 rfl ?_
  refine g_getr (pc1 := 84) d_Tokens_init_81 rfl ⟨_, fo_Tokens_9⟩ sh_4 (by decide) q5474 ?_
  refine g_iload_n (pc1 := 85) d_Tokens_init_84 rfl 1 rfl ?_
  refine g_aload_n (pc1 := 86) d_Tokens_init_85 rfl 0 rfl ?_
  refine g_getr (pc1 := 89) d_Tokens_init_86 rfl ⟨_, fo_Tokens_9⟩ sh_4 (by decide) q5474 ?_
  refine g_iload_n (pc1 := 90) d_Tokens_init_89 rfl 1 rfl ?_
  refine g_lald (pc1 := 91) d_Tokens_init_90 rfl sh_5 (by decide) (vin_lit (x := 5) (by decide)) ?_
  refine Wp.vall (y := 2) (by rw [show (5 : Int32).toNatClampNeg = 5 from by decide]; exact q5544) ?_
  refine g_iload_n (pc1 := 92) d_Tokens_init_91 rfl 3 rfl ?_
  refine g_callS (pc1 := 95) (E' := (0, 0, 9)) (As := [.long 2, .int 105]) (rest := [.int 5, .ref 5]) d_Tokens_init_92 rfl mo_Tokens_37 ms_Tokens_withLetter (by decide) rfl rfl (Nat.le_of_ble_eq_true rfl) ⟨Nat.le_of_ble_eq_true rfl, Nat.le_of_ble_eq_true rfl⟩ rfl ?_
  refine t0_withLetter ?_
  dsimp only [psh]
  refine Wp.vall (y := 73) (by decide +kernel) ?_
  refine g_last (pc1 := 96) d_Tokens_init_95 rfl sh_5 (by decide) (vin_lit (x := 5) (by decide)) ?_
  rw [show ((5 : Int32).toNatClampNeg) = 5 from by decide]
  refine Wp.topL (fun L5545 eL5545 => ?_)
  have Z5546 : ∀ j : Nat, 5 < j → L5545 5 j = 0 := fun j hj => (rdL_ne eL5545 (fun q => by omega)).trans (Z5543 j (by omega))
  have q5547 : L5545 5 5 = 73 := rdL_eq eL5545
  refine g_iinc (pc1 := 99) (v := 29) (lv' := [(0, .ref 4), (1, .int 5), (2, .int 29), (3, .int 105)]) d_Tokens_init_96 rfl 2 rfl (by decide) (by decide) [1, 2, 0, 3] rfl ?_
  refine g_goto (tgt := 43) d_Tokens_init_99 (by decide) ?_
  refine g_iload_n (pc1 := 44) d_Tokens_init_43 rfl 2 rfl ?_
  refine g_strlen (pc1 := 49) rfl d_Tokens_init_44 d_Tokens_init_46 rfl (Nat.le_of_ble_eq_true rfl) ⟨Nat.le_of_ble_eq_true rfl, Nat.le_of_ble_eq_true rfl⟩ ?_
  refine g_icmp_ge (pc1 := 52) (tgt := 102) d_Tokens_init_49 (by decide) rfl (fun h => absurd h (by decide)) (fun _ => ?_)
  refine g_strchr (pc1 := 58) (v := 110) rfl d_Tokens_init_52 d_Tokens_init_54 d_Tokens_init_55 rfl 2 rfl (by decide) (by decide) (by decide +kernel) (Nat.le_of_ble_eq_true rfl) ⟨Nat.le_of_ble_eq_true rfl, Nat.le_of_ble_eq_true rfl⟩ ?_
  refine g_istore_n (pc1 := 59) (lv' := [(0, .ref 4), (1, .int 5), (2, .int 29), (3, .int 110)]) d_Tokens_init_58 rfl rfl (by decide) [1, 2, 3, 0] rfl ?_
  refine g_iload_n (pc1 := 60) d_Tokens_init_59 rfl 3 rfl ?_
  refine g_bipush (pc1 := 62) (v := 32) d_Tokens_init_60 rfl (by decide) ?_
  refine g_icmp_ne (pc1 := 65) (tgt := 71) d_Tokens_init_62 (by decide) rfl (fun _ => ?_) (fun h => absurd h (by decide))
  refine g_iload_n (pc1 := 72) d_Tokens_init_71 rfl 1 rfl ?_
  refine g_aload_n (pc1 := 73) d_Tokens_init_72 rfl 0 rfl ?_
  refine g_getr (pc1 := 76) d_Tokens_init_73 rfl ⟨_, fo_Tokens_9⟩ sh_4 (by decide) q5474 ?_
  refine g_alen (pc1 := 77) (v := 21) d_Tokens_init_76 rfl sh_5 (by decide) (by decide) (by decide) (by decide) ?_
  refine g_icmp_ge (pc1 := 80) (tgt := 96) d_Tokens_init_77 (by decide) rfl (fun h => absurd h (by decide)) (fun _ => ?_)
  refine g_aload_n (pc1 := 81) d_Tokens_init_80 rfl 0 rfl ?_
  refine g_getr (pc1 := 84) d_Tokens_init_81 rfl ⟨_, fo_Tokens_9⟩ sh_4 (by decide) q5474 ?_
  refine g_iload_n (pc1 := 85) d_Tokens_init_84 rfl 1 rfl ?_
  refine g_aload_n (pc1 := 86) d_Tokens_init_85 rfl 0 rfl ?_
  refine g_getr (pc1 := 89) d_Tokens_init_86 rfl ⟨_, fo_Tokens_9⟩ sh_4 (by decide) q5474 ?_
  refine g_iload_n (pc1 := 90) d_Tokens_init_89 rfl 1 rfl ?_
  refine g_lald (pc1 := 91) d_Tokens_init_90 rfl sh_5 (by decide) (vin_lit (x := 5) (by decide)) ?_
  refine Wp.vall (y := 73) (by rw [show (5 : Int32).toNatClampNeg = 5 from by decide]; exact q5547) ?_
  refine g_iload_n (pc1 := 92) d_Tokens_init_91 rfl 3 rfl ?_
  refine g_callS (pc1 := 95) (E' := (0, 0, 9)) (As := [.long 73, .int 110]) (rest := [.int 5, .ref 5]) d_Tokens_init_92 rfl mo_Tokens_37 ms_Tokens_withLetter (by decide) rfl rfl (Nat.le_of_ble_eq_true rfl) ⟨Nat.le_of_ble_eq_true rfl, Nat.le_of_ble_eq_true rfl⟩ rfl ?_
  refine t0_withLetter ?_
  dsimp only [psh]
  refine Wp.vall (y := 2350) (by decide +kernel) ?_
  refine g_last (pc1 := 96) d_Tokens_init_95 rfl sh_5 (by decide) (vin_lit (x := 5) (by decide)) ?_
  rw [show ((5 : Int32).toNatClampNeg) = 5 from by decide]
  refine Wp.topL (fun L5548 eL5548 => ?_)
  have Z5549 : ∀ j : Nat, 5 < j → L5548 5 j = 0 := fun j hj => (rdL_ne eL5548 (fun q => by omega)).trans (Z5546 j (by omega))
  have q5550 : L5548 5 5 = 2350 := rdL_eq eL5548
  refine g_iinc (pc1 := 99) (v := 30) (lv' := [(0, .ref 4), (1, .int 5), (2, .int 30), (3, .int 110)]) d_Tokens_init_96 rfl 2 rfl (by decide) (by decide) [1, 2, 0, 3] rfl ?_
  refine g_goto (tgt := 43) d_Tokens_init_99 (by decide) ?_
  refine g_iload_n (pc1 := 44) d_Tokens_init_43 rfl 2 rfl ?_
  refine g_strlen (pc1 := 49) rfl d_Tokens_init_44 d_Tokens_init_46 rfl (Nat.le_of_ble_eq_true rfl) ⟨Nat.le_of_ble_eq_true rfl, Nat.le_of_ble_eq_true rfl⟩ ?_
  refine g_icmp_ge (pc1 := 52) (tgt := 102) d_Tokens_init_49 (by decide) rfl (fun h => absurd h (by decide)) (fun _ => ?_)
  refine g_strchr (pc1 := 58) (v := 100) rfl d_Tokens_init_52 d_Tokens_init_54 d_Tokens_init_55 rfl 2 rfl (by decide) (by decide) (by decide +kernel) (Nat.le_of_ble_eq_true rfl) ⟨Nat.le_of_ble_eq_true rfl, Nat.le_of_ble_eq_true rfl⟩ ?_
  refine g_istore_n (pc1 := 59) (lv' := [(0, .ref 4), (1, .int 5), (2, .int 30), (3, .int 100)]) d_Tokens_init_58 rfl rfl (by decide) [1, 2, 3, 0] rfl ?_
  refine g_iload_n (pc1 := 60) d_Tokens_init_59 rfl 3 rfl ?_
  refine g_bipush (pc1 := 62) (v := 32) d_Tokens_init_60 rfl (by decide) ?_
  refine g_icmp_ne (pc1 := 65) (tgt := 71) d_Tokens_init_62 (by decide) rfl (fun _ => ?_) (fun h => absurd h (by decide))
  refine g_iload_n (pc1 := 72) d_Tokens_init_71 rfl 1 rfl ?_
  refine g_aload_n (pc1 := 73) d_Tokens_init_72 rfl 0 rfl ?_
  refine g_getr (pc1 := 76) d_Tokens_init_73 rfl ⟨_, fo_Tokens_9⟩ sh_4 (by decide) q5474 ?_
  refine g_alen (pc1 := 77) (v := 21) d_Tokens_init_76 rfl sh_5 (by decide) (by decide) (by decide) (by decide) ?_
  refine g_icmp_ge (pc1 := 80) (tgt := 96) d_Tokens_init_77 (by decide) rfl (fun h => absurd h (by decide)) (fun _ => ?_)
  refine g_aload_n (pc1 := 81) d_Tokens_init_80 rfl 0 rfl ?_
  refine g_getr (pc1 := 84) d_Tokens_init_81 rfl ⟨_, fo_Tokens_9⟩ sh_4 (by decide) q5474 ?_
  refine g_iload_n (pc1 := 85) d_Tokens_init_84 rfl 1 rfl ?_
  refine g_aload_n (pc1 := 86) d_Tokens_init_85 rfl 0 rfl ?_
  refine g_getr (pc1 := 89) d_Tokens_init_86 rfl ⟨_, fo_Tokens_9⟩ sh_4 (by decide) q5474 ?_
  refine g_iload_n (pc1 := 90) d_Tokens_init_89 rfl 1 rfl ?_
  refine g_lald (pc1 := 91) d_Tokens_init_90 rfl sh_5 (by decide) (vin_lit (x := 5) (by decide)) ?_
  refine Wp.vall (y := 2350) (by rw [show (5 : Int32).toNatClampNeg = 5 from by decide]; exact q5550) ?_
  refine g_iload_n (pc1 := 92) d_Tokens_init_91 rfl 3 rfl ?_
  refine g_callS (pc1 := 95) (E' := (0, 0, 9)) (As := [.long 2350, .int 100]) (rest := [.int 5, .ref 5]) d_Tokens_init_92 rfl mo_Tokens_37 ms_Tokens_withLetter (by decide) rfl rfl (Nat.le_of_ble_eq_true rfl) ⟨Nat.le_of_ble_eq_true rfl, Nat.le_of_ble_eq_true rfl⟩ rfl ?_
  refine t0_withLetter ?_
  dsimp only [psh]
  refine Wp.vall (y := 75204) (by decide +kernel) ?_
  refine g_last (pc1 := 96) d_Tokens_init_95 rfl sh_5 (by decide) (vin_lit (x := 5) (by decide)) ?_
  rw [show ((5 : Int32).toNatClampNeg) = 5 from by decide]
  refine Wp.topL (fun L5551 eL5551 => ?_)
  have Z5552 : ∀ j : Nat, 5 < j → L5551 5 j = 0 := fun j hj => (rdL_ne eL5551 (fun q => by omega)).trans (Z5549 j (by omega))
  have q5553 : L5551 5 5 = 75204 := rdL_eq eL5551
  refine g_iinc (pc1 := 99) (v := 31) (lv' := [(0, .ref 4), (1, .int 5), (2, .int 31), (3, .int 100)]) d_Tokens_init_96 rfl 2 rfl (by decide) (by decide) [1, 2, 0, 3] rfl ?_
  refine g_goto (tgt := 43) d_Tokens_init_99 (by decide) ?_
  refine g_iload_n (pc1 := 44) d_Tokens_init_43 rfl 2 rfl ?_
  refine g_strlen (pc1 := 49) rfl d_Tokens_init_44 d_Tokens_init_46 rfl (Nat.le_of_ble_eq_true rfl) ⟨Nat.le_of_ble_eq_true rfl, Nat.le_of_ble_eq_true rfl⟩ ?_
  refine g_icmp_ge (pc1 := 52) (tgt := 102) d_Tokens_init_49 (by decide) rfl (fun h => absurd h (by decide)) (fun _ => ?_)
  refine g_strchr (pc1 := 58) (v := 115) rfl d_Tokens_init_52 d_Tokens_init_54 d_Tokens_init_55 rfl 2 rfl (by decide) (by decide) (by decide +kernel) (Nat.le_of_ble_eq_true rfl) ⟨Nat.le_of_ble_eq_true rfl, Nat.le_of_ble_eq_true rfl⟩ ?_
  refine g_istore_n (pc1 := 59) (lv' := [(0, .ref 4), (1, .int 5), (2, .int 31), (3, .int 115)]) d_Tokens_init_58 rfl rfl (by decide) [1, 2, 3, 0] rfl ?_
  refine g_iload_n (pc1 := 60) d_Tokens_init_59 rfl 3 rfl ?_
  refine g_bipush (pc1 := 62) (v := 32) d_Tokens_init_60 rfl (by decide) ?_
  refine g_icmp_ne (pc1 := 65) (tgt := 71) d_Tokens_init_62 (by decide) rfl (fun _ => ?_) (fun h => absurd h (by decide))
  refine g_iload_n (pc1 := 72) d_Tokens_init_71 rfl 1 rfl ?_
  refine g_aload_n (pc1 := 73) d_Tokens_init_72 rfl 0 rfl ?_
  refine g_getr (pc1 := 76) d_Tokens_init_73 rfl ⟨_, fo_Tokens_9⟩ sh_4 (by decide) q5474 ?_
  refine g_alen (pc1 := 77) (v := 21) d_Tokens_init_76 rfl sh_5 (by decide) (by decide) (by decide) (by decide) ?_
  refine g_icmp_ge (pc1 := 80) (tgt := 96) d_Tokens_init_77 (by decide) rfl (fun h => absurd h (by decide)) (fun _ => ?_)
  refine g_aload_n (pc1 := 81) d_Tokens_init_80 rfl 0 rfl ?_
  refine g_getr (pc1 := 84) d_Tokens_init_81 rfl ⟨_, fo_Tokens_9⟩ sh_4 (by decide) q5474 ?_
  refine g_iload_n (pc1 := 85) d_Tokens_init_84 rfl 1 rfl ?_
  refine g_aload_n (pc1 := 86) d_Tokens_init_85 rfl 0 rfl ?_
  refine g_getr (pc1 := 89) d_Tokens_init_86 rfl ⟨_, fo_Tokens_9⟩ sh_4 (by decide) q5474 ?_
  refine g_iload_n (pc1 := 90) d_Tokens_init_89 rfl 1 rfl ?_
  refine g_lald (pc1 := 91) d_Tokens_init_90 rfl sh_5 (by decide) (vin_lit (x := 5) (by decide)) ?_
  refine Wp.vall (y := 75204) (by rw [show (5 : Int32).toNatClampNeg = 5 from by decide]; exact q5553) ?_
  refine g_iload_n (pc1 := 92) d_Tokens_init_91 rfl 3 rfl ?_
  refine g_callS (pc1 := 95) (E' := (0, 0, 9)) (As := [.long 75204, .int 115]) (rest := [.int 5, .ref 5]) d_Tokens_init_92 rfl mo_Tokens_37 ms_Tokens_withLetter (by decide) rfl rfl (Nat.le_of_ble_eq_true rfl) ⟨Nat.le_of_ble_eq_true rfl, Nat.le_of_ble_eq_true rfl⟩ rfl ?_
  refine t0_withLetter ?_
  dsimp only [psh]
  refine Wp.vall (y := 2406547) (by decide +kernel) ?_
  refine g_last (pc1 := 96) d_Tokens_init_95 rfl sh_5 (by decide) (vin_lit (x := 5) (by decide)) ?_
  rw [show ((5 : Int32).toNatClampNeg) = 5 from by decide]
  refine Wp.topL (fun L5554 eL5554 => ?_)
  have Z5555 : ∀ j : Nat, 5 < j → L5554 5 j = 0 := fun j hj => (rdL_ne eL5554 (fun q => by omega)).trans (Z5552 j (by omega))
  have q5556 : L5554 5 5 = 2406547 := rdL_eq eL5554
  refine g_iinc (pc1 := 99) (v := 32) (lv' := [(0, .ref 4), (1, .int 5), (2, .int 32), (3, .int 115)]) d_Tokens_init_96 rfl 2 rfl (by decide) (by decide) [1, 2, 0, 3] rfl ?_
  refine g_goto (tgt := 43) d_Tokens_init_99 (by decide) ?_
  refine g_iload_n (pc1 := 44) d_Tokens_init_43 rfl 2 rfl ?_
  refine g_strlen (pc1 := 49) rfl d_Tokens_init_44 d_Tokens_init_46 rfl (Nat.le_of_ble_eq_true rfl) ⟨Nat.le_of_ble_eq_true rfl, Nat.le_of_ble_eq_true rfl⟩ ?_
  refine g_icmp_ge (pc1 := 52) (tgt := 102) d_Tokens_init_49 (by decide) rfl (fun h => absurd h (by decide)) (fun _ => ?_)
  refine g_strchr (pc1 := 58) (v := 32) rfl d_Tokens_init_52 d_Tokens_init_54 d_Tokens_init_55 rfl 2 rfl (by decide) (by decide) (by decide +kernel) (Nat.le_of_ble_eq_true rfl) ⟨Nat.le_of_ble_eq_true rfl, Nat.le_of_ble_eq_true rfl⟩ ?_
  refine g_istore_n (pc1 := 59) (lv' := [(0, .ref 4), (1, .int 5), (2, .int 32), (3, .int 32)]) d_Tokens_init_58 rfl rfl (by decide) [1, 2, 3, 0] rfl ?_
  refine g_iload_n (pc1 := 60) d_Tokens_init_59 rfl 3 rfl ?_
  refine g_bipush (pc1 := 62) (v := 32) d_Tokens_init_60 rfl (by decide) ?_
  refine g_icmp_ne (pc1 := 65) (tgt := 71) d_Tokens_init_62 (by decide) rfl (fun h => absurd h (by decide)) (fun _ => ?_)
  refine g_iinc (pc1 := 68) (v := 6) (lv' := [(0, .ref 4), (1, .int 6), (2, .int 32), (3, .int 32)]) d_Tokens_init_65 rfl 1 rfl (by decide) (by decide) [1, 0, 2, 3] rfl ?_
  refine g_goto (tgt := 96) d_Tokens_init_68 (by decide) ?_
  refine g_iinc (pc1 := 99) (v := 33) (lv' := [(0, .ref 4), (1, .int 6), (2, .int 33), (3, .int 32)]) d_Tokens_init_96 rfl 2 rfl (by decide) (by decide) [1, 2, 0, 3] rfl ?_
  refine g_goto (tgt := 43) d_Tokens_init_99 (by decide) ?_
  refine g_iload_n (pc1 := 44) d_Tokens_init_43 rfl 2 rfl ?_
  refine g_strlen (pc1 := 49) rfl d_Tokens_init_44 d_Tokens_init_46 rfl (Nat.le_of_ble_eq_true rfl) ⟨Nat.le_of_ble_eq_true rfl, Nat.le_of_ble_eq_true rfl⟩ ?_
  refine g_icmp_ge (pc1 := 52) (tgt := 102) d_Tokens_init_49 (by decide) rfl (fun h => absurd h (by decide)) (fun _ => ?_)
  refine g_strchr (pc1 := 58) (v := 102) rfl d_Tokens_init_52 d_Tokens_init_54 d_Tokens_init_55 rfl 2 rfl (by decide) (by decide) (by decide +kernel) (Nat.le_of_ble_eq_true rfl) ⟨Nat.le_of_ble_eq_true rfl, Nat.le_of_ble_eq_true rfl⟩ ?_
  refine g_istore_n (pc1 := 59) (lv' := [(0, .ref 4), (1, .int 6), (2, .int 33), (3, .int 102)]) d_Tokens_init_58 rfl rfl (by decide) [1, 2, 3, 0] rfl ?_
  refine g_iload_n (pc1 := 60) d_Tokens_init_59 rfl 3 rfl ?_
  refine g_bipush (pc1 := 62) (v := 32) d_Tokens_init_60 rfl (by decide) ?_
  refine g_icmp_ne (pc1 := 65) (tgt := 71) d_Tokens_init_62 (by decide) rfl (fun _ => ?_) (fun h => absurd h (by decide))
  refine g_iload_n (pc1 := 72) d_Tokens_init_71 rfl 1 rfl ?_
  refine g_aload_n (pc1 := 73) d_Tokens_init_72 rfl 0 rfl ?_
  refine g_getr (pc1 := 76) d_Tokens_init_73 rfl ⟨_, fo_Tokens_9⟩ sh_4 (by decide) q5474 ?_
  refine g_alen (pc1 := 77) (v := 21) d_Tokens_init_76 rfl sh_5 (by decide) (by decide) (by decide) (by decide) ?_
  refine g_icmp_ge (pc1 := 80) (tgt := 96) d_Tokens_init_77 (by decide) rfl (fun h => absurd h (by decide)) (fun _ => ?_)
  refine g_aload_n (pc1 := 81) d_Tokens_init_80 rfl 0 rfl ?_
  refine g_getr (pc1 := 84) d_Tokens_init_81 rfl ⟨_, fo_Tokens_9⟩ sh_4 (by decide) q5474 ?_
  refine g_iload_n (pc1 := 85) d_Tokens_init_84 rfl 1 rfl ?_
  refine g_aload_n (pc1 := 86) d_Tokens_init_85 rfl 0 rfl ?_
  refine g_getr (pc1 := 89) d_Tokens_init_86 rfl ⟨_, fo_Tokens_9⟩ sh_4 (by decide) q5474 ?_
  refine g_iload_n (pc1 := 90) d_Tokens_init_89 rfl 1 rfl ?_
  refine g_lald (pc1 := 91) d_Tokens_init_90 rfl sh_5 (by decide) (vin_lit (x := 6) (by decide)) ?_
  refine Wp.vall (y := 0) (by rw [show (6 : Int32).toNatClampNeg = 6 from by decide]; exact (Z5555 6 (by decide))) ?_
  refine g_iload_n (pc1 := 92) d_Tokens_init_91 rfl 3 rfl ?_
  refine g_callS (pc1 := 95) (E' := (0, 0, 9)) (As := [.long 0, .int 102]) (rest := [.int 6, .ref 5]) d_Tokens_init_92 rfl mo_Tokens_37 ms_Tokens_withLetter (by decide) rfl rfl (Nat.le_of_ble_eq_true rfl) ⟨Nat.le_of_ble_eq_true rfl, Nat.le_of_ble_eq_true rfl⟩ rfl ?_
  refine t0_withLetter ?_
  dsimp only [psh]
  refine Wp.vall (y := 6) (by decide +kernel) ?_
  refine g_last (pc1 := 96) d_Tokens_init_95 rfl sh_5 (by decide) (vin_lit (x := 6) (by decide)) ?_
  rw [show ((6 : Int32).toNatClampNeg) = 6 from by decide]
  refine Wp.topL (fun L5557 eL5557 => ?_)
  have Z5558 : ∀ j : Nat, 6 < j → L5557 5 j = 0 := fun j hj => (rdL_ne eL5557 (fun q => by omega)).trans (Z5555 j (by omega))
  have q5559 : L5557 5 6 = 6 := rdL_eq eL5557
  refine g_iinc (pc1 := 99) (v := 34) (lv' := [(0, .ref 4), (1, .int 6), (2, .int 34), (3, .int 102)]) d_Tokens_init_96 rfl 2 rfl (by decide) (by decide) [1, 2, 0, 3] rfl ?_
  refine g_goto (tgt := 43) d_Tokens_init_99 (by decide) ?_
  refine g_iload_n (pc1 := 44) d_Tokens_init_43 rfl 2 rfl ?_
  refine g_strlen (pc1 := 49) rfl d_Tokens_init_44 d_Tokens_init_46 rfl (Nat.le_of_ble_eq_true rfl) ⟨Nat.le_of_ble_eq_true rfl, Nat.le_of_ble_eq_true rfl⟩ ?_
  refine g_icmp_ge (pc1 := 52) (tgt := 102) d_Tokens_init_49 (by decide) rfl (fun h => absurd h (by decide)) (fun _ => ?_)
  refine g_strchr (pc1 := 58) (v := 105) rfl d_Tokens_init_52 d_Tokens_init_54 d_Tokens_init_55 rfl 2 rfl (by decide) (by decide) (by decide +kernel) (Nat.le_of_ble_eq_true rfl) ⟨Nat.le_of_ble_eq_true rfl, Nat.le_of_ble_eq_true rfl⟩ ?_
  refine g_istore_n (pc1 := 59) (lv' := [(0, .ref 4), (1, .int 6), (2, .int 34), (3, .int 105)]) d_Tokens_init_58 rfl rfl (by decide) [1, 2, 3, 0] rfl ?_
  refine g_iload_n (pc1 := 60) d_Tokens_init_59 rfl 3 rfl ?_
  refine g_bipush (pc1 := 62) (v := 32) d_Tokens_init_60 rfl (by decide) ?_
  refine g_icmp_ne (pc1 := 65) (tgt := 71) d_Tokens_init_62 (by decide) rfl (fun _ => ?_) (fun h => absurd h (by decide))
  refine g_iload_n (pc1 := 72) d_Tokens_init_71 rfl 1 rfl ?_
  refine g_aload_n (pc1 := 73) d_Tokens_init_72 rfl 0 rfl ?_
  refine g_getr (pc1 := 76) d_Tokens_init_73 rfl ⟨_, fo_Tokens_9⟩ sh_4 (by decide) q5474 ?_
  refine g_alen (pc1 := 77) (v := 21) d_Tokens_init_76 rfl sh_5 (by decide) (by decide) (by decide) (by decide) ?_
  refine g_icmp_ge (pc1 := 80) (tgt := 96) d_Tokens_init_77 (by decide) rfl (fun h => absurd h (by decide)) (fun _ => ?_)
  refine g_aload_n (pc1 := 81) d_Tokens_init_80 rfl 0 rfl ?_
  refine g_getr (pc1 := 84) d_Tokens_init_81 rfl ⟨_, fo_Tokens_9⟩ sh_4 (by decide) q5474 ?_
  refine g_iload_n (pc1 := 85) d_Tokens_init_84 rfl 1 rfl ?_
  refine g_aload_n (pc1 := 86) d_Tokens_init_85 rfl 0 rfl ?_
  refine g_getr (pc1 := 89) d_Tokens_init_86 rfl ⟨_, fo_Tokens_9⟩ sh_4 (by decide) q5474 ?_
  refine g_iload_n (pc1 := 90) d_Tokens_init_89 rfl 1 rfl ?_
  refine g_lald (pc1 := 91) d_Tokens_init_90 rfl sh_5 (by decide) (vin_lit (x := 6) (by decide)) ?_
  refine Wp.vall (y := 6) (by rw [show (6 : Int32).toNatClampNeg = 6 from by decide]; exact q5559) ?_
  refine g_iload_n (pc1 := 92) d_Tokens_init_91 rfl 3 rfl ?_
  refine g_callS (pc1 := 95) (E' := (0, 0, 9)) (As := [.long 6, .int 105]) (rest := [.int 6, .ref 5]) d_Tokens_init_92 rfl mo_Tokens_37 ms_Tokens_withLetter (by decide) rfl rfl (Nat.le_of_ble_eq_true rfl) ⟨Nat.le_of_ble_eq_true rfl, Nat.le_of_ble_eq_true rfl⟩ rfl ?_
  refine t0_withLetter ?_
  dsimp only [psh]
  refine Wp.vall (y := 201) (by decide +kernel) ?_
  refine g_last (pc1 := 96) d_Tokens_init_95 rfl sh_5 (by decide) (vin_lit (x := 6) (by decide)) ?_
  rw [show ((6 : Int32).toNatClampNeg) = 6 from by decide]
  refine Wp.topL (fun L5560 eL5560 => ?_)
  have Z5561 : ∀ j : Nat, 6 < j → L5560 5 j = 0 := fun j hj => (rdL_ne eL5560 (fun q => by omega)).trans (Z5558 j (by omega))
  have q5562 : L5560 5 6 = 201 := rdL_eq eL5560
  refine g_iinc (pc1 := 99) (v := 35) (lv' := [(0, .ref 4), (1, .int 6), (2, .int 35), (3, .int 105)]) d_Tokens_init_96 rfl 2 rfl (by decide) (by decide) [1, 2, 0, 3] rfl ?_
  refine g_goto (tgt := 43) d_Tokens_init_99 (by decide) ?_
  refine g_iload_n (pc1 := 44) d_Tokens_init_43 rfl 2 rfl ?_
  refine g_strlen (pc1 := 49) rfl d_Tokens_init_44 d_Tokens_init_46 rfl (Nat.le_of_ble_eq_true rfl) ⟨Nat.le_of_ble_eq_true rfl, Nat.le_of_ble_eq_true rfl⟩ ?_
  refine g_icmp_ge (pc1 := 52) (tgt := 102) d_Tokens_init_49 (by decide) rfl (fun h => absurd h (by decide)) (fun _ => ?_)
  refine g_strchr (pc1 := 58) (v := 108) rfl d_Tokens_init_52 d_Tokens_init_54 d_Tokens_init_55 rfl 2 rfl (by decide) (by decide) (by decide +kernel) (Nat.le_of_ble_eq_true rfl) ⟨Nat.le_of_ble_eq_true rfl, Nat.le_of_ble_eq_true rfl⟩ ?_
  refine g_istore_n (pc1 := 59) (lv' := [(0, .ref 4), (1, .int 6), (2, .int 35), (3, .int 108)]) d_Tokens_init_58 rfl rfl (by decide) [1, 2, 3, 0] rfl ?_
  refine g_iload_n (pc1 := 60) d_Tokens_init_59 rfl 3 rfl ?_
  refine g_bipush (pc1 := 62) (v := 32) d_Tokens_init_60 rfl (by decide) ?_
  refine g_icmp_ne (pc1 := 65) (tgt := 71) d_Tokens_init_62 (by decide) rfl (fun _ => ?_) (fun h => absurd h (by decide))
  refine g_iload_n (pc1 := 72) d_Tokens_init_71 rfl 1 rfl ?_
  refine g_aload_n (pc1 := 73) d_Tokens_init_72 rfl 0 rfl ?_
  refine g_getr (pc1 := 76) d_Tokens_init_73 rfl ⟨_, fo_Tokens_9⟩ sh_4 (by decide) q5474 ?_
  refine g_alen (pc1 := 77) (v := 21) d_Tokens_init_76 rfl sh_5 (by decide) (by decide) (by decide) (by decide) ?_
  refine g_icmp_ge (pc1 := 80) (tgt := 96) d_Tokens_init_77 (by decide) rfl (fun h => absurd h (by decide)) (fun _ => ?_)
  refine g_aload_n (pc1 := 81) d_Tokens_init_80 rfl 0 rfl ?_
  refine g_getr (pc1 := 84) d_Tokens_init_81 rfl ⟨_, fo_Tokens_9⟩ sh_4 (by decide) q5474 ?_
  refine g_iload_n (pc1 := 85) d_Tokens_init_84 rfl 1 rfl ?_
  refine g_aload_n (pc1 := 86) d_Tokens_init_85 rfl 0 rfl ?_
  refine g_getr (pc1 := 89) d_Tokens_init_86 rfl ⟨_, fo_Tokens_9⟩ sh_4 (by decide) q5474 ?_
  refine g_iload_n (pc1 := 90) d_Tokens_init_89 rfl 1 rfl ?_
  refine g_lald (pc1 := 91) d_Tokens_init_90 rfl sh_5 (by decide) (vin_lit (x := 6) (by decide)) ?_
  refine Wp.vall (y := 201) (by rw [show (6 : Int32).toNatClampNeg = 6 from by decide]; exact q5562) ?_
  refine g_iload_n (pc1 := 92) d_Tokens_init_91 rfl 3 rfl ?_
  refine g_callS (pc1 := 95) (E' := (0, 0, 9)) (As := [.long 201, .int 108]) (rest := [.int 6, .ref 5]) d_Tokens_init_92 rfl mo_Tokens_37 ms_Tokens_withLetter (by decide) rfl rfl (Nat.le_of_ble_eq_true rfl) ⟨Nat.le_of_ble_eq_true rfl, Nat.le_of_ble_eq_true rfl⟩ rfl ?_
  refine t0_withLetter ?_
  dsimp only [psh]
  refine Wp.vall (y := 6444) (by decide +kernel) ?_
  refine g_last (pc1 := 96) d_Tokens_init_95 rfl sh_5 (by decide) (vin_lit (x := 6) (by decide)) ?_
  rw [show ((6 : Int32).toNatClampNeg) = 6 from by decide]
  refine Wp.topL (fun L5563 eL5563 => ?_)
  have Z5564 : ∀ j : Nat, 6 < j → L5563 5 j = 0 := fun j hj => (rdL_ne eL5563 (fun q => by omega)).trans (Z5561 j (by omega))
  have q5565 : L5563 5 6 = 6444 := rdL_eq eL5563
  refine g_iinc (pc1 := 99) (v := 36) (lv' := [(0, .ref 4), (1, .int 6), (2, .int 36), (3, .int 108)]) d_Tokens_init_96 rfl 2 rfl (by decide) (by decide) [1, 2, 0, 3] rfl ?_
  refine g_goto (tgt := 43) d_Tokens_init_99 (by decide) ?_
  refine g_iload_n (pc1 := 44) d_Tokens_init_43 rfl 2 rfl ?_
  refine g_strlen (pc1 := 49) rfl d_Tokens_init_44 d_Tokens_init_46 rfl (Nat.le_of_ble_eq_true rfl) ⟨Nat.le_of_ble_eq_true rfl, Nat.le_of_ble_eq_true rfl⟩ ?_
  refine g_icmp_ge (pc1 := 52) (tgt := 102) d_Tokens_init_49 (by decide) rfl (fun h => absurd h (by decide)) (fun _ => ?_)
  refine g_strchr (pc1 := 58) (v := 108) rfl d_Tokens_init_52 d_Tokens_init_54 d_Tokens_init_55 rfl 2 rfl (by decide) (by decide) (by decide +kernel) (Nat.le_of_ble_eq_true rfl) ⟨Nat.le_of_ble_eq_true rfl, Nat.le_of_ble_eq_true rfl⟩ ?_
  refine g_istore_n (pc1 := 59) (lv' := [(0, .ref 4), (1, .int 6), (2, .int 36), (3, .int 108)]) d_Tokens_init_58 rfl rfl (by decide) [1, 2, 3, 0] rfl ?_
  refine g_iload_n (pc1 := 60) d_Tokens_init_59 rfl 3 rfl ?_
  refine g_bipush (pc1 := 62) (v := 32) d_Tokens_init_60 rfl (by decide) ?_
  refine g_icmp_ne (pc1 := 65) (tgt := 71) d_Tokens_init_62 (by decide) rfl (fun _ => ?_) (fun h => absurd h (by decide))
  refine g_iload_n (pc1 := 72) d_Tokens_init_71 rfl 1 rfl ?_
  refine g_aload_n (pc1 := 73) d_Tokens_init_72 rfl 0 rfl ?_
  refine g_getr (pc1 := 76) d_Tokens_init_73 rfl ⟨_, fo_Tokens_9⟩ sh_4 (by decide) q5474 ?_
  refine g_alen (pc1 := 77) (v := 21) d_Tokens_init_76 rfl sh_5 (by decide) (by decide) (by decide) (by decide) ?_
  refine g_icmp_ge (pc1 := 80) (tgt := 96) d_Tokens_init_77 (by decide) rfl (fun h => absurd h (by decide)) (fun _ => ?_)
  refine g_aload_n (pc1 := 81) d_Tokens_init_80 rfl 0 rfl ?_
  refine g_getr (pc1 := 84) d_Tokens_init_81 rfl ⟨_, fo_Tokens_9⟩ sh_4 (by decide) q5474 ?_
  refine g_iload_n (pc1 := 85) d_Tokens_init_84 rfl 1 rfl ?_
  refine g_aload_n (pc1 := 86) d_Tokens_init_85 rfl 0 rfl ?_
  refine g_getr (pc1 := 89) d_Tokens_init_86 rfl ⟨_, fo_Tokens_9⟩ sh_4 (by decide) q5474 ?_
  refine g_iload_n (pc1 := 90) d_Tokens_init_89 rfl 1 rfl ?_
  refine g_lald (pc1 := 91) d_Tokens_init_90 rfl sh_5 (by decide) (vin_lit (x := 6) (by decide)) ?_
  refine Wp.vall (y := 6444) (by rw [show (6 : Int32).toNatClampNeg = 6 from by decide]; exact q5565) ?_
  refine g_iload_n (pc1 := 92) d_Tokens_init_91 rfl 3 rfl ?_
  refine g_callS (pc1 := 95) (E' := (0, 0, 9)) (As := [.long 6444, .int 108]) (rest := [.int 6, .ref 5]) d_Tokens_init_92 rfl mo_Tokens_37 ms_Tokens_withLetter (by decide) rfl rfl (Nat.le_of_ble_eq_true rfl) ⟨Nat.le_of_ble_eq_true rfl, Nat.le_of_ble_eq_true rfl⟩ rfl ?_
  refine t0_withLetter ?_
  dsimp only [psh]
  refine Wp.vall (y := 206220) (by decide +kernel) ?_
  refine g_last (pc1 := 96) d_Tokens_init_95 rfl sh_5 (by decide) (vin_lit (x := 6) (by decide)) ?_
  rw [show ((6 : Int32).toNatClampNeg) = 6 from by decide]
  refine Wp.topL (fun L5566 eL5566 => ?_)
  have Z5567 : ∀ j : Nat, 6 < j → L5566 5 j = 0 := fun j hj => (rdL_ne eL5566 (fun q => by omega)).trans (Z5564 j (by omega))
  have q5568 : L5566 5 6 = 206220 := rdL_eq eL5566
  refine g_iinc (pc1 := 99) (v := 37) (lv' := [(0, .ref 4), (1, .int 6), (2, .int 37), (3, .int 108)]) d_Tokens_init_96 rfl 2 rfl (by decide) (by decide) [1, 2, 0, 3] rfl ?_
  refine g_goto (tgt := 43) d_Tokens_init_99 (by decide) ?_
  refine g_iload_n (pc1 := 44) d_Tokens_init_43 rfl 2 rfl ?_
  refine g_strlen (pc1 := 49) rfl d_Tokens_init_44 d_Tokens_init_46 rfl (Nat.le_of_ble_eq_true rfl) ⟨Nat.le_of_ble_eq_true rfl, Nat.le_of_ble_eq_true rfl⟩ ?_
  refine g_icmp_ge (pc1 := 52) (tgt := 102) d_Tokens_init_49 (by decide) rfl (fun h => absurd h (by decide)) (fun _ => ?_)
  refine g_strchr (pc1 := 58) (v := 115) rfl d_Tokens_init_52 d_Tokens_init_54 d_Tokens_init_55 rfl 2 rfl (by decide) (by decide) (by decide +kernel) (Nat.le_of_ble_eq_true rfl) ⟨Nat.le_of_ble_eq_true rfl, Nat.le_of_ble_eq_true rfl⟩ ?_
  refine g_istore_n (pc1 := 59) (lv' := [(0, .ref 4), (1, .int 6), (2, .int 37), (3, .int 115)]) d_Tokens_init_58 rfl rfl (by decide) [1, 2, 3, 0] rfl ?_
  refine g_iload_n (pc1 := 60) d_Tokens_init_59 rfl 3 rfl ?_
  refine g_bipush (pc1 := 62) (v := 32) d_Tokens_init_60 rfl (by decide) ?_
  refine g_icmp_ne (pc1 := 65) (tgt := 71) d_Tokens_init_62 (by decide) rfl (fun _ => ?_) (fun h => absurd h (by decide))
  refine g_iload_n (pc1 := 72) d_Tokens_init_71 rfl 1 rfl ?_
  refine g_aload_n (pc1 := 73) d_Tokens_init_72 rfl 0 rfl ?_
  refine g_getr (pc1 := 76) d_Tokens_init_73 rfl ⟨_, fo_Tokens_9⟩ sh_4 (by decide) q5474 ?_
  refine g_alen (pc1 := 77) (v := 21) d_Tokens_init_76 rfl sh_5 (by decide) (by decide) (by decide) (by decide) ?_
  refine g_icmp_ge (pc1 := 80) (tgt := 96) d_Tokens_init_77 (by decide) rfl (fun h => absurd h (by decide)) (fun _ => ?_)
  refine g_aload_n (pc1 := 81) d_Tokens_init_80 rfl 0 rfl ?_
  refine g_getr (pc1 := 84) d_Tokens_init_81 rfl ⟨_, fo_Tokens_9⟩ sh_4 (by decide) q5474 ?_
  refine g_iload_n (pc1 := 85) d_Tokens_init_84 rfl 1 rfl ?_
  refine g_aload_n (pc1 := 86) d_Tokens_init_85 rfl 0 rfl ?_
  refine g_getr (pc1 := 89) d_Tokens_init_86 rfl ⟨_, fo_Tokens_9⟩ sh_4 (by decide) q5474 ?_
  refine g_iload_n (pc1 := 90) d_Tokens_init_89 rfl 1 rfl ?_
  refine g_lald (pc1 := 91) d_Tokens_init_90 rfl sh_5 (by decide) (vin_lit (x := 6) (by decide)) ?_
  refine Wp.vall (y := 206220) (by rw [show (6 : Int32).toNatClampNeg = 6 from by decide]; exact q5568) ?_
  refine g_iload_n (pc1 := 92) d_Tokens_init_91 rfl 3 rfl ?_
  refine g_callS (pc1 := 95) (E' := (0, 0, 9)) (As := [.long 206220, .int 115]) (rest := [.int 6, .ref 5]) d_Tokens_init_92 rfl mo_Tokens_37 ms_Tokens_withLetter (by decide) rfl rfl (Nat.le_of_ble_eq_true rfl) ⟨Nat.le_of_ble_eq_true rfl, Nat.le_of_ble_eq_true rfl⟩ rfl ?_
  refine t0_withLetter ?_
  dsimp only [psh]
  refine Wp.vall (y := 6599059) (by decide +kernel) ?_
  refine g_last (pc1 := 96) d_Tokens_init_95 rfl sh_5 (by decide) (vin_lit (x := 6) (by decide)) ?_
  rw [show ((6 : Int32).toNatClampNeg) = 6 from by decide]
  refine Wp.topL (fun L5569 eL5569 => ?_)
  have Z5570 : ∀ j : Nat, 6 < j → L5569 5 j = 0 := fun j hj => (rdL_ne eL5569 (fun q => by omega)).trans (Z5567 j (by omega))
  have q5571 : L5569 5 6 = 6599059 := rdL_eq eL5569
  refine g_iinc (pc1 := 99) (v := 38) (lv' := [(0, .ref 4), (1, .int 6), (2, .int 38), (3, .int 115)]) d_Tokens_init_96 rfl 2 rfl (by decide) (by decide) [1, 2, 0, 3] rfl ?_
  refine g_goto (tgt := 43) d_Tokens_init_99 (by decide) ?_
  refine g_iload_n (pc1 := 44) d_Tokens_init_43 rfl 2 rfl ?_
  refine g_strlen (pc1 := 49) rfl d_Tokens_init_44 d_Tokens_init_46 rfl (Nat.le_of_ble_eq_true rfl) ⟨Nat.le_of_ble_eq_true rfl, Nat.le_of_ble_eq_true rfl⟩ ?_
  refine g_icmp_ge (pc1 := 52) (tgt := 102) d_Tokens_init_49 (by decide) rfl (fun h => absurd h (by decide)) (fun _ => ?_)
  refine g_strchr (pc1 := 58) (v := 32) rfl d_Tokens_init_52 d_Tokens_init_54 d_Tokens_init_55 rfl 2 rfl (by decide) (by decide) (by decide +kernel) (Nat.le_of_ble_eq_true rfl) ⟨Nat.le_of_ble_eq_true rfl, Nat.le_of_ble_eq_true rfl⟩ ?_
  refine g_istore_n (pc1 := 59) (lv' := [(0, .ref 4), (1, .int 6), (2, .int 38), (3, .int 32)]) d_Tokens_init_58 rfl rfl (by decide) [1, 2, 3, 0] rfl ?_
  refine g_iload_n (pc1 := 60) d_Tokens_init_59 rfl 3 rfl ?_
  refine g_bipush (pc1 := 62) (v := 32) d_Tokens_init_60 rfl (by decide) ?_
  refine g_icmp_ne (pc1 := 65) (tgt := 71) d_Tokens_init_62 (by decide) rfl (fun h => absurd h (by decide)) (fun _ => ?_)
  refine g_iinc (pc1 := 68) (v := 7) (lv' := [(0, .ref 4), (1, .int 7), (2, .int 38), (3, .int 32)]) d_Tokens_init_65 rfl 1 rfl (by decide) (by decide) [1, 0, 2, 3] rfl ?_
  refine g_goto (tgt := 96) d_Tokens_init_68 (by decide) ?_
  refine g_iinc (pc1 := 99) (v := 39) (lv' := [(0, .ref 4), (1, .int 7), (2, .int 39), (3, .int 32)]) d_Tokens_init_96 rfl 2 rfl (by decide) (by decide) [1, 2, 0, 3] rfl ?_
  refine g_goto (tgt := 43) d_Tokens_init_99 (by decide) ?_
  refine g_iload_n (pc1 := 44) d_Tokens_init_43 rfl 2 rfl ?_
  refine g_strlen (pc1 := 49) rfl d_Tokens_init_44 d_Tokens_init_46 rfl (Nat.le_of_ble_eq_true rfl) ⟨Nat.le_of_ble_eq_true rfl, Nat.le_of_ble_eq_true rfl⟩ ?_
  refine g_icmp_ge (pc1 := 52) (tgt := 102) d_Tokens_init_49 (by decide) rfl (fun h => absurd h (by decide)) (fun _ => ?_)
  refine g_strchr (pc1 := 58) (v := 115) rfl d_Tokens_init_52 d_Tokens_init_54 d_Tokens_init_55 rfl 2 rfl (by decide) (by decide) (by decide +kernel) (Nat.le_of_ble_eq_true rfl) ⟨Nat.le_of_ble_eq_true rfl, Nat.le_of_ble_eq_true rfl⟩ ?_
  refine g_istore_n (pc1 := 59) (lv' := [(0, .ref 4), (1, .int 7), (2, .int 39), (3, .int 115)]) d_Tokens_init_58 rfl rfl (by decide) [1, 2, 3, 0] rfl ?_
  refine g_iload_n (pc1 := 60) d_Tokens_init_59 rfl 3 rfl ?_
  refine g_bipush (pc1 := 62) (v := 32) d_Tokens_init_60 rfl (by decide) ?_
  refine g_icmp_ne (pc1 := 65) (tgt := 71) d_Tokens_init_62 (by decide) rfl (fun _ => ?_) (fun h => absurd h (by decide))
  refine g_iload_n (pc1 := 72) d_Tokens_init_71 rfl 1 rfl ?_
  refine g_aload_n (pc1 := 73) d_Tokens_init_72 rfl 0 rfl ?_
  refine g_getr (pc1 := 76) d_Tokens_init_73 rfl ⟨_, fo_Tokens_9⟩ sh_4 (by decide) q5474 ?_
  refine g_alen (pc1 := 77) (v := 21) d_Tokens_init_76 rfl sh_5 (by decide) (by decide) (by decide) (by decide) ?_
  refine g_icmp_ge (pc1 := 80) (tgt := 96) d_Tokens_init_77 (by decide) rfl (fun h => absurd h (by decide)) (fun _ => ?_)
  refine g_aload_n (pc1 := 81) d_Tokens_init_80 rfl 0 rfl ?_
  refine g_getr (pc1 := 84) d_Tokens_init_81 rfl ⟨_, fo_Tokens_9⟩ sh_4 (by decide) q5474 ?_
  refine g_iload_n (pc1 := 85) d_Tokens_init_84 rfl 1 rfl ?_
  refine g_aload_n (pc1 := 86) d_Tokens_init_85 rfl 0 rfl ?_
  refine g_getr (pc1 := 89) d_Tokens_init_86 rfl ⟨_, fo_Tokens_9⟩ sh_4 (by decide) q5474 ?_
  refine g_iload_n (pc1 := 90) d_Tokens_init_89 rfl 1 rfl ?_
  refine g_lald (pc1 := 91) d_Tokens_init_90 rfl sh_5 (by decide) (vin_lit (x := 7) (by decide)) ?_
  refine Wp.vall (y := 0) (by rw [show (7 : Int32).toNatClampNeg = 7 from by decide]; exact (Z5570 7 (by decide))) ?_
  refine g_iload_n (pc1 := 92) d_Tokens_init_91 rfl 3 rfl ?_
  refine g_callS (pc1 := 95) (E' := (0, 0, 9)) (As := [.long 0, .int 115]) (rest := [.int 7, .ref 5]) d_Tokens_init_92 rfl mo_Tokens_37 ms_Tokens_withLetter (by decide) rfl rfl (Nat.le_of_ble_eq_true rfl) ⟨Nat.le_of_ble_eq_true rfl, Nat.le_of_ble_eq_true rfl⟩ rfl ?_
  refine t0_withLetter ?_
  dsimp only [psh]
  refine Wp.vall (y := 19) (by decide +kernel) ?_
  refine g_last (pc1 := 96) d_Tokens_init_95 rfl sh_5 (by decide) (vin_lit (x := 7) (by decide)) ?_
  rw [show ((7 : Int32).toNatClampNeg) = 7 from by decide]
  refine Wp.topL (fun L5572 eL5572 => ?_)
  have Z5573 : ∀ j : Nat, 7 < j → L5572 5 j = 0 := fun j hj => (rdL_ne eL5572 (fun q => by omega)).trans (Z5570 j (by omega))
  have q5574 : L5572 5 7 = 19 := rdL_eq eL5572
  refine g_iinc (pc1 := 99) (v := 40) (lv' := [(0, .ref 4), (1, .int 7), (2, .int 40), (3, .int 115)]) d_Tokens_init_96 rfl 2 rfl (by decide) (by decide) [1, 2, 0, 3] rfl ?_
  refine g_goto (tgt := 43) d_Tokens_init_99 (by decide) ?_
  refine g_iload_n (pc1 := 44) d_Tokens_init_43 rfl 2 rfl ?_
  refine g_strlen (pc1 := 49) rfl d_Tokens_init_44 d_Tokens_init_46 rfl (Nat.le_of_ble_eq_true rfl) ⟨Nat.le_of_ble_eq_true rfl, Nat.le_of_ble_eq_true rfl⟩ ?_
  refine g_icmp_ge (pc1 := 52) (tgt := 102) d_Tokens_init_49 (by decide) rfl (fun h => absurd h (by decide)) (fun _ => ?_)
  refine g_strchr (pc1 := 58) (v := 108) rfl d_Tokens_init_52 d_Tokens_init_54 d_Tokens_init_55 rfl 2 rfl (by decide) (by decide) (by decide +kernel) (Nat.le_of_ble_eq_true rfl) ⟨Nat.le_of_ble_eq_true rfl, Nat.le_of_ble_eq_true rfl⟩ ?_
  refine g_istore_n (pc1 := 59) (lv' := [(0, .ref 4), (1, .int 7), (2, .int 40), (3, .int 108)]) d_Tokens_init_58 rfl rfl (by decide) [1, 2, 3, 0] rfl ?_
  refine g_iload_n (pc1 := 60) d_Tokens_init_59 rfl 3 rfl ?_
  refine g_bipush (pc1 := 62) (v := 32) d_Tokens_init_60 rfl (by decide) ?_
  refine g_icmp_ne (pc1 := 65) (tgt := 71) d_Tokens_init_62 (by decide) rfl (fun _ => ?_) (fun h => absurd h (by decide))
  refine g_iload_n (pc1 := 72) d_Tokens_init_71 rfl 1 rfl ?_
  refine g_aload_n (pc1 := 73) d_Tokens_init_72 rfl 0 rfl ?_
  refine g_getr (pc1 := 76) d_Tokens_init_73 rfl ⟨_, fo_Tokens_9⟩ sh_4 (by decide) q5474 ?_
  refine g_alen (pc1 := 77) (v := 21) d_Tokens_init_76 rfl sh_5 (by decide) (by decide) (by decide) (by decide) ?_
  refine g_icmp_ge (pc1 := 80) (tgt := 96) d_Tokens_init_77 (by decide) rfl (fun h => absurd h (by decide)) (fun _ => ?_)
  refine g_aload_n (pc1 := 81) d_Tokens_init_80 rfl 0 rfl ?_
  refine g_getr (pc1 := 84) d_Tokens_init_81 rfl ⟨_, fo_Tokens_9⟩ sh_4 (by decide) q5474 ?_
  refine g_iload_n (pc1 := 85) d_Tokens_init_84 rfl 1 rfl ?_
  refine g_aload_n (pc1 := 86) d_Tokens_init_85 rfl 0 rfl ?_
  refine g_getr (pc1 := 89) d_Tokens_init_86 rfl ⟨_, fo_Tokens_9⟩ sh_4 (by decide) q5474 ?_
  refine g_iload_n (pc1 := 90) d_Tokens_init_89 rfl 1 rfl ?_
  refine g_lald (pc1 := 91) d_Tokens_init_90 rfl sh_5 (by decide) (vin_lit (x := 7) (by decide)) ?_
  refine Wp.vall (y := 19) (by rw [show (7 : Int32).toNatClampNeg = 7 from by decide]; exact q5574) ?_
  refine g_iload_n (pc1 := 92) d_Tokens_init_91 rfl 3 rfl ?_
  refine g_callS (pc1 := 95) (E' := (0, 0, 9)) (As := [.long 19, .int 108]) (rest := [.int 7, .ref 5]) d_Tokens_init_92 rfl mo_Tokens_37 ms_Tokens_withLetter (by decide) rfl rfl (Nat.le_of_ble_eq_true rfl) ⟨Nat.le_of_ble_eq_true rfl, Nat.le_of_ble_eq_true rfl⟩ rfl ?_
  refine t0_withLetter ?_
  dsimp only [psh]
  refine Wp.vall (y := 620) (by decide +kernel) ?_
  refine g_last (pc1 := 96) d_Tokens_init_95 rfl sh_5 (by decide) (vin_lit (x := 7) (by decide)) ?_
  rw [show ((7 : Int32).toNatClampNeg) = 7 from by decide]
  refine Wp.topL (fun L5575 eL5575 => ?_)
  have Z5576 : ∀ j : Nat, 7 < j → L5575 5 j = 0 := fun j hj => (rdL_ne eL5575 (fun q => by omega)).trans (Z5573 j (by omega))
  have q5577 : L5575 5 7 = 620 := rdL_eq eL5575
  refine g_iinc (pc1 := 99) (v := 41) (lv' := [(0, .ref 4), (1, .int 7), (2, .int 41), (3, .int 108)]) d_Tokens_init_96 rfl 2 rfl (by decide) (by decide) [1, 2, 0, 3] rfl ?_
  refine g_goto (tgt := 43) d_Tokens_init_99 (by decide) ?_
  refine g_iload_n (pc1 := 44) d_Tokens_init_43 rfl 2 rfl ?_
  refine g_strlen (pc1 := 49) rfl d_Tokens_init_44 d_Tokens_init_46 rfl (Nat.le_of_ble_eq_true rfl) ⟨Nat.le_of_ble_eq_true rfl, Nat.le_of_ble_eq_true rfl⟩ ?_
  refine g_icmp_ge (pc1 := 52) (tgt := 102) d_Tokens_init_49 (by decide) rfl (fun h => absurd h (by decide)) (fun _ => ?_)
  refine g_strchr (pc1 := 58) (v := 105) rfl d_Tokens_init_52 d_Tokens_init_54 d_Tokens_init_55 rfl 2 rfl (by decide) (by decide) (by decide +kernel) (Nat.le_of_ble_eq_true rfl) ⟨Nat.le_of_ble_eq_true rfl, Nat.le_of_ble_eq_true rfl⟩ ?_
  refine g_istore_n (pc1 := 59) (lv' := [(0, .ref 4), (1, .int 7), (2, .int 41), (3, .int 105)]) d_Tokens_init_58 rfl rfl (by decide) [1, 2, 3, 0] rfl ?_
  refine g_iload_n (pc1 := 60) d_Tokens_init_59 rfl 3 rfl ?_
  refine g_bipush (pc1 := 62) (v := 32) d_Tokens_init_60 rfl (by decide) ?_
  refine g_icmp_ne (pc1 := 65) (tgt := 71) d_Tokens_init_62 (by decide) rfl (fun _ => ?_) (fun h => absurd h (by decide))
  refine g_iload_n (pc1 := 72) d_Tokens_init_71 rfl 1 rfl ?_
  refine g_aload_n (pc1 := 73) d_Tokens_init_72 rfl 0 rfl ?_
  refine g_getr (pc1 := 76) d_Tokens_init_73 rfl ⟨_, fo_Tokens_9⟩ sh_4 (by decide) q5474 ?_
  refine g_alen (pc1 := 77) (v := 21) d_Tokens_init_76 rfl sh_5 (by decide) (by decide) (by decide) (by decide) ?_
  refine g_icmp_ge (pc1 := 80) (tgt := 96) d_Tokens_init_77 (by decide) rfl (fun h => absurd h (by decide)) (fun _ => ?_)
  refine g_aload_n (pc1 := 81) d_Tokens_init_80 rfl 0 rfl ?_
  refine g_getr (pc1 := 84) d_Tokens_init_81 rfl ⟨_, fo_Tokens_9⟩ sh_4 (by decide) q5474 ?_
  refine g_iload_n (pc1 := 85) d_Tokens_init_84 rfl 1 rfl ?_
  refine g_aload_n (pc1 := 86) d_Tokens_init_85 rfl 0 rfl ?_
  refine g_getr (pc1 := 89) d_Tokens_init_86 rfl ⟨_, fo_Tokens_9⟩ sh_4 (by decide) q5474 ?_
  refine g_iload_n (pc1 := 90) d_Tokens_init_89 rfl 1 rfl ?_
  refine g_lald (pc1 := 91) d_Tokens_init_90 rfl sh_5 (by decide) (vin_lit (x := 7) (by decide)) ?_
  refine Wp.vall (y := 620) (by rw [show (7 : Int32).toNatClampNeg = 7 from by decide]; exact q5577) ?_
  refine g_iload_n (pc1 := 92) d_Tokens_init_91 rfl 3 rfl ?_
  refine g_callS (pc1 := 95) (E' := (0, 0, 9)) (As := [.long 620, .int 105]) (rest := [.int 7, .ref 5]) d_Tokens_init_92 rfl mo_Tokens_37 ms_Tokens_withLetter (by decide) rfl rfl (Nat.le_of_ble_eq_true rfl) ⟨Nat.le_of_ble_eq_true rfl, Nat.le_of_ble_eq_true rfl⟩ rfl ?_
  refine t0_withLetter ?_
  dsimp only [psh]
  refine Wp.vall (y := 19849) (by decide +kernel) ?_
  refine g_last (pc1 := 96) d_Tokens_init_95 rfl sh_5 (by decide) (vin_lit (x := 7) (by decide)) ?_
  rw [show ((7 : Int32).toNatClampNeg) = 7 from by decide]
  refine Wp.topL (fun L5578 eL5578 => ?_)
  have Z5579 : ∀ j : Nat, 7 < j → L5578 5 j = 0 := fun j hj => (rdL_ne eL5578 (fun q => by omega)).trans (Z5576 j (by omega))
  have q5580 : L5578 5 7 = 19849 := rdL_eq eL5578
  refine g_iinc (pc1 := 99) (v := 42) (lv' := [(0, .ref 4), (1, .int 7), (2, .int 42), (3, .int 105)]) d_Tokens_init_96 rfl 2 rfl (by decide) (by decide) [1, 2, 0, 3] rfl ?_
  refine g_goto (tgt := 43) d_Tokens_init_99 (by decide) ?_
  refine g_iload_n (pc1 := 44) d_Tokens_init_43 rfl 2 rfl ?_
  refine g_strlen (pc1 := 49) rfl d_Tokens_init_44 d_Tokens_init_46 rfl (Nat.le_of_ble_eq_true rfl) ⟨Nat.le_of_ble_eq_true rfl, Nat.le_of_ble_eq_true rfl⟩ ?_
  refine g_icmp_ge (pc1 := 52) (tgt := 102) d_Tokens_init_49 (by decide) rfl (fun h => absurd h (by decide)) (fun _ => ?_)
  refine g_strchr (pc1 := 58) (v := 112) rfl d_Tokens_init_52 d_Tokens_init_54 d_Tokens_init_55 rfl 2 rfl (by decide) (by decide) (by decide +kernel) (Nat.le_of_ble_eq_true rfl) ⟨Nat.le_of_ble_eq_true rfl, Nat.le_of_ble_eq_true rfl⟩ ?_
  refine g_istore_n (pc1 := 59) (lv' := [(0, .ref 4), (1, .int 7), (2, .int 42), (3, .int 112)]) d_Tokens_init_58 rfl rfl (by decide) [1, 2, 3, 0] rfl ?_
  refine g_iload_n (pc1 := 60) d_Tokens_init_59 rfl 3 rfl ?_
  refine g_bipush (pc1 := 62) (v := 32) d_Tokens_init_60 rfl (by decide) ?_
  refine g_icmp_ne (pc1 := 65) (tgt := 71) d_Tokens_init_62 (by decide) rfl (fun _ => ?_) (fun h => absurd h (by decide))
  refine g_iload_n (pc1 := 72) d_Tokens_init_71 rfl 1 rfl ?_
  refine g_aload_n (pc1 := 73) d_Tokens_init_72 rfl 0 rfl ?_
  refine g_getr (pc1 := 76) d_Tokens_init_73 rfl ⟨_, fo_Tokens_9⟩ sh_4 (by decide) q5474 ?_
  refine g_alen (pc1 := 77) (v := 21) d_Tokens_init_76 rfl sh_5 (by decide) (by decide) (by decide) (by decide) ?_
  refine g_icmp_ge (pc1 := 80) (tgt := 96) d_Tokens_init_77 (by decide) rfl (fun h => absurd h (by decide)) (fun _ => ?_)
  refine g_aload_n (pc1 := 81) d_Tokens_init_80 rfl 0 rfl ?_
  refine g_getr (pc1 := 84) d_Tokens_init_81 rfl ⟨_, fo_Tokens_9⟩ sh_4 (by decide) q5474 ?_
  refine g_iload_n (pc1 := 85) d_Tokens_init_84 rfl 1 rfl ?_
  refine g_aload_n (pc1 := 86) d_Tokens_init_85 rfl 0 rfl ?_
  refine g_getr (pc1 := 89) d_Tokens_init_86 rfl ⟨_, fo_Tokens_9⟩ sh_4 (by decide) q5474 ?_
  refine g_iload_n (pc1 := 90) d_Tokens_init_89 rfl 1 rfl ?_
  refine g_lald (pc1 := 91) d_Tokens_init_90 rfl sh_5 (by decide) (vin_lit (x := 7) (by decide)) ?_
  refine Wp.vall (y := 19849) (by rw [show (7 : Int32).toNatClampNeg = 7 from by decide]; exact q5580) ?_
  refine g_iload_n (pc1 := 92) d_Tokens_init_91 rfl 3 rfl ?_
  refine g_callS (pc1 := 95) (E' := (0, 0, 9)) (As := [.long 19849, .int 112]) (rest := [.int 7, .ref 5]) d_Tokens_init_92 rfl mo_Tokens_37 ms_Tokens_withLetter (by decide) rfl rfl (Nat.le_of_ble_eq_true rfl) ⟨Nat.le_of_ble_eq_true rfl, Nat.le_of_ble_eq_true rfl⟩ rfl ?_
  refine t0_withLetter ?_
  dsimp only [psh]
  refine Wp.vall (y := 635184) (by decide +kernel) ?_
  refine g_last (pc1 := 96) d_Tokens_init_95 rfl sh_5 (by decide) (vin_lit (x := 7) (by decide)) ?_
  rw [show ((7 : Int32).toNatClampNeg) = 7 from by decide]
  refine Wp.topL (fun L5581 eL5581 => ?_)
  have Z5582 : ∀ j : Nat, 7 < j → L5581 5 j = 0 := fun j hj => (rdL_ne eL5581 (fun q => by omega)).trans (Z5579 j (by omega))
  have q5583 : L5581 5 7 = 635184 := rdL_eq eL5581
  refine g_iinc (pc1 := 99) (v := 43) (lv' := [(0, .ref 4), (1, .int 7), (2, .int 43), (3, .int 112)]) d_Tokens_init_96 rfl 2 rfl (by decide) (by decide) [1, 2, 0, 3] rfl ?_
  refine g_goto (tgt := 43) d_Tokens_init_99 (by decide) ?_
  refine g_iload_n (pc1 := 44) d_Tokens_init_43 rfl 2 rfl ?_
  refine g_strlen (pc1 := 49) rfl d_Tokens_init_44 d_Tokens_init_46 rfl (Nat.le_of_ble_eq_true rfl) ⟨Nat.le_of_ble_eq_true rfl, Nat.le_of_ble_eq_true rfl⟩ ?_
  refine g_icmp_ge (pc1 := 52) (tgt := 102) d_Tokens_init_49 (by decide) rfl (fun h => absurd h (by decide)) (fun _ => ?_)
  refine g_strchr (pc1 := 58) (v := 115) rfl d_Tokens_init_52 d_Tokens_init_54 d_Tokens_init_55 rfl 2 rfl (by decide) (by decide) (by decide +kernel) (Nat.le_of_ble_eq_true rfl) ⟨Nat.le_of_ble_eq_true rfl, Nat.le_of_ble_eq_true rfl⟩ ?_
  refine g_istore_n (pc1 := 59) (lv' := [(0, .ref 4), (1, .int 7), (2, .int 43), (3, .int 115)]) d_Tokens_init_58 rfl rfl (by decide) [1, 2, 3, 0] rfl ?_
  refine g_iload_n (pc1 := 60) d_Tokens_init_59 rfl 3 rfl ?_
  refine g_bipush (pc1 := 62) (v := 32) d_Tokens_init_60 rfl (by decide) ?_
  refine g_icmp_ne (pc1 := 65) (tgt := 71) d_Tokens_init_62 (by decide) rfl (fun _ => ?_) (fun h => absurd h (by decide))
  refine g_iload_n (pc1 := 72) d_Tokens_init_71 rfl 1 rfl ?_
  refine g_aload_n (pc1 := 73) d_Tokens_init_72 rfl 0 rfl ?_
  refine g_getr (pc1 := 76) d_Tokens_init_73 rfl ⟨_, fo_Tokens_9⟩ sh_4 (by decide) q5474 ?_
  refine g_alen (pc1 := 77) (v := 21) d_Tokens_init_76 rfl sh_5 (by decide) (by decide) (by decide) (by decide) ?_
  refine g_icmp_ge (pc1 := 80) (tgt := 96) d_Tokens_init_77 (by decide) rfl (fun h => absurd h (by decide)) (fun _ => ?_)
  refine g_aload_n (pc1 := 81) d_Tokens_init_80 rfl 0 rfl ?_
  refine g_getr (pc1 := 84) d_Tokens_init_81 rfl ⟨_, fo_Tokens_9⟩ sh_4 (by decide) q5474 ?_
  refine g_iload_n (pc1 := 85) d_Tokens_init_84 rfl 1 rfl ?_
  refine g_aload_n (pc1 := 86) d_Tokens_init_85 rfl 0 rfl ?_
  refine g_getr (pc1 := 89) d_Tokens_init_86 rfl ⟨_, fo_Tokens_9⟩ sh_4 (by decide) q5474 ?_
  refine g_iload_n (pc1 := 90) d_Tokens_init_89 rfl 1 rfl ?_
  refine g_lald (pc1 := 91) d_Tokens_init_90 rfl sh_5 (by decide) (vin_lit (x := 7) (by decide)) ?_
  refine Wp.vall (y := 635184) (by rw [show (7 : Int32).toNatClampNeg = 7 from by decide]; exact q5583) ?_
  refine g_iload_n (pc1 := 92) d_Tokens_init_91 rfl 3 rfl ?_
  refine g_callS (pc1 := 95) (E' := (0, 0, 9)) (As := [.long 635184, .int 115]) (rest := [.int 7, .ref 5]) d_Tokens_init_92 rfl mo_Tokens_37 ms_Tokens_withLetter (by decide) rfl rfl (Nat.le_of_ble_eq_true rfl) ⟨Nat.le_of_ble_eq_true rfl, Nat.le_of_ble_eq_true rfl⟩ rfl ?_
  refine t0_withLetter ?_
  dsimp only [psh]
  refine Wp.vall (y := 20325907) (by decide +kernel) ?_
  refine g_last (pc1 := 96) d_Tokens_init_95 rfl sh_5 (by decide) (vin_lit (x := 7) (by decide)) ?_
  rw [show ((7 : Int32).toNatClampNeg) = 7 from by decide]
  refine Wp.topL (fun L5584 eL5584 => ?_)
  have Z5585 : ∀ j : Nat, 7 < j → L5584 5 j = 0 := fun j hj => (rdL_ne eL5584 (fun q => by omega)).trans (Z5582 j (by omega))
  have q5586 : L5584 5 7 = 20325907 := rdL_eq eL5584
  refine g_iinc (pc1 := 99) (v := 44) (lv' := [(0, .ref 4), (1, .int 7), (2, .int 44), (3, .int 115)]) d_Tokens_init_96 rfl 2 rfl (by decide) (by decide) [1, 2, 0, 3] rfl ?_
  refine g_goto (tgt := 43) d_Tokens_init_99 (by decide) ?_
  refine g_iload_n (pc1 := 44) d_Tokens_init_43 rfl 2 rfl ?_
  refine g_strlen (pc1 := 49) rfl d_Tokens_init_44 d_Tokens_init_46 rfl (Nat.le_of_ble_eq_true rfl) ⟨Nat.le_of_ble_eq_true rfl, Nat.le_of_ble_eq_true rfl⟩ ?_
  refine g_icmp_ge (pc1 := 52) (tgt := 102) d_Tokens_init_49 (by decide) rfl (fun h => absurd h (by decide)) (fun _ => ?_)
  refine g_strchr (pc1 := 58) (v := 32) rfl d_Tokens_init_52 d_Tokens_init_54 d_Tokens_init_55 rfl 2 rfl (by decide) (by decide) (by decide +kernel) (Nat.le_of_ble_eq_true rfl) ⟨Nat.le_of_ble_eq_true rfl, Nat.le_of_ble_eq_true rfl⟩ ?_
  refine g_istore_n (pc1 := 59) (lv' := [(0, .ref 4), (1, .int 7), (2, .int 44), (3, .int 32)]) d_Tokens_init_58 rfl rfl (by decide) [1, 2, 3, 0] rfl ?_
  refine g_iload_n (pc1 := 60) d_Tokens_init_59 rfl 3 rfl ?_
  refine g_bipush (pc1 := 62) (v := 32) d_Tokens_init_60 rfl (by decide) ?_
  refine g_icmp_ne (pc1 := 65) (tgt := 71) d_Tokens_init_62 (by decide) rfl (fun h => absurd h (by decide)) (fun _ => ?_)
  refine g_iinc (pc1 := 68) (v := 8) (lv' := [(0, .ref 4), (1, .int 8), (2, .int 44), (3, .int 32)]) d_Tokens_init_65 rfl 1 rfl (by decide) (by decide) [1, 0, 2, 3] rfl ?_
  refine g_goto (tgt := 96) d_Tokens_init_68 (by decide) ?_
  refine g_iinc (pc1 := 99) (v := 45) (lv' := [(0, .ref 4), (1, .int 8), (2, .int 45), (3, .int 32)]) d_Tokens_init_96 rfl 2 rfl (by decide) (by decide) [1, 2, 0, 3] rfl ?_
  refine g_goto (tgt := 43) d_Tokens_init_99 (by decide) ?_
  refine g_iload_n (pc1 := 44) d_Tokens_init_43 rfl 2 rfl ?_
  refine g_strlen (pc1 := 49) rfl d_Tokens_init_44 d_Tokens_init_46 rfl (Nat.le_of_ble_eq_true rfl) ⟨Nat.le_of_ble_eq_true rfl, Nat.le_of_ble_eq_true rfl⟩ ?_
  refine g_icmp_ge (pc1 := 52) (tgt := 102) d_Tokens_init_49 (by decide) rfl (fun h => absurd h (by decide)) (fun _ => ?_)
  refine g_strchr (pc1 := 58) (v := 115) rfl d_Tokens_init_52 d_Tokens_init_54 d_Tokens_init_55 rfl 2 rfl (by decide) (by decide) (by decide +kernel) (Nat.le_of_ble_eq_true rfl) ⟨Nat.le_of_ble_eq_true rfl, Nat.le_of_ble_eq_true rfl⟩ ?_
  refine g_istore_n (pc1 := 59) (lv' := [(0, .ref 4), (1, .int 8), (2, .int 45), (3, .int 115)]) d_Tokens_init_58 rfl rfl (by decide) [1, 2, 3, 0] rfl ?_
  refine g_iload_n (pc1 := 60) d_Tokens_init_59 rfl 3 rfl ?_
  refine g_bipush (pc1 := 62) (v := 32) d_Tokens_init_60 rfl (by decide) ?_
  refine g_icmp_ne (pc1 := 65) (tgt := 71) d_Tokens_init_62 (by decide) rfl (fun _ => ?_) (fun h => absurd h (by decide))
  refine g_iload_n (pc1 := 72) d_Tokens_init_71 rfl 1 rfl ?_
  refine g_aload_n (pc1 := 73) d_Tokens_init_72 rfl 0 rfl ?_
  refine g_getr (pc1 := 76) d_Tokens_init_73 rfl ⟨_, fo_Tokens_9⟩ sh_4 (by decide) q5474 ?_
  refine g_alen (pc1 := 77) (v := 21) d_Tokens_init_76 rfl sh_5 (by decide) (by decide) (by decide) (by decide) ?_
  refine g_icmp_ge (pc1 := 80) (tgt := 96) d_Tokens_init_77 (by decide) rfl (fun h => absurd h (by decide)) (fun _ => ?_)
  refine g_aload_n (pc1 := 81) d_Tokens_init_80 rfl 0 rfl ?_
  refine g_getr (pc1 := 84) d_Tokens_init_81 rfl ⟨_, fo_Tokens_9⟩ sh_4 (by decide) q5474 ?_
  refine g_iload_n (pc1 := 85) d_Tokens_init_84 rfl 1 rfl ?_
  refine g_aload_n (pc1 := 86) d_Tokens_init_85 rfl 0 rfl ?_
  refine g_getr (pc1 := 89) d_Tokens_init_86 rfl ⟨_, fo_Tokens_9⟩ sh_4 (by decide) q5474 ?_
  refine g_iload_n (pc1 := 90) d_Tokens_init_89 rfl 1 rfl ?_
  refine g_lald (pc1 := 91) d_Tokens_init_90 rfl sh_5 (by decide) (vin_lit (x := 8) (by decide)) ?_
  refine Wp.vall (y := 0) (by rw [show (8 : Int32).toNatClampNeg = 8 from by decide]; exact (Z5585 8 (by decide))) ?_
  refine g_iload_n (pc1 := 92) d_Tokens_init_91 rfl 3 rfl ?_
  refine g_callS (pc1 := 95) (E' := (0, 0, 9)) (As := [.long 0, .int 115]) (rest := [.int 8, .ref 5]) d_Tokens_init_92 rfl mo_Tokens_37 ms_Tokens_withLetter (by decide) rfl rfl (Nat.le_of_ble_eq_true rfl) ⟨Nat.le_of_ble_eq_true rfl, Nat.le_of_ble_eq_true rfl⟩ rfl ?_
  refine t0_withLetter ?_
  dsimp only [psh]
  refine Wp.vall (y := 19) (by decide +kernel) ?_
  refine g_last (pc1 := 96) d_Tokens_init_95 rfl sh_5 (by decide) (vin_lit (x := 8) (by decide)) ?_
  rw [show ((8 : Int32).toNatClampNeg) = 8 from by decide]
  refine Wp.topL (fun L5587 eL5587 => ?_)
  have Z5588 : ∀ j : Nat, 8 < j → L5587 5 j = 0 := fun j hj => (rdL_ne eL5587 (fun q => by omega)).trans (Z5585 j (by omega))
  have q5589 : L5587 5 8 = 19 := rdL_eq eL5587
  refine g_iinc (pc1 := 99) (v := 46) (lv' := [(0, .ref 4), (1, .int 8), (2, .int 46), (3, .int 115)]) d_Tokens_init_96 rfl 2 rfl (by decide) (by decide) [1, 2, 0, 3] rfl ?_
  refine g_goto (tgt := 43) d_Tokens_init_99 (by decide) ?_
  refine g_iload_n (pc1 := 44) d_Tokens_init_43 rfl 2 rfl ?_
  refine g_strlen (pc1 := 49) rfl d_Tokens_init_44 d_Tokens_init_46 rfl (Nat.le_of_ble_eq_true rfl) ⟨Nat.le_of_ble_eq_true rfl, Nat.le_of_ble_eq_true rfl⟩ ?_
  refine g_icmp_ge (pc1 := 52) (tgt := 102) d_Tokens_init_49 (by decide) rfl (fun h => absurd h (by decide)) (fun _ => ?_)
  refine g_strchr (pc1 := 58) (v := 101) rfl d_Tokens_init_52 d_Tokens_init_54 d_Tokens_init_55 rfl 2 rfl (by decide) (by decide) (by decide +kernel) (Nat.le_of_ble_eq_true rfl) ⟨Nat.le_of_ble_eq_true rfl, Nat.le_of_ble_eq_true rfl⟩ ?_
  refine g_istore_n (pc1 := 59) (lv' := [(0, .ref 4), (1, .int 8), (2, .int 46), (3, .int 101)]) d_Tokens_init_58 rfl rfl (by decide) [1, 2, 3, 0] rfl ?_
  refine g_iload_n (pc1 := 60) d_Tokens_init_59 rfl 3 rfl ?_
  refine g_bipush (pc1 := 62) (v := 32) d_Tokens_init_60 rfl (by decide) ?_
  refine g_icmp_ne (pc1 := 65) (tgt := 71) d_Tokens_init_62 (by decide) rfl (fun _ => ?_) (fun h => absurd h (by decide))
  refine g_iload_n (pc1 := 72) d_Tokens_init_71 rfl 1 rfl ?_
  refine g_aload_n (pc1 := 73) d_Tokens_init_72 rfl 0 rfl ?_
  refine g_getr (pc1 := 76) d_Tokens_init_73 rfl ⟨_, fo_Tokens_9⟩ sh_4 (by decide) q5474 ?_
  refine g_alen (pc1 := 77) (v := 21) d_Tokens_init_76 rfl sh_5 (by decide) (by decide) (by decide) (by decide) ?_
  refine g_icmp_ge (pc1 := 80) (tgt := 96) d_Tokens_init_77 (by decide) rfl (fun h => absurd h (by decide)) (fun _ => ?_)
  refine g_aload_n (pc1 := 81) d_Tokens_init_80 rfl 0 rfl ?_
  refine g_getr (pc1 := 84) d_Tokens_init_81 rfl ⟨_, fo_Tokens_9⟩ sh_4 (by decide) q5474 ?_
  refine g_iload_n (pc1 := 85) d_Tokens_init_84 rfl 1 rfl ?_
  refine g_aload_n (pc1 := 86) d_Tokens_init_85 rfl 0 rfl ?_
  refine g_getr (pc1 := 89) d_Tokens_init_86 rfl ⟨_, fo_Tokens_9⟩ sh_4 (by decide) q5474 ?_
  refine g_iload_n (pc1 := 90) d_Tokens_init_89 rfl 1 rfl ?_
  refine g_lald (pc1 := 91) d_Tokens_init_90 rfl sh_5 (by decide) (vin_lit (x := 8) (by decide)) ?_
  refine Wp.vall (y := 19) (by rw [show (8 : Int32).toNatClampNeg = 8 from by decide]; exact q5589) ?_
  refine g_iload_n (pc1 := 92) d_Tokens_init_91 rfl 3 rfl ?_
  refine g_callS (pc1 := 95) (E' := (0, 0, 9)) (As := [.long 19, .int 101]) (rest := [.int 8, .ref 5]) d_Tokens_init_92 rfl mo_Tokens_37 ms_Tokens_withLetter (by decide) rfl rfl (Nat.le_of_ble_eq_true rfl) ⟨Nat.le_of_ble_eq_true rfl, Nat.le_of_ble_eq_true rfl⟩ rfl ?_
  refine t0_withLetter ?_
  dsimp only [psh]
  refine Wp.vall (y := 613) (by decide +kernel) ?_
  refine g_last (pc1 := 96) d_Tokens_init_95 rfl sh_5 (by decide) (vin_lit (x := 8) (by decide)) ?_
  rw [show ((8 : Int32).toNatClampNeg) = 8 from by decide]
  refine Wp.topL (fun L5590 eL5590 => ?_)
  have Z5591 : ∀ j : Nat, 8 < j → L5590 5 j = 0 := fun j hj => (rdL_ne eL5590 (fun q => by omega)).trans (Z5588 j (by omega))
  have q5592 : L5590 5 8 = 613 := rdL_eq eL5590
  refine g_iinc (pc1 := 99) (v := 47) (lv' := [(0, .ref 4), (1, .int 8), (2, .int 47), (3, .int 101)]) d_Tokens_init_96 rfl 2 rfl (by decide) (by decide) [1, 2, 0, 3] rfl ?_
  refine g_goto (tgt := 43) d_Tokens_init_99 (by decide) ?_
  refine g_iload_n (pc1 := 44) d_Tokens_init_43 rfl 2 rfl ?_
  refine g_strlen (pc1 := 49) rfl d_Tokens_init_44 d_Tokens_init_46 rfl (Nat.le_of_ble_eq_true rfl) ⟨Nat.le_of_ble_eq_true rfl, Nat.le_of_ble_eq_true rfl⟩ ?_
  refine g_icmp_ge (pc1 := 52) (tgt := 102) d_Tokens_init_49 (by decide) rfl (fun h => absurd h (by decide)) (fun _ => ?_)
  refine g_strchr (pc1 := 58) (v := 101) rfl d_Tokens_init_52 d_Tokens_init_54 d_Tokens_init_55 rfl 2 rfl (by decide) (by decide) (by decide +kernel) (Nat.le_of_ble_eq_true rfl) ⟨Nat.le_of_ble_eq_true rfl, Nat.le_of_ble_eq_true rfl⟩ ?_
  refine g_istore_n (pc1 := 59) (lv' := [(0, .ref 4), (1, .int 8), (2, .int 47), (3, .int 101)]) d_Tokens_init_58 rfl rfl (by decide) [1, 2, 3, 0] rfl ?_
  refine g_iload_n (pc1 := 60) d_Tokens_init_59 rfl 3 rfl ?_
  refine g_bipush (pc1 := 62) (v := 32) d_Tokens_init_60 rfl (by decide) ?_
  refine g_icmp_ne (pc1 := 65) (tgt := 71) d_Tokens_init_62 (by decide) rfl (fun _ => ?_) (fun h => absurd h (by decide))
  refine g_iload_n (pc1 := 72) d_Tokens_init_71 rfl 1 rfl ?_
  refine g_aload_n (pc1 := 73) d_Tokens_init_72 rfl 0 rfl ?_
  refine g_getr (pc1 := 76) d_Tokens_init_73 rfl ⟨_, fo_Tokens_9⟩ sh_4 (by decide) q5474 ?_
  refine g_alen (pc1 := 77) (v := 21) d_Tokens_init_76 rfl sh_5 (by decide) (by decide) (by decide) (by decide) ?_
  refine g_icmp_ge (pc1 := 80) (tgt := 96) d_Tokens_init_77 (by decide) rfl (fun h => absurd h (by decide)) (fun _ => ?_)
  refine g_aload_n (pc1 := 81) d_Tokens_init_80 rfl 0 rfl ?_
  refine g_getr (pc1 := 84) d_Tokens_init_81 rfl ⟨_, fo_Tokens_9⟩ sh_4 (by decide) q5474 ?_
  refine g_iload_n (pc1 := 85) d_Tokens_init_84 rfl 1 rfl ?_
  refine g_aload_n (pc1 := 86) d_Tokens_init_85 rfl 0 rfl ?_
  refine g_getr (pc1 := 89) d_Tokens_init_86 rfl ⟨_, fo_Tokens_9⟩ sh_4 (by decide) q5474 ?_
  refine g_iload_n (pc1 := 90) d_Tokens_init_89 rfl 1 rfl ?_
  refine g_lald (pc1 := 91) d_Tokens_init_90 rfl sh_5 (by decide) (vin_lit (x := 8) (by decide)) ?_
  refine Wp.vall (y := 613) (by rw [show (8 : Int32).toNatClampNeg = 8 from by decide]; exact q5592) ?_
  refine g_iload_n (pc1 := 92) d_Tokens_init_91 rfl 3 rfl ?_
  refine g_callS (pc1 := 95) (E' := (0, 0, 9)) (As := [.long 613, .int 101]) (rest := [.int 8, .ref 5]) d_Tokens_init_92 rfl mo_Tokens_37 ms_Tokens_withLetter (by decide) rfl rfl (Nat.le_of_ble_eq_true rfl) ⟨Nat.le_of_ble_eq_true rfl, Nat.le_of_ble_eq_true rfl⟩ rfl ?_
  refine t0_withLetter ?_
  dsimp only [psh]
  refine Wp.vall (y := 19621) (by decide +kernel) ?_
  refine g_last (pc1 := 96) d_Tokens_init_95 rfl sh_5 (by decide) (vin_lit (x := 8) (by decide)) ?_
  rw [show ((8 : Int32).toNatClampNeg) = 8 from by decide]
  refine Wp.topL (fun L5593 eL5593 => ?_)
  have Z5594 : ∀ j : Nat, 8 < j → L5593 5 j = 0 := fun j hj => (rdL_ne eL5593 (fun q => by omega)).trans (Z5591 j (by omega))
  have q5595 : L5593 5 8 = 19621 := rdL_eq eL5593
  refine g_iinc (pc1 := 99) (v := 48) (lv' := [(0, .ref 4), (1, .int 8), (2, .int 48), (3, .int 101)]) d_Tokens_init_96 rfl 2 rfl (by decide) (by decide) [1, 2, 0, 3] rfl ?_
  refine g_goto (tgt := 43) d_Tokens_init_99 (by decide) ?_
  refine g_iload_n (pc1 := 44) d_Tokens_init_43 rfl 2 rfl ?_
  refine g_strlen (pc1 := 49) rfl d_Tokens_init_44 d_Tokens_init_46 rfl (Nat.le_of_ble_eq_true rfl) ⟨Nat.le_of_ble_eq_true rfl, Nat.le_of_ble_eq_true rfl⟩ ?_
  refine g_icmp_ge (pc1 := 52) (tgt := 102) d_Tokens_init_49 (by decide) rfl (fun h => absurd h (by decide)) (fun _ => ?_)
  refine g_strchr (pc1 := 58) (v := 100) rfl d_Tokens_init_52 d_Tokens_init_54 d_Tokens_init_55 rfl 2 rfl (by decide) (by decide) (by decide +kernel) (Nat.le_of_ble_eq_true rfl) ⟨Nat.le_of_ble_eq_true rfl, Nat.le_of_ble_eq_true rfl⟩ ?_
  refine g_istore_n (pc1 := 59) (lv' := [(0, .ref 4), (1, .int 8), (2, .int 48), (3, .int 100)]) d_Tokens_init_58 rfl rfl (by decide) [1, 2, 3, 0] rfl ?_
  refine g_iload_n (pc1 := 60) d_Tokens_init_59 rfl 3 rfl ?_
  refine g_bipush (pc1 := 62) (v := 32) d_Tokens_init_60 rfl (by decide) ?_
  refine g_icmp_ne (pc1 := 65) (tgt := 71) d_Tokens_init_62 (by decide) rfl (fun _ => ?_) (fun h => absurd h (by decide))
  refine g_iload_n (pc1 := 72) d_Tokens_init_71 rfl 1 rfl ?_
  refine g_aload_n (pc1 := 73) d_Tokens_init_72 rfl 0 rfl ?_
  refine g_getr (pc1 := 76) d_Tokens_init_73 rfl ⟨_, fo_Tokens_9⟩ sh_4 (by decide) q5474 ?_
  refine g_alen (pc1 := 77) (v := 21) d_Tokens_init_76 rfl sh_5 (by decide) (by decide) (by decide) (by decide) ?_
  refine g_icmp_ge (pc1 := 80) (tgt := 96) d_Tokens_init_77 (by decide) rfl (fun h => absurd h (by decide)) (fun _ => ?_)
  refine g_aload_n (pc1 := 81) d_Tokens_init_80 rfl 0 rfl ?_
  refine g_getr (pc1 := 84) d_Tokens_init_81 rfl ⟨_, fo_Tokens_9⟩ sh_4 (by decide) q5474 ?_
  refine g_iload_n (pc1 := 85) d_Tokens_init_84 rfl 1 rfl ?_
  refine g_aload_n (pc1 := 86) d_Tokens_init_85 rfl 0 rfl ?_
  refine g_getr (pc1 := 89) d_Tokens_init_86 rfl ⟨_, fo_Tokens_9⟩ sh_4 (by decide) q5474 ?_
  refine g_iload_n (pc1 := 90) d_Tokens_init_89 rfl 1 rfl ?_
  refine g_lald (pc1 := 91) d_Tokens_init_90 rfl sh_5 (by decide) (vin_lit (x := 8) (by decide)) ?_
  refine Wp.vall (y := 19621) (by rw [show (8 : Int32).toNatClampNeg = 8 from by decide]; exact q5595) ?_
  refine g_iload_n (pc1 := 92) d_Tokens_init_91 rfl 3 rfl ?_
  refine g_callS (pc1 := 95) (E' := (0, 0, 9)) (As := [.long 19621, .int 100]) (rest := [.int 8, .ref 5]) d_Tokens_init_92 rfl mo_Tokens_37 ms_Tokens_withLetter (by decide) rfl rfl (Nat.le_of_ble_eq_true rfl) ⟨Nat.le_of_ble_eq_true rfl, Nat.le_of_ble_eq_true rfl⟩ rfl ?_
  refine t0_withLetter ?_
  dsimp only [psh]
  refine Wp.vall (y := 627876) (by decide +kernel) ?_
  refine g_last (pc1 := 96) d_Tokens_init_95 rfl sh_5 (by decide) (vin_lit (x := 8) (by decide)) ?_
  rw [show ((8 : Int32).toNatClampNeg) = 8 from by decide]
  refine Wp.topL (fun L5596 eL5596 => ?_)
  have Z5597 : ∀ j : Nat, 8 < j → L5596 5 j = 0 := fun j hj => (rdL_ne eL5596 (fun q => by omega)).trans (Z5594 j (by omega))
  have q5598 : L5596 5 8 = 627876 := rdL_eq eL5596
  refine g_iinc (pc1 := 99) (v := 49) (lv' := [(0, .ref 4), (1, .int 8), (2, .int 49), (3, .int 100)]) d_Tokens_init_96 rfl 2 rfl (by decide) (by decide) [1, 2, 0, 3] rfl ?_
  refine g_goto (tgt := 43) d_Tokens_init_99 (by decide) ?_
  refine g_iload_n (pc1 := 44) d_Tokens_init_43 rfl 2 rfl ?_
  refine g_strlen (pc1 := 49) rfl d_Tokens_init_44 d_Tokens_init_46 rfl (Nat.le_of_ble_eq_true rfl) ⟨Nat.le_of_ble_eq_true rfl, Nat.le_of_ble_eq_true rfl⟩ ?_
  refine g_icmp_ge (pc1 := 52) (tgt := 102) d_Tokens_init_49 (by decide) rfl (fun h => absurd h (by decide)) (fun _ => ?_)
  refine g_strchr (pc1 := 58) (v := 32) rfl d_Tokens_init_52 d_Tokens_init_54 d_Tokens_init_55 rfl 2 rfl (by decide) (by decide) (by decide +kernel) (Nat.le_of_ble_eq_true rfl) ⟨Nat.le_of_ble_eq_true rfl, Nat.le_of_ble_eq_true rfl⟩ ?_
  refine g_istore_n (pc1 := 59) (lv' := [(0, .ref 4), (1, .int 8), (2, .int 49), (3, .int 32)]) d_Tokens_init_58 rfl rfl (by decide) [1, 2, 3, 0] rfl ?_
  refine g_iload_n (pc1 := 60) d_Tokens_init_59 rfl 3 rfl ?_
  refine g_bipush (pc1 := 62) (v := 32) d_Tokens_init_60 rfl (by decide) ?_
  refine g_icmp_ne (pc1 := 65) (tgt := 71) d_Tokens_init_62 (by decide) rfl (fun h => absurd h (by decide)) (fun _ => ?_)
  refine g_iinc (pc1 := 68) (v := 9) (lv' := [(0, .ref 4), (1, .int 9), (2, .int 49), (3, .int 32)]) d_Tokens_init_65 rfl 1 rfl (by decide) (by decide) [1, 0, 2, 3] rfl ?_
  refine g_goto (tgt := 96) d_Tokens_init_68 (by decide) ?_
  refine g_iinc (pc1 := 99) (v := 50) (lv' := [(0, .ref 4), (1, .int 9), (2, .int 50), (3, .int 32)]) d_Tokens_init_96 rfl 2 rfl (by decide) (by decide) [1, 2, 0, 3] rfl ?_
  refine g_goto (tgt := 43) d_Tokens_init_99 (by decide) ?_
  refine g_iload_n (pc1 := 44) d_Tokens_init_43 rfl 2 rfl ?_
  refine g_strlen (pc1 := 49) rfl d_Tokens_init_44 d_Tokens_init_46 rfl (Nat.le_of_ble_eq_true rfl) ⟨Nat.le_of_ble_eq_true rfl, Nat.le_of_ble_eq_true rfl⟩ ?_
  refine g_icmp_ge (pc1 := 52) (tgt := 102) d_Tokens_init_49 (by decide) rfl (fun h => absurd h (by decide)) (fun _ => ?_)
  refine g_strchr (pc1 := 58) (v := 105) rfl d_Tokens_init_52 d_Tokens_init_54 d_Tokens_init_55 rfl 2 rfl (by decide) (by decide) (by decide +kernel) (Nat.le_of_ble_eq_true rfl) ⟨Nat.le_of_ble_eq_true rfl, Nat.le_of_ble_eq_true rfl⟩ ?_
  refine g_istore_n (pc1 := 59) (lv' := [(0, .ref 4), (1, .int 9), (2, .int 50), (3, .int 105)]) d_Tokens_init_58 rfl rfl (by decide) [1, 2, 3, 0] rfl ?_
  refine g_iload_n (pc1 := 60) d_Tokens_init_59 rfl 3 rfl ?_
  refine g_bipush (pc1 := 62) (v := 32) d_Tokens_init_60 rfl (by decide) ?_
  refine g_icmp_ne (pc1 := 65) (tgt := 71) d_Tokens_init_62 (by decide) rfl (fun _ => ?_) (fun h => absurd h (by decide))
  refine g_iload_n (pc1 := 72) d_Tokens_init_71 rfl 1 rfl ?_
  refine g_aload_n (pc1 := 73) d_Tokens_init_72 rfl 0 rfl ?_
  refine g_getr (pc1 := 76) d_Tokens_init_73 rfl ⟨_, fo_Tokens_9⟩ sh_4 (by decide) q5474 ?_
  refine g_alen (pc1 := 77) (v := 21) d_Tokens_init_76 rfl sh_5 (by decide) (by decide) (by decide) (by decide) ?_
  refine g_icmp_ge (pc1 := 80) (tgt := 96) d_Tokens_init_77 (by decide) rfl (fun h => absurd h (by decide)) (fun _ => ?_)
  refine g_aload_n (pc1 := 81) d_Tokens_init_80 rfl 0 rfl ?_
  refine g_getr (pc1 := 84) d_Tokens_init_81 rfl ⟨_, fo_Tokens_9⟩ sh_4 (by decide) q5474 ?_
  refine g_iload_n (pc1 := 85) d_Tokens_init_84 rfl 1 rfl ?_
  refine g_aload_n (pc1 := 86) d_Tokens_init_85 rfl 0 rfl ?_
  refine g_getr (pc1 := 89) d_Tokens_init_86 rfl ⟨_, fo_Tokens_9⟩ sh_4 (by decide) q5474 ?_
  refine g_iload_n (pc1 := 90) d_Tokens_init_89 rfl 1 rfl ?_
  refine g_lald (pc1 := 91) d_Tokens_init_90 rfl sh_5 (by decide) (vin_lit (x := 9) (by decide)) ?_
  refine Wp.vall (y := 0) (by rw [show (9 : Int32).toNatClampNeg = 9 from by decide]; exact (Z5597 9 (by decide))) ?_
  refine g_iload_n (pc1 := 92) d_Tokens_init_91 rfl 3 rfl ?_
  refine g_callS (pc1 := 95) (E' := (0, 0, 9)) (As := [.long 0, .int 105]) (rest := [.int 9, .ref 5]) d_Tokens_init_92 rfl mo_Tokens_37 ms_Tokens_withLetter (by decide) rfl rfl (Nat.le_of_ble_eq_true rfl) ⟨Nat.le_of_ble_eq_true rfl, Nat.le_of_ble_eq_true rfl⟩ rfl ?_
  refine t0_withLetter ?_
  dsimp only [psh]
  refine Wp.vall (y := 9) (by decide +kernel) ?_
  refine g_last (pc1 := 96) d_Tokens_init_95 rfl sh_5 (by decide) (vin_lit (x := 9) (by decide)) ?_
  rw [show ((9 : Int32).toNatClampNeg) = 9 from by decide]
  refine Wp.topL (fun L5599 eL5599 => ?_)
  have Z5600 : ∀ j : Nat, 9 < j → L5599 5 j = 0 := fun j hj => (rdL_ne eL5599 (fun q => by omega)).trans (Z5597 j (by omega))
  have q5601 : L5599 5 9 = 9 := rdL_eq eL5599
  refine g_iinc (pc1 := 99) (v := 51) (lv' := [(0, .ref 4), (1, .int 9), (2, .int 51), (3, .int 105)]) d_Tokens_init_96 rfl 2 rfl (by decide) (by decide) [1, 2, 0, 3] rfl ?_
  refine g_goto (tgt := 43) d_Tokens_init_99 (by decide) ?_
  refine g_iload_n (pc1 := 44) d_Tokens_init_43 rfl 2 rfl ?_
  refine g_strlen (pc1 := 49) rfl d_Tokens_init_44 d_Tokens_init_46 rfl (Nat.le_of_ble_eq_true rfl) ⟨Nat.le_of_ble_eq_true rfl, Nat.le_of_ble_eq_true rfl⟩ ?_
  refine g_icmp_ge (pc1 := 52) (tgt := 102) d_Tokens_init_49 (by decide) rfl (fun h => absurd h (by decide)) (fun _ => ?_)
  refine g_strchr (pc1 := 58) (v := 102) rfl d_Tokens_init_52 d_Tokens_init_54 d_Tokens_init_55 rfl 2 rfl (by decide) (by decide) (by decide +kernel) (Nat.le_of_ble_eq_true rfl) ⟨Nat.le_of_ble_eq_true rfl, Nat.le_of_ble_eq_true rfl⟩ ?_
  refine g_istore_n (pc1 := 59) (lv' := [(0, .ref 4), (1, .int 9), (2, .int 51), (3, .int 102)]) d_Tokens_init_58 rfl rfl (by decide) [1, 2, 3, 0] rfl ?_
  refine g_iload_n (pc1 := 60) d_Tokens_init_59 rfl 3 rfl ?_
  refine g_bipush (pc1 := 62) (v := 32) d_Tokens_init_60 rfl (by decide) ?_
  refine g_icmp_ne (pc1 := 65) (tgt := 71) d_Tokens_init_62 (by decide) rfl (fun _ => ?_) (fun h => absurd h (by decide))
  refine g_iload_n (pc1 := 72) d_Tokens_init_71 rfl 1 rfl ?_
  refine g_aload_n (pc1 := 73) d_Tokens_init_72 rfl 0 rfl ?_
  refine g_getr (pc1 := 76) d_Tokens_init_73 rfl ⟨_, fo_Tokens_9⟩ sh_4 (by decide) q5474 ?_
  refine g_alen (pc1 := 77) (v := 21) d_Tokens_init_76 rfl sh_5 (by decide) (by decide) (by decide) (by decide) ?_
  refine g_icmp_ge (pc1 := 80) (tgt := 96) d_Tokens_init_77 (by decide) rfl (fun h => absurd h (by decide)) (fun _ => ?_)
  refine g_aload_n (pc1 := 81) d_Tokens_init_80 rfl 0 rfl ?_
  refine g_getr (pc1 := 84) d_Tokens_init_81 rfl ⟨_, fo_Tokens_9⟩ sh_4 (by decide) q5474 ?_
  refine g_iload_n (pc1 := 85) d_Tokens_init_84 rfl 1 rfl ?_
  refine g_aload_n (pc1 := 86) d_Tokens_init_85 rfl 0 rfl ?_
  refine g_getr (pc1 := 89) d_Tokens_init_86 rfl ⟨_, fo_Tokens_9⟩ sh_4 (by decide) q5474 ?_
  refine g_iload_n (pc1 := 90) d_Tokens_init_89 rfl 1 rfl ?_
  refine g_lald (pc1 := 91) d_Tokens_init_90 rfl sh_5 (by decide) (vin_lit (x := 9) (by decide)) ?_
  refine Wp.vall (y := 9) (by rw [show (9 : Int32).toNatClampNeg = 9 from by decide]; exact q5601) ?_
  refine g_iload_n (pc1 := 92) d_Tokens_init_91 rfl 3 rfl ?_
  refine g_callS (pc1 := 95) (E' := (0, 0, 9)) (As := [.long 9, .int 102]) (rest := [.int 9, .ref 5]) d_Tokens_init_92 rfl mo_Tokens_37 ms_Tokens_withLetter (by decide) rfl rfl (Nat.le_of_ble_eq_true rfl) ⟨Nat.le_of_ble_eq_true rfl, Nat.le_of_ble_eq_true rfl⟩ rfl ?_
  refine t0_withLetter ?_
  dsimp only [psh]
  refine Wp.vall (y := 294) (by decide +kernel) ?_
  refine g_last (pc1 := 96) d_Tokens_init_95 rfl sh_5 (by decide) (vin_lit (x := 9) (by decide)) ?_
  rw [show ((9 : Int32).toNatClampNeg) = 9 from by decide]
  refine Wp.topL (fun L5602 eL5602 => ?_)
  have Z5603 : ∀ j : Nat, 9 < j → L5602 5 j = 0 := fun j hj => (rdL_ne eL5602 (fun q => by omega)).trans (Z5600 j (by omega))
  have q5604 : L5602 5 9 = 294 := rdL_eq eL5602
  refine g_iinc (pc1 := 99) (v := 52) (lv' := [(0, .ref 4), (1, .int 9), (2, .int 52), (3, .int 102)]) d_Tokens_init_96 rfl 2 rfl (by decide) (by decide) [1, 2, 0, 3] rfl ?_
  refine g_goto (tgt := 43) d_Tokens_init_99 (by decide) ?_
  refine g_iload_n (pc1 := 44) d_Tokens_init_43 rfl 2 rfl ?_
  refine g_strlen (pc1 := 49) rfl d_Tokens_init_44 d_Tokens_init_46 rfl (Nat.le_of_ble_eq_true rfl) ⟨Nat.le_of_ble_eq_true rfl, Nat.le_of_ble_eq_true rfl⟩ ?_
  refine g_icmp_ge (pc1 := 52) (tgt := 102) d_Tokens_init_49 (by decide) rfl (fun h => absurd h (by decide)) (fun _ => ?_)
  refine g_strchr (pc1 := 58) (v := 32) rfl d_Tokens_init_52 d_Tokens_init_54 d_Tokens_init_55 rfl 2 rfl (by decide) (by decide) (by decide +kernel) (Nat.le_of_ble_eq_true rfl) ⟨Nat.le_of_ble_eq_true rfl, Nat.le_of_ble_eq_true rfl⟩ ?_
  refine g_istore_n (pc1 := 59) (lv' := [(0, .ref 4), (1, .int 9), (2, .int 52), (3, .int 32)]) d_Tokens_init_58 rfl rfl (by decide) [1, 2, 3, 0] rfl ?_
  refine g_iload_n (pc1 := 60) d_Tokens_init_59 rfl 3 rfl ?_
  refine g_bipush (pc1 := 62) (v := 32) d_Tokens_init_60 rfl (by decide) ?_
  refine g_icmp_ne (pc1 := 65) (tgt := 71) d_Tokens_init_62 (by decide) rfl (fun h => absurd h (by decide)) (fun _ => ?_)
  refine g_iinc (pc1 := 68) (v := 10) (lv' := [(0, .ref 4), (1, .int 10), (2, .int 52), (3, .int 32)]) d_Tokens_init_65 rfl 1 rfl (by decide) (by decide) [1, 0, 2, 3] rfl ?_
  refine g_goto (tgt := 96) d_Tokens_init_68 (by decide) ?_
  refine g_iinc (pc1 := 99) (v := 53) (lv' := [(0, .ref 4), (1, .int 10), (2, .int 53), (3, .int 32)]) d_Tokens_init_96 rfl 2 rfl (by decide) (by decide) [1, 2, 0, 3] rfl ?_
  refine g_goto (tgt := 43) d_Tokens_init_99 (by decide) ?_
  refine g_iload_n (pc1 := 44) d_Tokens_init_43 rfl 2 rfl ?_
  refine g_strlen (pc1 := 49) rfl d_Tokens_init_44 d_Tokens_init_46 rfl (Nat.le_of_ble_eq_true rfl) ⟨Nat.le_of_ble_eq_true rfl, Nat.le_of_ble_eq_true rfl⟩ ?_
  refine g_icmp_ge (pc1 := 52) (tgt := 102) d_Tokens_init_49 (by decide) rfl (fun h => absurd h (by decide)) (fun _ => ?_)
  refine g_strchr (pc1 := 58) (v := 116) rfl d_Tokens_init_52 d_Tokens_init_54 d_Tokens_init_55 rfl 2 rfl (by decide) (by decide) (by decide +kernel) (Nat.le_of_ble_eq_true rfl) ⟨Nat.le_of_ble_eq_true rfl, Nat.le_of_ble_eq_true rfl⟩ ?_
  refine g_istore_n (pc1 := 59) (lv' := [(0, .ref 4), (1, .int 10), (2, .int 53), (3, .int 116)]) d_Tokens_init_58 rfl rfl (by decide) [1, 2, 3, 0] rfl ?_
  refine g_iload_n (pc1 := 60) d_Tokens_init_59 rfl 3 rfl ?_
  refine g_bipush (pc1 := 62) (v := 32) d_Tokens_init_60 rfl (by decide) ?_
  refine g_icmp_ne (pc1 := 65) (tgt := 71) d_Tokens_init_62 (by decide) rfl (fun _ => ?_) (fun h => absurd h (by decide))
  refine g_iload_n (pc1 := 72) d_Tokens_init_71 rfl 1 rfl ?_
  refine g_aload_n (pc1 := 73) d_Tokens_init_72 rfl 0 rfl ?_
  refine g_getr (pc1 := 76) d_Tokens_init_73 rfl ⟨_, fo_Tokens_9⟩ sh_4 (by decide) q5474 ?_
  refine g_alen (pc1 := 77) (v := 21) d_Tokens_init_76 rfl sh_5 (by decide) (by decide) (by decide) (by decide) ?_
  refine g_icmp_ge (pc1 := 80) (tgt := 96) d_Tokens_init_77 (by decide) rfl (fun h => absurd h (by decide)) (fun _ => ?_)
  refine g_aload_n (pc1 := 81) d_Tokens_init_80 rfl 0 rfl ?_
  refine g_getr (pc1 := 84) d_Tokens_init_81 rfl ⟨_, fo_Tokens_9⟩ sh_4 (by decide) q5474 ?_
  refine g_iload_n (pc1 := 85) d_Tokens_init_84 rfl 1 rfl ?_
  refine g_aload_n (pc1 := 86) d_Tokens_init_85 rfl 0 rfl ?_
  refine g_getr (pc1 := 89) d_Tokens_init_86 rfl ⟨_, fo_Tokens_9⟩ sh_4 (by decide) q5474 ?_
  refine g_iload_n (pc1 := 90) d_Tokens_init_89 rfl 1 rfl ?_
  refine g_lald (pc1 := 91) d_Tokens_init_90 rfl sh_5 (by decide) (vin_lit (x := 10) (by decide)) ?_
  refine Wp.vall (y := 0) (by rw [show (10 : Int32).toNatClampNeg = 10 from by decide]; exact (Z5603 10 (by decide))) ?_
  refine g_iload_n (pc1 := 92) d_Tokens_init_91 rfl 3 rfl ?_
  refine g_callS (pc1 := 95) (E' := (0, 0, 9)) (As := [.long 0, .int 116]) (rest := [.int 10, .ref 5]) d_Tokens_init_92 rfl mo_Tokens_37 ms_Tokens_withLetter (by decide) rfl rfl (Nat.le_of_ble_eq_true rfl) ⟨Nat.le_of_ble_eq_true rfl, Nat.le_of_ble_eq_true rfl⟩ rfl ?_
  refine t0_withLetter ?_
  dsimp only [psh]
  refine Wp.vall (y := 20) (by decide +kernel) ?_
  refine g_last (pc1 := 96) d_Tokens_init_95 rfl sh_5 (by decide) (vin_lit (x := 10) (by decide)) ?_
  rw [show ((10 : Int32).toNatClampNeg) = 10 from by decide]
  refine Wp.topL (fun L5605 eL5605 => ?_)
  have Z5606 : ∀ j : Nat, 10 < j → L5605 5 j = 0 := fun j hj => (rdL_ne eL5605 (fun q => by omega)).trans (Z5603 j (by omega))
  have q5607 : L5605 5 10 = 20 := rdL_eq eL5605
  refine g_iinc (pc1 := 99) (v := 54) (lv' := [(0, .ref 4), (1, .int 10), (2, .int 54), (3, .int 116)]) d_Tokens_init_96 rfl 2 rfl (by decide) (by decide) [1, 2, 0, 3] rfl ?_
  refine g_goto (tgt := 43) d_Tokens_init_99 (by decide) ?_
  refine g_iload_n (pc1 := 44) d_Tokens_init_43 rfl 2 rfl ?_
  refine g_strlen (pc1 := 49) rfl d_Tokens_init_44 d_Tokens_init_46 rfl (Nat.le_of_ble_eq_true rfl) ⟨Nat.le_of_ble_eq_true rfl, Nat.le_of_ble_eq_true rfl⟩ ?_
  refine g_icmp_ge (pc1 := 52) (tgt := 102) d_Tokens_init_49 (by decide) rfl (fun h => absurd h (by decide)) (fun _ => ?_)
  refine g_strchr (pc1 := 58) (v := 104) rfl d_Tokens_init_52 d_Tokens_init_54 d_Tokens_init_55 rfl 2 rfl (by decide) (by decide) (by decide +kernel) (Nat.le_of_ble_eq_true rfl) ⟨Nat.le_of_ble_eq_true rfl, Nat.le_of_ble_eq_true rfl⟩ ?_
  refine g_istore_n (pc1 := 59) (lv' := [(0, .ref 4), (1, .int 10), (2, .int 54), (3, .int 104)]) d_Tokens_init_58 rfl rfl (by decide) [1, 2, 3, 0] rfl ?_
  refine g_iload_n (pc1 := 60) d_Tokens_init_59 rfl 3 rfl ?_
  refine g_bipush (pc1 := 62) (v := 32) d_Tokens_init_60 rfl (by decide) ?_
  refine g_icmp_ne (pc1 := 65) (tgt := 71) d_Tokens_init_62 (by decide) rfl (fun _ => ?_) (fun h => absurd h (by decide))
  refine g_iload_n (pc1 := 72) d_Tokens_init_71 rfl 1 rfl ?_
  refine g_aload_n (pc1 := 73) d_Tokens_init_72 rfl 0 rfl ?_
  refine g_getr (pc1 := 76) d_Tokens_init_73 rfl ⟨_, fo_Tokens_9⟩ sh_4 (by decide) q5474 ?_
  refine g_alen (pc1 := 77) (v := 21) d_Tokens_init_76 rfl sh_5 (by decide) (by decide) (by decide) (by decide) ?_
  refine g_icmp_ge (pc1 := 80) (tgt := 96) d_Tokens_init_77 (by decide) rfl (fun h => absurd h (by decide)) (fun _ => ?_)
  refine g_aload_n (pc1 := 81) d_Tokens_init_80 rfl 0 rfl ?_
  refine g_getr (pc1 := 84) d_Tokens_init_81 rfl ⟨_, fo_Tokens_9⟩ sh_4 (by decide) q5474 ?_
  refine g_iload_n (pc1 := 85) d_Tokens_init_84 rfl 1 rfl ?_
  refine g_aload_n (pc1 := 86) d_Tokens_init_85 rfl 0 rfl ?_
  refine g_getr (pc1 := 89) d_Tokens_init_86 rfl ⟨_, fo_Tokens_9⟩ sh_4 (by decide) q5474 ?_
  refine g_iload_n (pc1 := 90) d_Tokens_init_89 rfl 1 rfl ?_
  refine g_lald (pc1 := 91) d_Tokens_init_90 rfl sh_5 (by decide) (vin_lit (x := 10) (by decide)) ?_
  refine Wp.vall (y := 20) (by rw [show (10 : Int32).toNatClampNeg = 10 from by decide]; exact q5607) ?_
  refine g_iload_n (pc1 := 92) d_Tokens_init_91 rfl 3 rfl ?_
  refine g_callS (pc1 := 95) (E' := (0, 0, 9)) (As := [.long 20, .int 104]) (rest := [.int 10, .ref 5]) d_Tokens_init_92 rfl mo_Tokens_37 ms_Tokens_withLetter (by decide) rfl rfl (Nat.le_of_ble_eq_true rfl) ⟨Nat.le_of_ble_eq_true rfl, Nat.le_of_ble_eq_true rfl⟩ rfl ?_
  refine t0_withLetter ?_
  dsimp only [psh]
  refine Wp.vall (y := 648) (by decide +kernel) ?_
  refine g_last (pc1 := 96) d_Tokens_init_95 rfl sh_5 (by decide) (vin_lit (x := 10) (by decide)) ?_
  rw [show ((10 : Int32).toNatClampNeg) = 10 from by decide]
  refine Wp.topL (fun L5608 eL5608 => ?_)
  have Z5609 : ∀ j : Nat, 10 < j → L5608 5 j = 0 := fun j hj => (rdL_ne eL5608 (fun q => by omega)).trans (Z5606 j (by omega))
  have q5610 : L5608 5 10 = 648 := rdL_eq eL5608
  refine g_iinc (pc1 := 99) (v := 55) (lv' := [(0, .ref 4), (1, .int 10), (2, .int 55), (3, .int 104)]) d_Tokens_init_96 rfl 2 rfl (by decide) (by decide) [1, 2, 0, 3] rfl ?_
  refine g_goto (tgt := 43) d_Tokens_init_99 (by decide) ?_
  refine g_iload_n (pc1 := 44) d_Tokens_init_43 rfl 2 rfl ?_
  refine g_strlen (pc1 := 49) rfl d_Tokens_init_44 d_Tokens_init_46 rfl (Nat.le_of_ble_eq_true rfl) ⟨Nat.le_of_ble_eq_true rfl, Nat.le_of_ble_eq_true rfl⟩ ?_
  refine g_icmp_ge (pc1 := 52) (tgt := 102) d_Tokens_init_49 (by decide) rfl (fun h => absurd h (by decide)) (fun _ => ?_)
  refine g_strchr (pc1 := 58) (v := 101) rfl d_Tokens_init_52 d_Tokens_init_54 d_Tokens_init_55 rfl 2 rfl (by decide) (by decide) (by decide +kernel) (Nat.le_of_ble_eq_true rfl) ⟨Nat.le_of_ble_eq_true rfl, Nat.le_of_ble_eq_true rfl⟩ ?_
  refine g_istore_n (pc1 := 59) (lv' := [(0, .ref 4), (1, .int 10), (2, .int 55), (3, .int 101)]) d_Tokens_init_58 rfl rfl (by decide) [1, 2, 3, 0] rfl ?_
  refine g_iload_n (pc1 := 60) d_Tokens_init_59 rfl 3 rfl ?_
  refine g_bipush (pc1 := 62) (v := 32) d_Tokens_init_60 rfl (by decide) ?_
  refine g_icmp_ne (pc1 := 65) (tgt := 71) d_Tokens_init_62 (by decide) rfl (fun _ => ?_) (fun h => absurd h (by decide))
  refine g_iload_n (pc1 := 72) d_Tokens_init_71 rfl 1 rfl ?_
  refine g_aload_n (pc1 := 73) d_Tokens_init_72 rfl 0 rfl ?_
  refine g_getr (pc1 := 76) d_Tokens_init_73 rfl ⟨_, fo_Tokens_9⟩ sh_4 (by decide) q5474 ?_
  refine g_alen (pc1 := 77) (v := 21) d_Tokens_init_76 rfl sh_5 (by decide) (by decide) (by decide) (by decide) ?_
  refine g_icmp_ge (pc1 := 80) (tgt := 96) d_Tokens_init_77 (by decide) rfl (fun h => absurd h (by decide)) (fun _ => ?_)
  refine g_aload_n (pc1 := 81) d_Tokens_init_80 rfl 0 rfl ?_
  refine g_getr (pc1 := 84) d_Tokens_init_81 rfl ⟨_, fo_Tokens_9⟩ sh_4 (by decide) q5474 ?_
  refine g_iload_n (pc1 := 85) d_Tokens_init_84 rfl 1 rfl ?_
  refine g_aload_n (pc1 := 86) d_Tokens_init_85 rfl 0 rfl ?_
  refine g_getr (pc1 := 89) d_Tokens_init_86 rfl ⟨_, fo_Tokens_9⟩ sh_4 (by decide) q5474 ?_
  refine g_iload_n (pc1 := 90) d_Tokens_init_89 rfl 1 rfl ?_
  refine g_lald (pc1 := 91) d_Tokens_init_90 rfl sh_5 (by decide) (vin_lit (x := 10) (by decide)) ?_
  refine Wp.vall (y := 648) (by rw [show (10 : Int32).toNatClampNeg = 10 from by decide]; exact q5610) ?_
  refine g_iload_n (pc1 := 92) d_Tokens_init_91 rfl 3 rfl ?_
  refine g_callS (pc1 := 95) (E' := (0, 0, 9)) (As := [.long 648, .int 101]) (rest := [.int 10, .ref 5]) d_Tokens_init_92 rfl mo_Tokens_37 ms_Tokens_withLetter (by decide) rfl rfl (Nat.le_of_ble_eq_true rfl) ⟨Nat.le_of_ble_eq_true rfl, Nat.le_of_ble_eq_true rfl⟩ rfl ?_
  refine t0_withLetter ?_
  dsimp only [psh]
  refine Wp.vall (y := 20741) (by decide +kernel) ?_
  refine g_last (pc1 := 96) d_Tokens_init_95 rfl sh_5 (by decide) (vin_lit (x := 10) (by decide)) ?_
  rw [show ((10 : Int32).toNatClampNeg) = 10 from by decide]
  refine Wp.topL (fun L5611 eL5611 => ?_)
  have Z5612 : ∀ j : Nat, 10 < j → L5611 5 j = 0 := fun j hj => (rdL_ne eL5611 (fun q => by omega)).trans (Z5609 j (by omega))
  have q5613 : L5611 5 10 = 20741 := rdL_eq eL5611
  refine g_iinc (pc1 := 99) (v := 56) (lv' := [(0, .ref 4), (1, .int 10), (2, .int 56), (3, .int 101)]) d_Tokens_init_96 rfl 2 rfl (by decide) (by decide) [1, 2, 0, 3] rfl ?_
  refine g_goto (tgt := 43) d_Tokens_init_99 (by decide) ?_
  refine g_iload_n (pc1 := 44) d_Tokens_init_43 rfl 2 rfl ?_
  refine g_strlen (pc1 := 49) rfl d_Tokens_init_44 d_Tokens_init_46 rfl (Nat.le_of_ble_eq_true rfl) ⟨Nat.le_of_ble_eq_true rfl, Nat.le_of_ble_eq_true rfl⟩ ?_
  refine g_icmp_ge (pc1 := 52) (tgt := 102) d_Tokens_init_49 (by decide) rfl (fun h => absurd h (by decide)) (fun _ => ?_)
  refine g_strchr (pc1 := 58) (v := 110) rfl d_Tokens_init_52 d_Tokens_init_54 d_Tokens_init_55 rfl 2 rfl (by decide) (by decide) (by decide +kernel) (Nat.le_of_ble_eq_true rfl) ⟨Nat.le_of_ble_eq_true rfl, Nat.le_of_ble_eq_true rfl⟩ ?_
  refine g_istore_n (pc1 := 59) (lv' := [(0, .ref 4), (1, .int 10), (2, .int 56), (3, .int 110)]) d_Tokens_init_58 rfl rfl (by decide) [1, 2, 3, 0] rfl ?_
  refine g_iload_n (pc1 := 60) d_Tokens_init_59 rfl 3 rfl ?_
  refine g_bipush (pc1 := 62) (v := 32) d_Tokens_init_60 rfl (by decide) ?_
  refine g_icmp_ne (pc1 := 65) (tgt := 71) d_Tokens_init_62 (by decide) rfl (fun _ => ?_) (fun h => absurd h (by decide))
  refine g_iload_n (pc1 := 72) d_Tokens_init_71 rfl 1 rfl ?_
  refine g_aload_n (pc1 := 73) d_Tokens_init_72 rfl 0 rfl ?_
  refine g_getr (pc1 := 76) d_Tokens_init_73 rfl ⟨_, fo_Tokens_9⟩ sh_4 (by decide) q5474 ?_
  refine g_alen (pc1 := 77) (v := 21) d_Tokens_init_76 rfl sh_5 (by decide) (by decide) (by decide) (by decide) ?_
  refine g_icmp_ge (pc1 := 80) (tgt := 96) d_Tokens_init_77 (by decide) rfl (fun h => absurd h (by decide)) (fun _ => ?_)
  refine g_aload_n (pc1 := 81) d_Tokens_init_80 rfl 0 rfl ?_
  refine g_getr (pc1 := 84) d_Tokens_init_81 rfl ⟨_, fo_Tokens_9⟩ sh_4 (by decide) q5474 ?_
  refine g_iload_n (pc1 := 85) d_Tokens_init_84 rfl 1 rfl ?_
  refine g_aload_n (pc1 := 86) d_Tokens_init_85 rfl 0 rfl ?_
  refine g_getr (pc1 := 89) d_Tokens_init_86 rfl ⟨_, fo_Tokens_9⟩ sh_4 (by decide) q5474 ?_
  refine g_iload_n (pc1 := 90) d_Tokens_init_89 rfl 1 rfl ?_
  refine g_lald (pc1 := 91) d_Tokens_init_90 rfl sh_5 (by decide) (vin_lit (x := 10) (by decide)) ?_
  refine Wp.vall (y := 20741) (by rw [show (10 : Int32).toNatClampNeg = 10 from by decide]; exact q5613) ?_
  refine g_iload_n (pc1 := 92) d_Tokens_init_91 rfl 3 rfl ?_
  refine g_callS (pc1 := 95) (E' := (0, 0, 9)) (As := [.long 20741, .int 110]) (rest := [.int 10, .ref 5]) d_Tokens_init_92 rfl mo_Tokens_37 ms_Tokens_withLetter (by decide) rfl rfl (Nat.le_of_ble_eq_true rfl) ⟨Nat.le_of_ble_eq_true rfl, Nat.le_of_ble_eq_true rfl⟩ rfl ?_
  refine t0_withLetter ?_
  dsimp only [psh]
  refine Wp.vall (y := 663726) (by decide +kernel) ?_
  refine g_last (pc1 := 96) d_Tokens_init_95 rfl sh_5 (by decide) (vin_lit (x := 10) (by decide)) ?_
  rw [show ((10 : Int32).toNatClampNeg) = 10 from by decide]
  refine Wp.topL (fun L5614 eL5614 => ?_)
  have Z5615 : ∀ j : Nat, 10 < j → L5614 5 j = 0 := fun j hj => (rdL_ne eL5614 (fun q => by omega)).trans (Z5612 j (by omega))
  have q5616 : L5614 5 10 = 663726 := rdL_eq eL5614
  refine g_iinc (pc1 := 99) (v := 57) (lv' := [(0, .ref 4), (1, .int 10), (2, .int 57), (3, .int 110)]) d_Tokens_init_96 rfl 2 rfl (by decide) (by decide) [1, 2, 0, 3] rfl ?_
  refine g_goto (tgt := 43) d_Tokens_init_99 (by decide) ?_
  refine g_iload_n (pc1 := 44) d_Tokens_init_43 rfl 2 rfl ?_
  refine g_strlen (pc1 := 49) rfl d_Tokens_init_44 d_Tokens_init_46 rfl (Nat.le_of_ble_eq_true rfl) ⟨Nat.le_of_ble_eq_true rfl, Nat.le_of_ble_eq_true rfl⟩ ?_
  refine g_icmp_ge (pc1 := 52) (tgt := 102) d_Tokens_init_49 (by decide) rfl (fun h => absurd h (by decide)) (fun _ => ?_)
  refine g_strchr (pc1 := 58) (v := 32) rfl d_Tokens_init_52 d_Tokens_init_54 d_Tokens_init_55 rfl 2 rfl (by decide) (by decide) (by decide +kernel) (Nat.le_of_ble_eq_true rfl) ⟨Nat.le_of_ble_eq_true rfl, Nat.le_of_ble_eq_true rfl⟩ ?_
  refine g_istore_n (pc1 := 59) (lv' := [(0, .ref 4), (1, .int 10), (2, .int 57), (3, .int 32)]) d_Tokens_init_58 rfl rfl (by decide) [1, 2, 3, 0] rfl ?_
  refine g_iload_n (pc1 := 60) d_Tokens_init_59 rfl 3 rfl ?_
  refine g_bipush (pc1 := 62) (v := 32) d_Tokens_init_60 rfl (by decide) ?_
  refine g_icmp_ne (pc1 := 65) (tgt := 71) d_Tokens_init_62 (by decide) rfl (fun h => absurd h (by decide)) (fun _ => ?_)
  refine g_iinc (pc1 := 68) (v := 11) (lv' := [(0, .ref 4), (1, .int 11), (2, .int 57), (3, .int 32)]) d_Tokens_init_65 rfl 1 rfl (by decide) (by decide) [1, 0, 2, 3] rfl ?_
  refine g_goto (tgt := 96) d_Tokens_init_68 (by decide) ?_
  refine g_iinc (pc1 := 99) (v := 58) (lv' := [(0, .ref 4), (1, .int 11), (2, .int 58), (3, .int 32)]) d_Tokens_init_96 rfl 2 rfl (by decide) (by decide) [1, 2, 0, 3] rfl ?_
  refine g_goto (tgt := 43) d_Tokens_init_99 (by decide) ?_
  refine g_iload_n (pc1 := 44) d_Tokens_init_43 rfl 2 rfl ?_
  refine g_strlen (pc1 := 49) rfl d_Tokens_init_44 d_Tokens_init_46 rfl (Nat.le_of_ble_eq_true rfl) ⟨Nat.le_of_ble_eq_true rfl, Nat.le_of_ble_eq_true rfl⟩ ?_
  refine g_icmp_ge (pc1 := 52) (tgt := 102) d_Tokens_init_49 (by decide) rfl (fun h => absurd h (by decide)) (fun _ => ?_)
  refine g_strchr (pc1 := 58) (v := 101) rfl d_Tokens_init_52 d_Tokens_init_54 d_Tokens_init_55 rfl 2 rfl (by decide) (by decide) (by decide +kernel) (Nat.le_of_ble_eq_true rfl) ⟨Nat.le_of_ble_eq_true rfl, Nat.le_of_ble_eq_true rfl⟩ ?_
  refine g_istore_n (pc1 := 59) (lv' := [(0, .ref 4), (1, .int 11), (2, .int 58), (3, .int 101)]) d_Tokens_init_58 rfl rfl (by decide) [1, 2, 3, 0] rfl ?_
  refine g_iload_n (pc1 := 60) d_Tokens_init_59 rfl 3 rfl ?_
  refine g_bipush (pc1 := 62) (v := 32) d_Tokens_init_60 rfl (by decide) ?_
  refine g_icmp_ne (pc1 := 65) (tgt := 71) d_Tokens_init_62 (by decide) rfl (fun _ => ?_) (fun h => absurd h (by decide))
  refine g_iload_n (pc1 := 72) d_Tokens_init_71 rfl 1 rfl ?_
  refine g_aload_n (pc1 := 73) d_Tokens_init_72 rfl 0 rfl ?_
  refine g_getr (pc1 := 76) d_Tokens_init_73 rfl ⟨_, fo_Tokens_9⟩ sh_4 (by decide) q5474 ?_
  refine g_alen (pc1 := 77) (v := 21) d_Tokens_init_76 rfl sh_5 (by decide) (by decide) (by decide) (by decide) ?_
  refine g_icmp_ge (pc1 := 80) (tgt := 96) d_Tokens_init_77 (by decide) rfl (fun h => absurd h (by decide)) (fun _ => ?_)
  refine g_aload_n (pc1 := 81) d_Tokens_init_80 rfl 0 rfl ?_
  refine g_getr (pc1 := 84) d_Tokens_init_81 rfl ⟨_, fo_Tokens_9⟩ sh_4 (by decide) q5474 ?_
  refine g_iload_n (pc1 := 85) d_Tokens_init_84 rfl 1 rfl ?_
  refine g_aload_n (pc1 := 86) d_Tokens_init_85 rfl 0 rfl ?_
  refine g_getr (pc1 := 89) d_Tokens_init_86 rfl ⟨_, fo_Tokens_9⟩ sh_4 (by decide) q5474 ?_
  refine g_iload_n (pc1 := 90) d_Tokens_init_89 rfl 1 rfl ?_
  refine g_lald (pc1 := 91) d_Tokens_init_90 rfl sh_5 (by decide) (vin_lit (x := 11) (by decide)) ?_
  refine Wp.vall (y := 0) (by rw [show (11 : Int32).toNatClampNeg = 11 from by decide]; exact (Z5615 11 (by decide))) ?_
  refine g_iload_n (pc1 := 92) d_Tokens_init_91 rfl 3 rfl ?_
  refine g_callS (pc1 := 95) (E' := (0, 0, 9)) (As := [.long 0, .int 101]) (rest := [.int 11, .ref 5]) d_Tokens_init_92 rfl mo_Tokens_37 ms_Tokens_withLetter (by decide) rfl rfl (Nat.le_of_ble_eq_true rfl) ⟨Nat.le_of_ble_eq_true rfl, Nat.le_of_ble_eq_true rfl⟩ rfl ?_
  refine t0_withLetter ?_
  dsimp only [psh]
  refine Wp.vall (y := 5) (by decide +kernel) ?_
  refine g_last (pc1 := 96) d_Tokens_init_95 rfl sh_5 (by decide) (vin_lit (x := 11) (by decide)) ?_
  rw [show ((11 : Int32).toNatClampNeg) = 11 from by decide]
  refine Wp.topL (fun L5617 eL5617 => ?_)
  have Z5618 : ∀ j : Nat, 11 < j → L5617 5 j = 0 := fun j hj => (rdL_ne eL5617 (fun q => by omega)).trans (Z5615 j (by omega))
  have q5619 : L5617 5 11 = 5 := rdL_eq eL5617
  refine g_iinc (pc1 := 99) (v := 59) (lv' := [(0, .ref 4), (1, .int 11), (2, .int 59), (3, .int 101)]) d_Tokens_init_96 rfl 2 rfl (by decide) (by decide) [1, 2, 0, 3] rfl ?_
  refine g_goto (tgt := 43) d_Tokens_init_99 (by decide) ?_
  refine g_iload_n (pc1 := 44) d_Tokens_init_43 rfl 2 rfl ?_
  refine g_strlen (pc1 := 49) rfl d_Tokens_init_44 d_Tokens_init_46 rfl (Nat.le_of_ble_eq_true rfl) ⟨Nat.le_of_ble_eq_true rfl, Nat.le_of_ble_eq_true rfl⟩ ?_
  refine g_icmp_ge (pc1 := 52) (tgt := 102) d_Tokens_init_49 (by decide) rfl (fun h => absurd h (by decide)) (fun _ => ?_)
  refine g_strchr (pc1 := 58) (v := 108) rfl d_Tokens_init_52 d_Tokens_init_54 d_Tokens_init_55 rfl 2 rfl (by decide) (by decide) (by decide +kernel) (Nat.le_of_ble_eq_true rfl) ⟨Nat.le_of_ble_eq_true rfl, Nat.le_of_ble_eq_true rfl⟩ ?_
  refine g_istore_n (pc1 := 59) (lv' := [(0, .ref 4), (1, .int 11), (2, .int 59), (3, .int 108)]) d_Tokens_init_58 rfl rfl (by decide) [1, 2, 3, 0] rfl ?_
  refine g_iload_n (pc1 := 60) d_Tokens_init_59 rfl 3 rfl ?_
  refine g_bipush (pc1 := 62) (v := 32) d_Tokens_init_60 rfl (by decide) ?_
  refine g_icmp_ne (pc1 := 65) (tgt := 71) d_Tokens_init_62 (by decide) rfl (fun _ => ?_) (fun h => absurd h (by decide))
  refine g_iload_n (pc1 := 72) d_Tokens_init_71 rfl 1 rfl ?_
  refine g_aload_n (pc1 := 73) d_Tokens_init_72 rfl 0 rfl ?_
  refine g_getr (pc1 := 76) d_Tokens_init_73 rfl ⟨_, fo_Tokens_9⟩ sh_4 (by decide) q5474 ?_
  refine g_alen (pc1 := 77) (v := 21) d_Tokens_init_76 rfl sh_5 (by decide) (by decide) (by decide) (by decide) ?_
  refine g_icmp_ge (pc1 := 80) (tgt := 96) d_Tokens_init_77 (by decide) rfl (fun h => absurd h (by decide)) (fun _ => ?_)
  refine g_aload_n (pc1 := 81) d_Tokens_init_80 rfl 0 rfl ?_
  refine g_getr (pc1 := 84) d_Tokens_init_81 rfl ⟨_, fo_Tokens_9⟩ sh_4 (by decide) q5474 ?_
  refine g_iload_n (pc1 := 85) d_Tokens_init_84 rfl 1 rfl ?_
  refine g_aload_n (pc1 := 86) d_Tokens_init_85 rfl 0 rfl ?_
  refine g_getr (pc1 := 89) d_Tokens_init_86 rfl ⟨_, fo_Tokens_9⟩ sh_4 (by decide) q5474 ?_
  refine g_iload_n (pc1 := 90) d_Tokens_init_89 rfl 1 rfl ?_
  refine g_lald (pc1 := 91) d_Tokens_init_90 rfl sh_5 (by decide) (vin_lit (x := 11) (by decide)) ?_
  refine Wp.vall (y := 5) (by rw [show (11 : Int32).toNatClampNeg = 11 from by decide]; exact q5619) ?_
  refine g_iload_n (pc1 := 92) d_Tokens_init_91 rfl 3 rfl ?_
  refine g_callS (pc1 := 95) (E' := (0, 0, 9)) (As := [.long 5, .int 108]) (rest := [.int 11, .ref 5]) d_Tokens_init_92 rfl mo_Tokens_37 ms_Tokens_withLetter (by decide) rfl rfl (Nat.le_of_ble_eq_true rfl) ⟨Nat.le_of_ble_eq_true rfl, Nat.le_of_ble_eq_true rfl⟩ rfl ?_
  refine t0_withLetter ?_
  dsimp only [psh]
  refine Wp.vall (y := 172) (by decide +kernel) ?_
  refine g_last (pc1 := 96) d_Tokens_init_95 rfl sh_5 (by decide) (vin_lit (x := 11) (by decide)) ?_
  rw [show ((11 : Int32).toNatClampNeg) = 11 from by decide]
  refine Wp.topL (fun L5620 eL5620 => ?_)
  have Z5621 : ∀ j : Nat, 11 < j → L5620 5 j = 0 := fun j hj => (rdL_ne eL5620 (fun q => by omega)).trans (Z5618 j (by omega))
  have q5622 : L5620 5 11 = 172 := rdL_eq eL5620
  refine g_iinc (pc1 := 99) (v := 60) (lv' := [(0, .ref 4), (1, .int 11), (2, .int 60), (3, .int 108)]) d_Tokens_init_96 rfl 2 rfl (by decide) (by decide) [1, 2, 0, 3] rfl ?_
  refine g_goto (tgt := 43) d_Tokens_init_99 (by decide) ?_
  refine g_iload_n (pc1 := 44) d_Tokens_init_43 rfl 2 rfl ?_
  refine g_strlen (pc1 := 49) rfl d_Tokens_init_44 d_Tokens_init_46 rfl (Nat.le_of_ble_eq_true rfl) ⟨Nat.le_of_ble_eq_true rfl, Nat.le_of_ble_eq_true rfl⟩ ?_
  refine g_icmp_ge (pc1 := 52) (tgt := 102) d_Tokens_init_49 (by decide) rfl (fun h => absurd h (by decide)) (fun _ => ?_)
  refine g_strchr (pc1 := 58) (v := 115) rfl d_Tokens_init_52 d_Tokens_init_54 d_Tokens_init_55 rfl 2 rfl (by decide) (by decide) (by decide +kernel) (Nat.le_of_ble_eq_true rfl) ⟨Nat.le_of_ble_eq_true rfl, Nat.le_of_ble_eq_true rfl⟩ ?_
  refine g_istore_n (pc1 := 59) (lv' := [(0, .ref 4), (1, .int 11), (2, .int 60), (3, .int 115)]) d_Tokens_init_58 rfl rfl (by decide) [1, 2, 3, 0] rfl ?_
  refine g_iload_n (pc1 := 60) d_Tokens_init_59 rfl 3 rfl ?_
  refine g_bipush (pc1 := 62) (v := 32) d_Tokens_init_60 rfl (by decide) ?_
  refine g_icmp_ne (pc1 := 65) (tgt := 71) d_Tokens_init_62 (by decide) rfl (fun _ => ?_) (fun h => absurd h (by decide))
  refine g_iload_n (pc1 := 72) d_Tokens_init_71 rfl 1 rfl ?_
  refine g_aload_n (pc1 := 73) d_Tokens_init_72 rfl 0 rfl ?_
  refine g_getr (pc1 := 76) d_Tokens_init_73 rfl ⟨_, fo_Tokens_9⟩ sh_4 (by decide) q5474 ?_
  refine g_alen (pc1 := 77) (v := 21) d_Tokens_init_76 rfl sh_5 (by decide) (by decide) (by decide) (by decide) ?_
  refine g_icmp_ge (pc1 := 80) (tgt := 96) d_Tokens_init_77 (by decide) rfl (fun h => absurd h (by decide)) (fun _ => ?_)
  refine g_aload_n (pc1 := 81) d_Tokens_init_80 rfl 0 rfl ?_
  refine g_getr (pc1 := 84) d_Tokens_init_81 rfl ⟨_, fo_Tokens_9⟩ sh_4 (by decide) q5474 ?_
  refine g_iload_n (pc1 := 85) d_Tokens_init_84 rfl 1 rfl ?_
  refine g_aload_n (pc1 := 86) d_Tokens_init_85 rfl 0 rfl ?_
  refine g_getr (pc1 := 89) d_Tokens_init_86 rfl ⟨_, fo_Tokens_9⟩ sh_4 (by decide) q5474 ?_
  refine g_iload_n (pc1 := 90) d_Tokens_init_89 rfl 1 rfl ?_
  refine g_lald (pc1 := 91) d_Tokens_init_90 rfl sh_5 (by decide) (vin_lit (x := 11) (by decide)) ?_
  refine Wp.vall (y := 172) (by rw [show (11 : Int32).toNatClampNeg = 11 from by decide]; exact q5622) ?_
  refine g_iload_n (pc1 := 92) d_Tokens_init_91 rfl 3 rfl ?_
  refine g_callS (pc1 := 95) (E' := (0, 0, 9)) (As := [.long 172, .int 115]) (rest := [.int 11, .ref 5]) d_Tokens_init_92 rfl mo_Tokens_37 ms_Tokens_withLetter (by decide) rfl rfl (Nat.le_of_ble_eq_true rfl) ⟨Nat.le_of_ble_eq_true rfl, Nat.le_of_ble_eq_true rfl⟩ rfl ?_
  refine t0_withLetter ?_
  dsimp only [psh]
  refine Wp.vall (y := 5523) (by decide +kernel) ?_
  refine g_last (pc1 := 96) d_Tokens_init_95 rfl sh_5 (by decide) (vin_lit (x := 11) (by decide)) ?_
  rw [show ((11 : Int32).toNatClampNeg) = 11 from by decide]
  refine Wp.topL (fun L5623 eL5623 => ?_)
  have Z5624 : ∀ j : Nat, 11 < j → L5623 5 j = 0 := fun j hj => (rdL_ne eL5623 (fun q => by omega)).trans (Z5621 j (by omega))
  have q5625 : L5623 5 11 = 5523 := rdL_eq eL5623
  refine g_iinc (pc1 := 99) (v := 61) (lv' := [(0, .ref 4), (1, .int 11), (2, .int 61), (3, .int 115)]) d_Tokens_init_96 rfl 2 rfl (by decide) (by decide) [1, 2, 0, 3] rfl ?_
  refine g_goto (tgt := 43) d_Tokens_init_99 (by decide) ?_
  refine g_iload_n (pc1 := 44) d_Tokens_init_43 rfl 2 rfl ?_
  refine g_strlen (pc1 := 49) rfl d_Tokens_init_44 d_Tokens_init_46 rfl (Nat.le_of_ble_eq_true rfl) ⟨Nat.le_of_ble_eq_true rfl, Nat.le_of_ble_eq_true rfl⟩ ?_
  refine g_icmp_ge (pc1 := 52) (tgt := 102) d_Tokens_init_49 (by decide) rfl (fun h => absurd h (by decide)) (fun _ => ?_)
  refine g_strchr (pc1 := 58) (v := 101) rfl d_Tokens_init_52 d_Tokens_init_54 d_Tokens_init_55 rfl 2 rfl (by decide) (by decide) (by decide +kernel) (Nat.le_of_ble_eq_true rfl) ⟨Nat.le_of_ble_eq_true rfl, Nat.le_of_ble_eq_true rfl⟩ ?_
  refine g_istore_n (pc1 := 59) (lv' := [(0, .ref 4), (1, .int 11), (2, .int 61), (3, .int 101)]) d_Tokens_init_58 rfl rfl (by decide) [1, 2, 3, 0] rfl ?_
  refine g_iload_n (pc1 := 60) d_Tokens_init_59 rfl 3 rfl ?_
  refine g_bipush (pc1 := 62) (v := 32) d_Tokens_init_60 rfl (by decide) ?_
  refine g_icmp_ne (pc1 := 65) (tgt := 71) d_Tokens_init_62 (by decide) rfl (fun _ => ?_) (fun h => absurd h (by decide))
  refine g_iload_n (pc1 := 72) d_Tokens_init_71 rfl 1 rfl ?_
  refine g_aload_n (pc1 := 73) d_Tokens_init_72 rfl 0 rfl ?_
  refine g_getr (pc1 := 76) d_Tokens_init_73 rfl ⟨_, fo_Tokens_9⟩ sh_4 (by decide) q5474 ?_
  refine g_alen (pc1 := 77) (v := 21) d_Tokens_init_76 rfl sh_5 (by decide) (by decide) (by decide) (by decide) ?_
  refine g_icmp_ge (pc1 := 80) (tgt := 96) d_Tokens_init_77 (by decide) rfl (fun h => absurd h (by decide)) (fun _ => ?_)
  refine g_aload_n (pc1 := 81) d_Tokens_init_80 rfl 0 rfl ?_
  refine g_getr (pc1 := 84) d_Tokens_init_81 rfl ⟨_, fo_Tokens_9⟩ sh_4 (by decide) q5474 ?_
  refine g_iload_n (pc1 := 85) d_Tokens_init_84 rfl 1 rfl ?_
  refine g_aload_n (pc1 := 86) d_Tokens_init_85 rfl 0 rfl ?_
  refine g_getr (pc1 := 89) d_Tokens_init_86 rfl ⟨_, fo_Tokens_9⟩ sh_4 (by decide) q5474 ?_
  refine g_iload_n (pc1 := 90) d_Tokens_init_89 rfl 1 rfl ?_
  refine g_lald (pc1 := 91) d_Tokens_init_90 rfl sh_5 (by decide) (vin_lit (x := 11) (by decide)) ?_
  refine Wp.vall (y := 5523) (by rw [show (11 : Int32).toNatClampNeg = 11 from by decide]; exact q5625) ?_
  refine g_iload_n (pc1 := 92) d_Tokens_init_91 rfl 3 rfl ?_
  refine g_callS (pc1 := 95) (E' := (0, 0, 9)) (As := [.long 5523, .int 101]) (rest := [.int 11, .ref 5]) d_Tokens_init_92 rfl mo_Tokens_37 ms_Tokens_withLetter (by decide) rfl rfl (Nat.le_of_ble_eq_true rfl) ⟨Nat.le_of_ble_eq_true rfl, Nat.le_of_ble_eq_true rfl⟩ rfl ?_
  refine t0_withLetter ?_
  dsimp only [psh]
  refine Wp.vall (y := 176741) (by decide +kernel) ?_
  refine g_last (pc1 := 96) d_Tokens_init_95 rfl sh_5 (by decide) (vin_lit (x := 11) (by decide)) ?_
  rw [show ((11 : Int32).toNatClampNeg) = 11 from by decide]
  refine Wp.topL (fun L5626 eL5626 => ?_)
  have Z5627 : ∀ j : Nat, 11 < j → L5626 5 j = 0 := fun j hj => (rdL_ne eL5626 (fun q => by omega)).trans (Z5624 j (by omega))
  have q5628 : L5626 5 11 = 176741 := rdL_eq eL5626
  refine g_iinc (pc1 := 99) (v := 62) (lv' := [(0, .ref 4), (1, .int 11), (2, .int 62), (3, .int 101)]) d_Tokens_init_96 rfl 2 rfl (by decide) (by decide) [1, 2, 0, 3] rfl ?_
  refine g_goto (tgt := 43) d_Tokens_init_99 (by decide) ?_
  refine g_iload_n (pc1 := 44) d_Tokens_init_43 rfl 2 rfl ?_
  refine g_strlen (pc1 := 49) rfl d_Tokens_init_44 d_Tokens_init_46 rfl (Nat.le_of_ble_eq_true rfl) ⟨Nat.le_of_ble_eq_true rfl, Nat.le_of_ble_eq_true rfl⟩ ?_
  refine g_icmp_ge (pc1 := 52) (tgt := 102) d_Tokens_init_49 (by decide) rfl (fun h => absurd h (by decide)) (fun _ => ?_)
  refine g_strchr (pc1 := 58) (v := 32) rfl d_Tokens_init_52 d_Tokens_init_54 d_Tokens_init_55 rfl 2 rfl (by decide) (by decide) (by decide +kernel) (Nat.le_of_ble_eq_true rfl) ⟨Nat.le_of_ble_eq_true rfl, Nat.le_of_ble_eq_true rfl⟩ ?_
  refine g_istore_n (pc1 := 59) (lv' := [(0, .ref 4), (1, .int 11), (2, .int 62), (3, .int 32)]) d_Tokens_init_58 rfl rfl (by decide) [1, 2, 3, 0] rfl ?_
  refine g_iload_n (pc1 := 60) d_Tokens_init_59 rfl 3 rfl ?_
  refine g_bipush (pc1 := 62) (v := 32) d_Tokens_init_60 rfl (by decide) ?_
  refine g_icmp_ne (pc1 := 65) (tgt := 71) d_Tokens_init_62 (by decide) rfl (fun h => absurd h (by decide)) (fun _ => ?_)
  refine g_iinc (pc1 := 68) (v := 12) (lv' := [(0, .ref 4), (1, .int 12), (2, .int 62), (3, .int 32)]) d_Tokens_init_65 rfl 1 rfl (by decide) (by decide) [1, 0, 2, 3] rfl ?_
  refine g_goto (tgt := 96) d_Tokens_init_68 (by decide) ?_
  refine g_iinc (pc1 := 99) (v := 63) (lv' := [(0, .ref 4), (1, .int 12), (2, .int 63), (3, .int 32)]) d_Tokens_init_96 rfl 2 rfl (by decide) (by decide) [1, 2, 0, 3] rfl ?_
  refine g_goto (tgt := 43) d_Tokens_init_99 (by decide) ?_
  refine g_iload_n (pc1 := 44) d_Tokens_init_43 rfl 2 rfl ?_
  refine g_strlen (pc1 := 49) rfl d_Tokens_init_44 d_Tokens_init_46 rfl (Nat.le_of_ble_eq_true rfl) ⟨Nat.le_of_ble_eq_true rfl, Nat.le_of_ble_eq_true rfl⟩ ?_
  refine g_icmp_ge (pc1 := 52) (tgt := 102) d_Tokens_init_49 (by decide) rfl (fun h => absurd h (by decide)) (fun _ => ?_)
  refine g_strchr (pc1 := 58) (v := 115) rfl d_Tokens_init_52 d_Tokens_init_54 d_Tokens_init_55 rfl 2 rfl (by decide) (by decide) (by decide +kernel) (Nat.le_of_ble_eq_true rfl) ⟨Nat.le_of_ble_eq_true rfl, Nat.le_of_ble_eq_true rfl⟩ ?_
  refine g_istore_n (pc1 := 59) (lv' := [(0, .ref 4), (1, .int 12), (2, .int 63), (3, .int 115)]) d_Tokens_init_58 rfl rfl (by decide) [1, 2, 3, 0] rfl ?_
  refine g_iload_n (pc1 := 60) d_Tokens_init_59 rfl 3 rfl ?_
  refine g_bipush (pc1 := 62) (v := 32) d_Tokens_init_60 rfl (by decide) ?_
  refine g_icmp_ne (pc1 := 65) (tgt := 71) d_Tokens_init_62 (by decide) rfl (fun _ => ?_) (fun h => absurd h (by decide))
  refine g_iload_n (pc1 := 72) d_Tokens_init_71 rfl 1 rfl ?_
  refine g_aload_n (pc1 := 73) d_Tokens_init_72 rfl 0 rfl ?_
  refine g_getr (pc1 := 76) d_Tokens_init_73 rfl ⟨_, fo_Tokens_9⟩ sh_4 (by decide) q5474 ?_
  refine g_alen (pc1 := 77) (v := 21) d_Tokens_init_76 rfl sh_5 (by decide) (by decide) (by decide) (by decide) ?_
  refine g_icmp_ge (pc1 := 80) (tgt := 96) d_Tokens_init_77 (by decide) rfl (fun h => absurd h (by decide)) (fun _ => ?_)
  refine g_aload_n (pc1 := 81) d_Tokens_init_80 rfl 0 rfl ?_
  refine g_getr (pc1 := 84) d_Tokens_init_81 rfl ⟨_, fo_Tokens_9⟩ sh_4 (by decide) q5474 ?_
  refine g_iload_n (pc1 := 85) d_Tokens_init_84 rfl 1 rfl ?_
  refine g_aload_n (pc1 := 86) d_Tokens_init_85 rfl 0 rfl ?_
  refine g_getr (pc1 := 89) d_Tokens_init_86 rfl ⟨_, fo_Tokens_9⟩ sh_4 (by decide) q5474 ?_
  refine g_iload_n (pc1 := 90) d_Tokens_init_89 rfl 1 rfl ?_
  refine g_lald (pc1 := 91) d_Tokens_init_90 rfl sh_5 (by decide) (vin_lit (x := 12) (by decide)) ?_
  refine Wp.vall (y := 0) (by rw [show (12 : Int32).toNatClampNeg = 12 from by decide]; exact (Z5627 12 (by decide))) ?_
  refine g_iload_n (pc1 := 92) d_Tokens_init_91 rfl 3 rfl ?_
  refine g_callS (pc1 := 95) (E' := (0, 0, 9)) (As := [.long 0, .int 115]) (rest := [.int 12, .ref 5]) d_Tokens_init_92 rfl mo_Tokens_37 ms_Tokens_withLetter (by decide) rfl rfl (Nat.le_of_ble_eq_true rfl) ⟨Nat.le_of_ble_eq_true rfl, Nat.le_of_ble_eq_true rfl⟩ rfl ?_
  refine t0_withLetter ?_
  dsimp only [psh]
  refine Wp.vall (y := 19) (by decide +kernel) ?_
  refine g_last (pc1 := 96) d_Tokens_init_95 rfl sh_5 (by decide) (vin_lit (x := 12) (by decide)) ?_
  rw [show ((12 : Int32).toNatClampNeg) = 12 from by decide]
  refine Wp.topL (fun L5629 eL5629 => ?_)
  have Z5630 : ∀ j : Nat, 12 < j → L5629 5 j = 0 := fun j hj => (rdL_ne eL5629 (fun q => by omega)).trans (Z5627 j (by omega))
  have q5631 : L5629 5 12 = 19 := rdL_eq eL5629
  refine g_iinc (pc1 := 99) (v := 64) (lv' := [(0, .ref 4), (1, .int 12), (2, .int 64), (3, .int 115)]) d_Tokens_init_96 rfl 2 rfl (by decide) (by decide) [1, 2, 0, 3] rfl ?_
  refine g_goto (tgt := 43) d_Tokens_init_99 (by decide) ?_
  refine g_iload_n (pc1 := 44) d_Tokens_init_43 rfl 2 rfl ?_
  refine g_strlen (pc1 := 49) rfl d_Tokens_init_44 d_Tokens_init_46 rfl (Nat.le_of_ble_eq_true rfl) ⟨Nat.le_of_ble_eq_true rfl, Nat.le_of_ble_eq_true rfl⟩ ?_
  refine g_icmp_ge (pc1 := 52) (tgt := 102) d_Tokens_init_49 (by decide) rfl (fun h => absurd h (by decide)) (fun _ => ?_)
  refine g_strchr (pc1 := 58) (v := 117) rfl d_Tokens_init_52 d_Tokens_init_54 d_Tokens_init_55 rfl 2 rfl (by decide) (by decide) (by decide +kernel) (Nat.le_of_ble_eq_true rfl) ⟨Nat.le_of_ble_eq_true rfl, Nat.le_of_ble_eq_true rfl⟩ ?_
  refine g_istore_n (pc1 := 59) (lv' := [(0, .ref 4), (1, .int 12), (2, .int 64), (3, .int 117)]) d_Tokens_init_58 rfl rfl (by decide) [1, 2, 3, 0] rfl ?_
  refine g_iload_n (pc1 := 60) d_Tokens_init_59 rfl 3 rfl ?_
  refine g_bipush (pc1 := 62) (v := 32) d_Tokens_init_60 rfl (by decide) ?_
  refine g_icmp_ne (pc1 := 65) (tgt := 71) d_Tokens_init_62 (by decide) rfl (fun _ => ?_) (fun h => absurd h (by decide))
  refine g_iload_n (pc1 := 72) d_Tokens_init_71 rfl 1 rfl ?_
  refine g_aload_n (pc1 := 73) d_Tokens_init_72 rfl 0 rfl ?_
  refine g_getr (pc1 := 76) d_Tokens_init_73 rfl ⟨_, fo_Tokens_9⟩ sh_4 (by decide) q5474 ?_
  refine g_alen (pc1 := 77) (v := 21) d_Tokens_init_76 rfl sh_5 (by decide) (by decide) (by decide) (by decide) ?_
  refine g_icmp_ge (pc1 := 80) (tgt := 96) d_Tokens_init_77 (by decide) rfl (fun h => absurd h (by decide)) (fun _ => ?_)
  refine g_aload_n (pc1 := 81) d_Tokens_init_80 rfl 0 rfl ?_
  refine g_getr (pc1 := 84) d_Tokens_init_81 rfl ⟨_, fo_Tokens_9⟩ sh_4 (by decide) q5474 ?_
  refine g_iload_n (pc1 := 85) d_Tokens_init_84 rfl 1 rfl ?_
  refine g_aload_n (pc1 := 86) d_Tokens_init_85 rfl 0 rfl ?_
  refine g_getr (pc1 := 89) d_Tokens_init_86 rfl ⟨_, fo_Tokens_9⟩ sh_4 (by decide) q5474 ?_
  refine g_iload_n (pc1 := 90) d_Tokens_init_89 rfl 1 rfl ?_
  refine g_lald (pc1 := 91) d_Tokens_init_90 rfl sh_5 (by decide) (vin_lit (x := 12) (by decide)) ?_
  refine Wp.vall (y := 19) (by rw [show (12 : Int32).toNatClampNeg = 12 from by decide]; exact q5631) ?_
  refine g_iload_n (pc1 := 92) d_Tokens_init_91 rfl 3 rfl ?_
  refine g_callS (pc1 := 95) (E' := (0, 0, 9)) (As := [.long 19, .int 117]) (rest := [.int 12, .ref 5]) d_Tokens_init_92 rfl mo_Tokens_37 ms_Tokens_withLetter (by decide) rfl rfl (Nat.le_of_ble_eq_true rfl) ⟨Nat.le_of_ble_eq_true rfl, Nat.le_of_ble_eq_true rfl⟩ rfl ?_
  refine t0_withLetter ?_
  dsimp only [psh]
  refine Wp.vall (y := 629) (by decide +kernel) ?_
  refine g_last (pc1 := 96) d_Tokens_init_95 rfl sh_5 (by decide) (vin_lit (x := 12) (by decide)) ?_
  rw [show ((12 : Int32).toNatClampNeg) = 12 from by decide]
  refine Wp.topL (fun L5632 eL5632 => ?_)
  have Z5633 : ∀ j : Nat, 12 < j → L5632 5 j = 0 := fun j hj => (rdL_ne eL5632 (fun q => by omega)).trans (Z5630 j (by omega))
  have q5634 : L5632 5 12 = 629 := rdL_eq eL5632
  refine g_iinc (pc1 := 99) (v := 65) (lv' := [(0, .ref 4), (1, .int 12), (2, .int 65), (3, .int 117)]) d_Tokens_init_96 rfl 2 rfl (by decide) (by decide) [1, 2, 0, 3] rfl ?_
  refine g_goto (tgt := 43) d_Tokens_init_99 (by decide) ?_
  refine g_iload_n (pc1 := 44) d_Tokens_init_43 rfl 2 rfl ?_
  refine g_strlen (pc1 := 49) rfl d_Tokens_init_44 d_Tokens_init_46 rfl (Nat.le_of_ble_eq_true rfl) ⟨Nat.le_of_ble_eq_true rfl, Nat.le_of_ble_eq_true rfl⟩ ?_
  refine g_icmp_ge (pc1 := 52) (tgt := 102) d_Tokens_init_49 (by decide) rfl (fun h => absurd h (by decide)) (fun _ => ?_)
  refine g_strchr (pc1 := 58) (v := 109) rfl d_Tokens_init_52 d_Tokens_init_54 d_Tokens_init_55 rfl 2 rfl (by decide) (by decide) (by decide +kernel) (Nat.le_of_ble_eq_true rfl) ⟨Nat.le_of_ble_eq_true rfl, Nat.le_of_ble_eq_true rfl⟩ ?_
  refine g_istore_n (pc1 := 59) (lv' := [(0, .ref 4), (1, .int 12), (2, .int 65), (3, .int 109)]) d_Tokens_init_58 rfl rfl (by decide) [1, 2, 3, 0] rfl ?_
  refine g_iload_n (pc1 := 60) d_Tokens_init_59 rfl 3 rfl ?_
  refine g_bipush (pc1 := 62) (v := 32) d_Tokens_init_60 rfl (by decide) ?_
  refine g_icmp_ne (pc1 := 65) (tgt := 71) d_Tokens_init_62 (by decide) rfl (fun _ => ?_) (fun h => absurd h (by decide))
  refine g_iload_n (pc1 := 72) d_Tokens_init_71 rfl 1 rfl ?_
  refine g_aload_n (pc1 := 73) d_Tokens_init_72 rfl 0 rfl ?_
  refine g_getr (pc1 := 76) d_Tokens_init_73 rfl ⟨_, fo_Tokens_9⟩ sh_4 (by decide) q5474 ?_
  refine g_alen (pc1 := 77) (v := 21) d_Tokens_init_76 rfl sh_5 (by decide) (by decide) (by decide) (by decide) ?_
  refine g_icmp_ge (pc1 := 80) (tgt := 96) d_Tokens_init_77 (by decide) rfl (fun h => absurd h (by decide)) (fun _ => ?_)
  refine g_aload_n (pc1 := 81) d_Tokens_init_80 rfl 0 rfl ?_
  refine g_getr (pc1 := 84) d_Tokens_init_81 rfl ⟨_, fo_Tokens_9⟩ sh_4 (by decide) q5474 ?_
  refine g_iload_n (pc1 := 85) d_Tokens_init_84 rfl 1 rfl ?_
  refine g_aload_n (pc1 := 86) d_Tokens_init_85 rfl 0 rfl ?_
  refine g_getr (pc1 := 89) d_Tokens_init_86 rfl ⟨_, fo_Tokens_9⟩ sh_4 (by decide) q5474 ?_
  refine g_iload_n (pc1 := 90) d_Tokens_init_89 rfl 1 rfl ?_
  refine g_lald (pc1 := 91) d_Tokens_init_90 rfl sh_5 (by decide) (vin_lit (x := 12) (by decide)) ?_
  refine Wp.vall (y := 629) (by rw [show (12 : Int32).toNatClampNeg = 12 from by decide]; exact q5634) ?_
  refine g_iload_n (pc1 := 92) d_Tokens_init_91 rfl 3 rfl ?_
  refine g_callS (pc1 := 95) (E' := (0, 0, 9)) (As := [.long 629, .int 109]) (rest := [.int 12, .ref 5]) d_Tokens_init_92 rfl mo_Tokens_37 ms_Tokens_withLetter (by decide) rfl rfl (Nat.le_of_ble_eq_true rfl) ⟨Nat.le_of_ble_eq_true rfl, Nat.le_of_ble_eq_true rfl⟩ rfl ?_
  refine t0_withLetter ?_
  dsimp only [psh]
  refine Wp.vall (y := 20141) (by decide +kernel) ?_
  refine g_last (pc1 := 96) d_Tokens_init_95 rfl sh_5 (by decide) (vin_lit (x := 12) (by decide)) ?_
  rw [show ((12 : Int32).toNatClampNeg) = 12 from by decide]
  refine Wp.topL (fun L5635 eL5635 => ?_)
  have Z5636 : ∀ j : Nat, 12 < j → L5635 5 j = 0 := fun j hj => (rdL_ne eL5635 (fun q => by omega)).trans (Z5633 j (by omega))
  have q5637 : L5635 5 12 = 20141 := rdL_eq eL5635
  refine g_iinc (pc1 := 99) (v := 66) (lv' := [(0, .ref 4), (1, .int 12), (2, .int 66), (3, .int 109)]) d_Tokens_init_96 rfl 2 rfl (by decide) (by decide) [1, 2, 0, 3] rfl ?_
  refine g_goto (tgt := 43) d_Tokens_init_99 (by decide) ?_
  refine g_iload_n (pc1 := 44) d_Tokens_init_43 rfl 2 rfl ?_
  refine g_strlen (pc1 := 49) rfl d_Tokens_init_44 d_Tokens_init_46 rfl (Nat.le_of_ble_eq_true rfl) ⟨Nat.le_of_ble_eq_true rfl, Nat.le_of_ble_eq_true rfl⟩ ?_
  refine g_icmp_ge (pc1 := 52) (tgt := 102) d_Tokens_init_49 (by decide) rfl (fun h => absurd h (by decide)) (fun _ => ?_)
  refine g_strchr (pc1 := 58) (v := 32) rfl d_Tokens_init_52 d_Tokens_init_54 d_Tokens_init_55 rfl 2 rfl (by decide) (by decide) (by decide +kernel) (Nat.le_of_ble_eq_true rfl) ⟨Nat.le_of_ble_eq_true rfl, Nat.le_of_ble_eq_true rfl⟩ ?_
  refine g_istore_n (pc1 := 59) (lv' := [(0, .ref 4), (1, .int 12), (2, .int 66), (3, .int 32)]) d_Tokens_init_58 rfl rfl (by decide) [1, 2, 3, 0] rfl ?_
  refine g_iload_n (pc1 := 60) d_Tokens_init_59 rfl 3 rfl ?_
  refine g_bipush (pc1 := 62) (v := 32) d_Tokens_init_60 rfl (by decide) ?_
  refine g_icmp_ne (pc1 := 65) (tgt := 71) d_Tokens_init_62 (by decide) rfl (fun h => absurd h (by decide)) (fun _ => ?_)
  refine g_iinc (pc1 := 68) (v := 13) (lv' := [(0, .ref 4), (1, .int 13), (2, .int 66), (3, .int 32)]) d_Tokens_init_65 rfl 1 rfl (by decide) (by decide) [1, 0, 2, 3] rfl ?_
  refine g_goto (tgt := 96) d_Tokens_init_68 (by decide) ?_
  refine g_iinc (pc1 := 99) (v := 67) (lv' := [(0, .ref 4), (1, .int 13), (2, .int 67), (3, .int 32)]) d_Tokens_init_96 rfl 2 rfl (by decide) (by decide) [1, 2, 0, 3] rfl ?_
  refine g_goto (tgt := 43) d_Tokens_init_99 (by decide) ?_
  refine g_iload_n (pc1 := 44) d_Tokens_init_43 rfl 2 rfl ?_
  refine g_strlen (pc1 := 49) rfl d_Tokens_init_44 d_Tokens_init_46 rfl (Nat.le_of_ble_eq_true rfl) ⟨Nat.le_of_ble_eq_true rfl, Nat.le_of_ble_eq_true rfl⟩ ?_
  refine g_icmp_ge (pc1 := 52) (tgt := 102) d_Tokens_init_49 (by decide) rfl (fun h => absurd h (by decide)) (fun _ => ?_)
  refine g_strchr (pc1 := 58) (v := 104) rfl d_Tokens_init_52 d_Tokens_init_54 d_Tokens_init_55 rfl 2 rfl (by decide) (by decide) (by decide +kernel) (Nat.le_of_ble_eq_true rfl) ⟨Nat.le_of_ble_eq_true rfl, Nat.le_of_ble_eq_true rfl⟩ ?_
  refine g_istore_n (pc1 := 59) (lv' := [(0, .ref 4), (1, .int 13), (2, .int 67), (3, .int 104)]) d_Tokens_init_58 rfl rfl (by decide) [1, 2, 3, 0] rfl ?_
  refine g_iload_n (pc1 := 60) d_Tokens_init_59 rfl 3 rfl ?_
  refine g_bipush (pc1 := 62) (v := 32) d_Tokens_init_60 rfl (by decide) ?_
  refine g_icmp_ne (pc1 := 65) (tgt := 71) d_Tokens_init_62 (by decide) rfl (fun _ => ?_) (fun h => absurd h (by decide))
  refine g_iload_n (pc1 := 72) d_Tokens_init_71 rfl 1 rfl ?_
  refine g_aload_n (pc1 := 73) d_Tokens_init_72 rfl 0 rfl ?_
  refine g_getr (pc1 := 76) d_Tokens_init_73 rfl ⟨_, fo_Tokens_9⟩ sh_4 (by decide) q5474 ?_
  refine g_alen (pc1 := 77) (v := 21) d_Tokens_init_76 rfl sh_5 (by decide) (by decide) (by decide) (by decide) ?_
  refine g_icmp_ge (pc1 := 80) (tgt := 96) d_Tokens_init_77 (by decide) rfl (fun h => absurd h (by decide)) (fun _ => ?_)
  refine g_aload_n (pc1 := 81) d_Tokens_init_80 rfl 0 rfl ?_
  refine g_getr (pc1 := 84) d_Tokens_init_81 rfl ⟨_, fo_Tokens_9⟩ sh_4 (by decide) q5474 ?_
  refine g_iload_n (pc1 := 85) d_Tokens_init_84 rfl 1 rfl ?_
  refine g_aload_n (pc1 := 86) d_Tokens_init_85 rfl 0 rfl ?_
  refine g_getr (pc1 := 89) d_Tokens_init_86 rfl ⟨_, fo_Tokens_9⟩ sh_4 (by decide) q5474 ?_
  refine g_iload_n (pc1 := 90) d_Tokens_init_89 rfl 1 rfl ?_
  refine g_lald (pc1 := 91) d_Tokens_init_90 rfl sh_5 (by decide) (vin_lit (x := 13) (by decide)) ?_
  refine Wp.vall (y := 0) (by rw [show (13 : Int32).toNatClampNeg = 13 from by decide]; exact (Z5636 13 (by decide))) ?_
  refine g_iload_n (pc1 := 92) d_Tokens_init_91 rfl 3 rfl ?_
  refine g_callS (pc1 := 95) (E' := (0, 0, 9)) (As := [.long 0, .int 104]) (rest := [.int 13, .ref 5]) d_Tokens_init_92 rfl mo_Tokens_37 ms_Tokens_withLetter (by decide) rfl rfl (Nat.le_of_ble_eq_true rfl) ⟨Nat.le_of_ble_eq_true rfl, Nat.le_of_ble_eq_true rfl⟩ rfl ?_
  refine t0_withLetter ?_
  dsimp only [psh]
  refine Wp.vall (y := 8) (by decide +kernel) ?_
  refine g_last (pc1 := 96) d_Tokens_init_95 rfl sh_5 (by decide) (vin_lit (x := 13) (by decide)) ?_
  rw [show ((13 : Int32).toNatClampNeg) = 13 from by decide]
  refine Wp.topL (fun L5638 eL5638 => ?_)
  have Z5639 : ∀ j : Nat, 13 < j → L5638 5 j = 0 := fun j hj => (rdL_ne eL5638 (fun q => by omega)).trans (Z5636 j (by omega))
  have q5640 : L5638 5 13 = 8 := rdL_eq eL5638
  refine g_iinc (pc1 := 99) (v := 68) (lv' := [(0, .ref 4), (1, .int 13), (2, .int 68), (3, .int 104)]) d_Tokens_init_96 rfl 2 rfl (by decide) (by decide) [1, 2, 0, 3] rfl ?_
  refine g_goto (tgt := 43) d_Tokens_init_99 (by decide) ?_
  refine g_iload_n (pc1 := 44) d_Tokens_init_43 rfl 2 rfl ?_
  refine g_strlen (pc1 := 49) rfl d_Tokens_init_44 d_Tokens_init_46 rfl (Nat.le_of_ble_eq_true rfl) ⟨Nat.le_of_ble_eq_true rfl, Nat.le_of_ble_eq_true rfl⟩ ?_
  refine g_icmp_ge (pc1 := 52) (tgt := 102) d_Tokens_init_49 (by decide) rfl (fun h => absurd h (by decide)) (fun _ => ?_)
  refine g_strchr (pc1 := 58) (v := 101) rfl d_Tokens_init_52 d_Tokens_init_54 d_Tokens_init_55 rfl 2 rfl (by decide) (by decide) (by decide +kernel) (Nat.le_of_ble_eq_true rfl) ⟨Nat.le_of_ble_eq_true rfl, Nat.le_of_ble_eq_true rfl⟩ ?_
  refine g_istore_n (pc1 := 59) (lv' := [(0, .ref 4), (1, .int 13), (2, .int 68), (3, .int 101)]) d_Tokens_init_58 rfl rfl (by decide) [1, 2, 3, 0] rfl ?_
  refine g_iload_n (pc1 := 60) d_Tokens_init_59 rfl 3 rfl ?_
  refine g_bipush (pc1 := 62) (v := 32) d_Tokens_init_60 rfl (by decide) ?_
  refine g_icmp_ne (pc1 := 65) (tgt := 71) d_Tokens_init_62 (by decide) rfl (fun _ => ?_) (fun h => absurd h (by decide))
  refine g_iload_n (pc1 := 72) d_Tokens_init_71 rfl 1 rfl ?_
  refine g_aload_n (pc1 := 73) d_Tokens_init_72 rfl 0 rfl ?_
  refine g_getr (pc1 := 76) d_Tokens_init_73 rfl ⟨_, fo_Tokens_9⟩ sh_4 (by decide) q5474 ?_
  refine g_alen (pc1 := 77) (v := 21) d_Tokens_init_76 rfl sh_5 (by decide) (by decide) (by decide) (by decide) ?_
  refine g_icmp_ge (pc1 := 80) (tgt := 96) d_Tokens_init_77 (by decide) rfl (fun h => absurd h (by decide)) (fun _ => ?_)
  refine g_aload_n (pc1 := 81) d_Tokens_init_80 rfl 0 rfl ?_
  refine g_getr (pc1 := 84) d_Tokens_init_81 rfl ⟨_, fo_Tokens_9⟩ sh_4 (by decide) q5474 ?_
  refine g_iload_n (pc1 := 85) d_Tokens_init_84 rfl 1 rfl ?_
  refine g_aload_n (pc1 := 86) d_Tokens_init_85 rfl 0 rfl ?_
  refine g_getr (pc1 := 89) d_Tokens_init_86 rfl ⟨_, fo_Tokens_9⟩ sh_4 (by decide) q5474 ?_
  refine g_iload_n (pc1 := 90) d_Tokens_init_89 rfl 1 rfl ?_
  refine g_lald (pc1 := 91) d_Tokens_init_90 rfl sh_5 (by decide) (vin_lit (x := 13) (by decide)) ?_
  refine Wp.vall (y := 8) (by rw [show (13 : Int32).toNatClampNeg = 13 from by decide]; exact q5640) ?_
  refine g_iload_n (pc1 := 92) d_Tokens_init_91 rfl 3 rfl ?_
  refine g_callS (pc1 := 95) (E' := (0, 0, 9)) (As := [.long 8, .int 101]) (rest := [.int 13, .ref 5]) d_Tokens_init_92 rfl mo_Tokens_37 ms_Tokens_withLetter (by decide) rfl rfl (Nat.le_of_ble_eq_true rfl) ⟨Nat.le_of_ble_eq_true rfl, Nat.le_of_ble_eq_true rfl⟩ rfl ?_
  refine t0_withLetter ?_
  dsimp only [psh]
  refine Wp.vall (y := 261) (by decide +kernel) ?_
  refine g_last (pc1 := 96) d_Tokens_init_95 rfl sh_5 (by decide) (vin_lit (x := 13) (by decide)) ?_
  rw [show ((13 : Int32).toNatClampNeg) = 13 from by decide]
  refine Wp.topL (fun L5641 eL5641 => ?_)
  have Z5642 : ∀ j : Nat, 13 < j → L5641 5 j = 0 := fun j hj => (rdL_ne eL5641 (fun q => by omega)).trans (Z5639 j (by omega))
  have q5643 : L5641 5 13 = 261 := rdL_eq eL5641
  refine g_iinc (pc1 := 99) (v := 69) (lv' := [(0, .ref 4), (1, .int 13), (2, .int 69), (3, .int 101)]) d_Tokens_init_96 rfl 2 rfl (by decide) (by decide) [1, 2, 0, 3] rfl ?_
  refine g_goto (tgt := 43) d_Tokens_init_99 (by decide) ?_
  refine g_iload_n (pc1 := 44) d_Tokens_init_43 rfl 2 rfl ?_
  refine g_strlen (pc1 := 49) rfl d_Tokens_init_44 d_Tokens_init_46 rfl (Nat.le_of_ble_eq_true rfl) ⟨Nat.le_of_ble_eq_true rfl, Nat.le_of_ble_eq_true rfl⟩ ?_
  refine g_icmp_ge (pc1 := 52) (tgt := 102) d_Tokens_init_49 (by decide) rfl (fun h => absurd h (by decide)) (fun _ => ?_)
  refine g_strchr (pc1 := 58) (v := 97) rfl d_Tokens_init_52 d_Tokens_init_54 d_Tokens_init_55 rfl 2 rfl (by decide) (by decide) (by decide +kernel) (Nat.le_of_ble_eq_true rfl) ⟨Nat.le_of_ble_eq_true rfl, Nat.le_of_ble_eq_true rfl⟩ ?_
  refine g_istore_n (pc1 := 59) (lv' := [(0, .ref 4), (1, .int 13), (2, .int 69), (3, .int 97)]) d_Tokens_init_58 rfl rfl (by decide) [1, 2, 3, 0] rfl ?_
  refine g_iload_n (pc1 := 60) d_Tokens_init_59 rfl 3 rfl ?_
  refine g_bipush (pc1 := 62) (v := 32) d_Tokens_init_60 rfl (by decide) ?_
  refine g_icmp_ne (pc1 := 65) (tgt := 71) d_Tokens_init_62 (by decide) rfl (fun _ => ?_) (fun h => absurd h (by decide))
  refine g_iload_n (pc1 := 72) d_Tokens_init_71 rfl 1 rfl ?_
  refine g_aload_n (pc1 := 73) d_Tokens_init_72 rfl 0 rfl ?_
  refine g_getr (pc1 := 76) d_Tokens_init_73 rfl ⟨_, fo_Tokens_9⟩ sh_4 (by decide) q5474 ?_
  refine g_alen (pc1 := 77) (v := 21) d_Tokens_init_76 rfl sh_5 (by decide) (by decide) (by decide) (by decide) ?_
  refine g_icmp_ge (pc1 := 80) (tgt := 96) d_Tokens_init_77 (by decide) rfl (fun h => absurd h (by decide)) (fun _ => ?_)
  refine g_aload_n (pc1 := 81) d_Tokens_init_80 rfl 0 rfl ?_
  refine g_getr (pc1 := 84) d_Tokens_init_81 rfl ⟨_, fo_Tokens_9⟩ sh_4 (by decide) q5474 ?_
  refine g_iload_n (pc1 := 85) d_Tokens_init_84 rfl 1 rfl ?_
  refine g_aload_n (pc1 := 86) d_Tokens_init_85 rfl 0 rfl ?_
  refine g_getr (pc1 := 89) d_Tokens_init_86 rfl ⟨_, fo_Tokens_9⟩ sh_4 (by decide) q5474 ?_
  refine g_iload_n (pc1 := 90) d_Tokens_init_89 rfl 1 rfl ?_
  refine g_lald (pc1 := 91) d_Tokens_init_90 rfl sh_5 (by decide) (vin_lit (x := 13) (by decide)) ?_
  refine Wp.vall (y := 261) (by rw [show (13 : Int32).toNatClampNeg = 13 from by decide]; exact q5643) ?_
  refine g_iload_n (pc1 := 92) d_Tokens_init_91 rfl 3 rfl ?_
  refine g_callS (pc1 := 95) (E' := (0, 0, 9)) (As := [.long 261, .int 97]) (rest := [.int 13, .ref 5]) d_Tokens_init_92 rfl mo_Tokens_37 ms_Tokens_withLetter (by decide) rfl rfl (Nat.le_of_ble_eq_true rfl) ⟨Nat.le_of_ble_eq_true rfl, Nat.le_of_ble_eq_true rfl⟩ rfl ?_
  refine t0_withLetter ?_
  dsimp only [psh]
  refine Wp.vall (y := 8353) (by decide +kernel) ?_
  refine g_last (pc1 := 96) d_Tokens_init_95 rfl sh_5 (by decide) (vin_lit (x := 13) (by decide)) ?_
  rw [show ((13 : Int32).toNatClampNeg) = 13 from by decide]
  refine Wp.topL (fun L5644 eL5644 => ?_)
  have Z5645 : ∀ j : Nat, 13 < j → L5644 5 j = 0 := fun j hj => (rdL_ne eL5644 (fun q => by omega)).trans (Z5642 j (by omega))
  have q5646 : L5644 5 13 = 8353 := rdL_eq eL5644
  refine g_iinc (pc1 := 99) (v := 70) (lv' := [(0, .ref 4), (1, .int 13), (2, .int 70), (3, .int 97)]) d_Tokens_init_96 rfl 2 rfl (by decide) (by decide) [1, 2, 0, 3] rfl ?_
  refine g_goto (tgt := 43) d_Tokens_init_99 (by decide) ?_
  refine g_iload_n (pc1 := 44) d_Tokens_init_43 rfl 2 rfl ?_
  refine g_strlen (pc1 := 49) rfl d_Tokens_init_44 d_Tokens_init_46 rfl (Nat.le_of_ble_eq_true rfl) ⟨Nat.le_of_ble_eq_true rfl, Nat.le_of_ble_eq_true rfl⟩ ?_
  refine g_icmp_ge (pc1 := 52) (tgt := 102) d_Tokens_init_49 (by decide) rfl (fun h => absurd h (by decide)) (fun _ => ?_)
  refine g_strchr (pc1 := 58) (v := 116) rfl d_Tokens_init_52 d_Tokens_init_54 d_Tokens_init_55 rfl 2 rfl (by decide) (by decide) (by decide +kernel) (Nat.le_of_ble_eq_true rfl) ⟨Nat.le_of_ble_eq_true rfl, Nat.le_of_ble_eq_true rfl⟩ ?_
  refine g_istore_n (pc1 := 59) (lv' := [(0, .ref 4), (1, .int 13), (2, .int 70), (3, .int 116)]) d_Tokens_init_58 rfl rfl (by decide) [1, 2, 3, 0] rfl ?_
  refine g_iload_n (pc1 := 60) d_Tokens_init_59 rfl 3 rfl ?_
  refine g_bipush (pc1 := 62) (v := 32) d_Tokens_init_60 rfl (by decide) ?_
  refine g_icmp_ne (pc1 := 65) (tgt := 71) d_Tokens_init_62 (by decide) rfl (fun _ => ?_) (fun h => absurd h (by decide))
  refine g_iload_n (pc1 := 72) d_Tokens_init_71 rfl 1 rfl ?_
  refine g_aload_n (pc1 := 73) d_Tokens_init_72 rfl 0 rfl ?_
  refine g_getr (pc1 := 76) d_Tokens_init_73 rfl ⟨_, fo_Tokens_9⟩ sh_4 (by decide) q5474 ?_
  refine g_alen (pc1 := 77) (v := 21) d_Tokens_init_76 rfl sh_5 (by decide) (by decide) (by decide) (by decide) ?_
  refine g_icmp_ge (pc1 := 80) (tgt := 96) d_Tokens_init_77 (by decide) rfl (fun h => absurd h (by decide)) (fun _ => ?_)
  refine g_aload_n (pc1 := 81) d_Tokens_init_80 rfl 0 rfl ?_
  refine g_getr (pc1 := 84) d_Tokens_init_81 rfl ⟨_, fo_Tokens_9⟩ sh_4 (by decide) q5474 ?_
  refine g_iload_n (pc1 := 85) d_Tokens_init_84 rfl 1 rfl ?_
  refine g_aload_n (pc1 := 86) d_Tokens_init_85 rfl 0 rfl ?_
  refine g_getr (pc1 := 89) d_Tokens_init_86 rfl ⟨_, fo_Tokens_9⟩ sh_4 (by decide) q5474 ?_
  refine g_iload_n (pc1 := 90) d_Tokens_init_89 rfl 1 rfl ?_
  refine g_lald (pc1 := 91) d_Tokens_init_90 rfl sh_5 (by decide) (vin_lit (x := 13) (by decide)) ?_
  refine Wp.vall (y := 8353) (by rw [show (13 : Int32).toNatClampNeg = 13 from by decide]; exact q5646) ?_
  refine g_iload_n (pc1 := 92) d_Tokens_init_91 rfl 3 rfl ?_
  refine g_callS (pc1 := 95) (E' := (0, 0, 9)) (As := [.long 8353, .int 116]) (rest := [.int 13, .ref 5]) d_Tokens_init_92 rfl mo_Tokens_37 ms_Tokens_withLetter (by decide) rfl rfl (Nat.le_of_ble_eq_true rfl) ⟨Nat.le_of_ble_eq_true rfl, Nat.le_of_ble_eq_true rfl⟩ rfl ?_
  refine t0_withLetter ?_
  dsimp only [psh]
  refine Wp.vall (y := 267316) (by decide +kernel) ?_
  refine g_last (pc1 := 96) d_Tokens_init_95 rfl sh_5 (by decide) (vin_lit (x := 13) (by decide)) ?_
  rw [show ((13 : Int32).toNatClampNeg) = 13 from by decide]
  refine Wp.topL (fun L5647 eL5647 => ?_)
  have Z5648 : ∀ j : Nat, 13 < j → L5647 5 j = 0 := fun j hj => (rdL_ne eL5647 (fun q => by omega)).trans (Z5645 j (by omega))
  have q5649 : L5647 5 13 = 267316 := rdL_eq eL5647
  refine g_iinc (pc1 := 99) (v := 71) (lv' := [(0, .ref 4), (1, .int 13), (2, .int 71), (3, .int 116)]) d_Tokens_init_96 rfl 2 rfl (by decide) (by decide) [1, 2, 0, 3] rfl ?_
  refine g_goto (tgt := 43) d_Tokens_init_99 (by decide) ?_
  refine g_iload_n (pc1 := 44) d_Tokens_init_43 rfl 2 rfl ?_
  refine g_strlen (pc1 := 49) rfl d_Tokens_init_44 d_Tokens_init_46 rfl (Nat.le_of_ble_eq_true rfl) ⟨Nat.le_of_ble_eq_true rfl, Nat.le_of_ble_eq_true rfl⟩ ?_
  refine g_icmp_ge (pc1 := 52) (tgt := 102) d_Tokens_init_49 (by decide) rfl (fun h => absurd h (by decide)) (fun _ => ?_)
  refine g_strchr (pc1 := 58) (v := 32) rfl d_Tokens_init_52 d_Tokens_init_54 d_Tokens_init_55 rfl 2 rfl (by decide) (by decide) (by decide +kernel) (Nat.le_of_ble_eq_true rfl) ⟨Nat.le_of_ble_eq_true rfl, Nat.le_of_ble_eq_true rfl⟩ ?_
  refine g_istore_n (pc1 := 59) (lv' := [(0, .ref 4), (1, .int 13), (2, .int 71), (3, .int 32)]) d_Tokens_init_58 rfl rfl (by decide) [1, 2, 3, 0] rfl ?_
  refine g_iload_n (pc1 := 60) d_Tokens_init_59 rfl 3 rfl ?_
  refine g_bipush (pc1 := 62) (v := 32) d_Tokens_init_60 rfl (by decide) ?_
  refine g_icmp_ne (pc1 := 65) (tgt := 71) d_Tokens_init_62 (by decide) rfl (fun h => absurd h (by decide)) (fun _ => ?_)
  refine g_iinc (pc1 := 68) (v := 14) (lv' := [(0, .ref 4), (1, .int 14), (2, .int 71), (3, .int 32)]) d_Tokens_init_65 rfl 1 rfl (by decide) (by decide) [1, 0, 2, 3] rfl ?_
  refine g_goto (tgt := 96) d_Tokens_init_68 (by decide) ?_
  refine g_iinc (pc1 := 99) (v := 72) (lv' := [(0, .ref 4), (1, .int 14), (2, .int 72), (3, .int 32)]) d_Tokens_init_96 rfl 2 rfl (by decide) (by decide) [1, 2, 0, 3] rfl ?_
  refine g_goto (tgt := 43) d_Tokens_init_99 (by decide) ?_
  refine g_iload_n (pc1 := 44) d_Tokens_init_43 rfl 2 rfl ?_
  refine g_strlen (pc1 := 49) rfl d_Tokens_init_44 d_Tokens_init_46 rfl (Nat.le_of_ble_eq_true rfl) ⟨Nat.le_of_ble_eq_true rfl, Nat.le_of_ble_eq_true rfl⟩ ?_
  refine g_icmp_ge (pc1 := 52) (tgt := 102) d_Tokens_init_49 (by decide) rfl (fun h => absurd h (by decide)) (fun _ => ?_)
  refine g_strchr (pc1 := 58) (v := 107) rfl d_Tokens_init_52 d_Tokens_init_54 d_Tokens_init_55 rfl 2 rfl (by decide) (by decide) (by decide +kernel) (Nat.le_of_ble_eq_true rfl) ⟨Nat.le_of_ble_eq_true rfl, Nat.le_of_ble_eq_true rfl⟩ ?_
  refine g_istore_n (pc1 := 59) (lv' := [(0, .ref 4), (1, .int 14), (2, .int 72), (3, .int 107)]) d_Tokens_init_58 rfl rfl (by decide) [1, 2, 3, 0] rfl ?_
  refine g_iload_n (pc1 := 60) d_Tokens_init_59 rfl 3 rfl ?_
  refine g_bipush (pc1 := 62) (v := 32) d_Tokens_init_60 rfl (by decide) ?_
  refine g_icmp_ne (pc1 := 65) (tgt := 71) d_Tokens_init_62 (by decide) rfl (fun _ => ?_) (fun h => absurd h (by decide))
  refine g_iload_n (pc1 := 72) d_Tokens_init_71 rfl 1 rfl ?_
  refine g_aload_n (pc1 := 73) d_Tokens_init_72 rfl 0 rfl ?_
  refine g_getr (pc1 := 76) d_Tokens_init_73 rfl ⟨_, fo_Tokens_9⟩ sh_4 (by decide) q5474 ?_
  refine g_alen (pc1 := 77) (v := 21) d_Tokens_init_76 rfl sh_5 (by decide) (by decide) (by decide) (by decide) ?_
  refine g_icmp_ge (pc1 := 80) (tgt := 96) d_Tokens_init_77 (by decide) rfl (fun h => absurd h (by decide)) (fun _ => ?_)
  refine g_aload_n (pc1 := 81) d_Tokens_init_80 rfl 0 rfl ?_
  refine g_getr (pc1 := 84) d_Tokens_init_81 rfl ⟨_, fo_Tokens_9⟩ sh_4 (by decide) q5474 ?_
  refine g_iload_n (pc1 := 85) d_Tokens_init_84 rfl 1 rfl ?_
  refine g_aload_n (pc1 := 86) d_Tokens_init_85 rfl 0 rfl ?_
  refine g_getr (pc1 := 89) d_Tokens_init_86 rfl ⟨_, fo_Tokens_9⟩ sh_4 (by decide) q5474 ?_
  refine g_iload_n (pc1 := 90) d_Tokens_init_89 rfl 1 rfl ?_
  refine g_lald (pc1 := 91) d_Tokens_init_90 rfl sh_5 (by decide) (vin_lit (x := 14) (by decide)) ?_
  refine Wp.vall (y := 0) (by rw [show (14 : Int32).toNatClampNeg = 14 from by decide]; exact (Z5648 14 (by decide))) ?_
  refine g_iload_n (pc1 := 92) d_Tokens_init_91 rfl 3 rfl ?_
  refine g_callS (pc1 := 95) (E' := (0, 0, 9)) (As := [.long 0, .int 107]) (rest := [.int 14, .ref 5]) d_Tokens_init_92 rfl mo_Tokens_37 ms_Tokens_withLetter (by decide) rfl rfl (Nat.le_of_ble_eq_true rfl) ⟨Nat.le_of_ble_eq_true rfl, Nat.le_of_ble_eq_true rfl⟩ rfl ?_
  refine t0_withLetter ?_
  dsimp only [psh]
  refine Wp.vall (y := 11) (by decide +kernel) ?_
  refine g_last (pc1 := 96) d_Tokens_init_95 rfl sh_5 (by decide) (vin_lit (x := 14) (by decide)) ?_
  rw [show ((14 : Int32).toNatClampNeg) = 14 from by decide]
  refine Wp.topL (fun L5650 eL5650 => ?_)
  have Z5651 : ∀ j : Nat, 14 < j → L5650 5 j = 0 := fun j hj => (rdL_ne eL5650 (fun q => by omega)).trans (Z5648 j (by omega))
  have q5652 : L5650 5 14 = 11 := rdL_eq eL5650
  refine g_iinc (pc1 := 99) (v := 73) (lv' := [(0, .ref 4), (1, .int 14), (2, .int 73), (3, .int 107)]) d_Tokens_init_96 rfl 2 rfl (by decide) (by decide) [1, 2, 0, 3] rfl ?_
  refine g_goto (tgt := 43) d_Tokens_init_99 (by decide) ?_
  refine g_iload_n (pc1 := 44) d_Tokens_init_43 rfl 2 rfl ?_
  refine g_strlen (pc1 := 49) rfl d_Tokens_init_44 d_Tokens_init_46 rfl (Nat.le_of_ble_eq_true rfl) ⟨Nat.le_of_ble_eq_true rfl, Nat.le_of_ble_eq_true rfl⟩ ?_
  refine g_icmp_ge (pc1 := 52) (tgt := 102) d_Tokens_init_49 (by decide) rfl (fun h => absurd h (by decide)) (fun _ => ?_)
  refine g_strchr (pc1 := 58) (v := 105) rfl d_Tokens_init_52 d_Tokens_init_54 d_Tokens_init_55 rfl 2 rfl (by decide) (by decide) (by decide +kernel) (Nat.le_of_ble_eq_true rfl) ⟨Nat.le_of_ble_eq_true rfl, Nat.le_of_ble_eq_true rfl⟩ ?_
  refine g_istore_n (pc1 := 59) (lv' := [(0, .ref 4), (1, .int 14), (2, .int 73), (3, .int 105)]) d_Tokens_init_58 rfl rfl (by decide) [1, 2, 3, 0] rfl ?_
  refine g_iload_n (pc1 := 60) d_Tokens_init_59 rfl 3 rfl ?_
  refine g_bipush (pc1 := 62) (v := 32) d_Tokens_init_60 rfl (by decide) ?_
  refine g_icmp_ne (pc1 := 65) (tgt := 71) d_Tokens_init_62 (by decide) rfl (fun _ => ?_) (fun h => absurd h (by decide))
  refine g_iload_n (pc1 := 72) d_Tokens_init_71 rfl 1 rfl ?_
  refine g_aload_n (pc1 := 73) d_Tokens_init_72 rfl 0 rfl ?_
  refine g_getr (pc1 := 76) d_Tokens_init_73 rfl ⟨_, fo_Tokens_9⟩ sh_4 (by decide) q5474 ?_
  refine g_alen (pc1 := 77) (v := 21) d_Tokens_init_76 rfl sh_5 (by decide) (by decide) (by decide) (by decide) ?_
  refine g_icmp_ge (pc1 := 80) (tgt := 96) d_Tokens_init_77 (by decide) rfl (fun h => absurd h (by decide)) (fun _ => ?_)
  refine g_aload_n (pc1 := 81) d_Tokens_init_80 rfl 0 rfl ?_
  refine g_getr (pc1 := 84) d_Tokens_init_81 rfl ⟨_, fo_Tokens_9⟩ sh_4 (by decide) q5474 ?_
  refine g_iload_n (pc1 := 85) d_Tokens_init_84 rfl 1 rfl ?_
  refine g_aload_n (pc1 := 86) d_Tokens_init_85 rfl 0 rfl ?_
  refine g_getr (pc1 := 89) d_Tokens_init_86 rfl ⟨_, fo_Tokens_9⟩ sh_4 (by decide) q5474 ?_
  refine g_iload_n (pc1 := 90) d_Tokens_init_89 rfl 1 rfl ?_
  refine g_lald (pc1 := 91) d_Tokens_init_90 rfl sh_5 (by decide) (vin_lit (x := 14) (by decide)) ?_
  refine Wp.vall (y := 11) (by rw [show (14 : Int32).toNatClampNeg = 14 from by decide]; exact q5652) ?_
  refine g_iload_n (pc1 := 92) d_Tokens_init_91 rfl 3 rfl ?_
  refine g_callS (pc1 := 95) (E' := (0, 0, 9)) (As := [.long 11, .int 105]) (rest := [.int 14, .ref 5]) d_Tokens_init_92 rfl mo_Tokens_37 ms_Tokens_withLetter (by decide) rfl rfl (Nat.le_of_ble_eq_true rfl) ⟨Nat.le_of_ble_eq_true rfl, Nat.le_of_ble_eq_true rfl⟩ rfl ?_
  refine t0_withLetter ?_
  dsimp only [psh]
  refine Wp.vall (y := 361) (by decide +kernel) ?_
  refine g_last (pc1 := 96) d_Tokens_init_95 rfl sh_5 (by decide) (vin_lit (x := 14) (by decide)) ?_
  rw [show ((14 : Int32).toNatClampNeg) = 14 from by decide]
  refine Wp.topL (fun L5653 eL5653 => ?_)
  have Z5654 : ∀ j : Nat, 14 < j → L5653 5 j = 0 := fun j hj => (rdL_ne eL5653 (fun q => by omega)).trans (Z5651 j (by omega))
  have q5655 : L5653 5 14 = 361 := rdL_eq eL5653
  refine g_iinc (pc1 := 99) (v := 74) (lv' := [(0, .ref 4), (1, .int 14), (2, .int 74), (3, .int 105)]) d_Tokens_init_96 rfl 2 rfl (by decide) (by decide) [1, 2, 0, 3] rfl ?_
  refine g_goto (tgt := 43) d_Tokens_init_99 (by decide) ?_
  refine g_iload_n (pc1 := 44) d_Tokens_init_43 rfl 2 rfl ?_
  refine g_strlen (pc1 := 49) rfl d_Tokens_init_44 d_Tokens_init_46 rfl (Nat.le_of_ble_eq_true rfl) ⟨Nat.le_of_ble_eq_true rfl, Nat.le_of_ble_eq_true rfl⟩ ?_
  refine g_icmp_ge (pc1 := 52) (tgt := 102) d_Tokens_init_49 (by decide) rfl (fun h => absurd h (by decide)) (fun _ => ?_)
  refine g_strchr (pc1 := 58) (v := 110) rfl d_Tokens_init_52 d_Tokens_init_54 d_Tokens_init_55 rfl 2 rfl (by decide) (by decide) (by decide +kernel) (Nat.le_of_ble_eq_true rfl) ⟨Nat.le_of_ble_eq_true rfl, Nat.le_of_ble_eq_true rfl⟩ ?_
  refine g_istore_n (pc1 := 59) (lv' := [(0, .ref 4), (1, .int 14), (2, .int 74), (3, .int 110)]) d_Tokens_init_58 rfl rfl (by decide) [1, 2, 3, 0] rfl ?_
  refine g_iload_n (pc1 := 60) d_Tokens_init_59 rfl 3 rfl ?_
  refine g_bipush (pc1 := 62) (v := 32) d_Tokens_init_60 rfl (by decide) ?_
  refine g_icmp_ne (pc1 := 65) (tgt := 71) d_Tokens_init_62 (by decide) rfl (fun _ => ?_) (fun h => absurd h (by decide))
  refine g_iload_n (pc1 := 72) d_Tokens_init_71 rfl 1 rfl ?_
  refine g_aload_n (pc1 := 73) d_Tokens_init_72 rfl 0 rfl ?_
  refine g_getr (pc1 := 76) d_Tokens_init_73 rfl ⟨_, fo_Tokens_9⟩ sh_4 (by decide) q5474 ?_
  refine g_alen (pc1 := 77) (v := 21) d_Tokens_init_76 rfl sh_5 (by decide) (by decide) (by decide) (by decide) ?_
  refine g_icmp_ge (pc1 := 80) (tgt := 96) d_Tokens_init_77 (by decide) rfl (fun h => absurd h (by decide)) (fun _ => ?_)
  refine g_aload_n (pc1 := 81) d_Tokens_init_80 rfl 0 rfl ?_
  refine g_getr (pc1 := 84) d_Tokens_init_81 rfl ⟨_, fo_Tokens_9⟩ sh_4 (by decide) q5474 ?_
  refine g_iload_n (pc1 := 85) d_Tokens_init_84 rfl 1 rfl ?_
  refine g_aload_n (pc1 := 86) d_Tokens_init_85 rfl 0 rfl ?_
  refine g_getr (pc1 := 89) d_Tokens_init_86 rfl ⟨_, fo_Tokens_9⟩ sh_4 (by decide) q5474 ?_
  refine g_iload_n (pc1 := 90) d_Tokens_init_89 rfl 1 rfl ?_
  refine g_lald (pc1 := 91) d_Tokens_init_90 rfl sh_5 (by decide) (vin_lit (x := 14) (by decide)) ?_
  refine Wp.vall (y := 361) (by rw [show (14 : Int32).toNatClampNeg = 14 from by decide]; exact q5655) ?_
  refine g_iload_n (pc1 := 92) d_Tokens_init_91 rfl 3 rfl ?_
  refine g_callS (pc1 := 95) (E' := (0, 0, 9)) (As := [.long 361, .int 110]) (rest := [.int 14, .ref 5]) d_Tokens_init_92 rfl mo_Tokens_37 ms_Tokens_withLetter (by decide) rfl rfl (Nat.le_of_ble_eq_true rfl) ⟨Nat.le_of_ble_eq_true rfl, Nat.le_of_ble_eq_true rfl⟩ rfl ?_
  refine t0_withLetter ?_
  dsimp only [psh]
  refine Wp.vall (y := 11566) (by decide +kernel) ?_
  refine g_last (pc1 := 96) d_Tokens_init_95 rfl sh_5 (by decide) (vin_lit (x := 14) (by decide)) ?_
  rw [show ((14 : Int32).toNatClampNeg) = 14 from by decide]
  refine Wp.topL (fun L5656 eL5656 => ?_)
  have Z5657 : ∀ j : Nat, 14 < j → L5656 5 j = 0 := fun j hj => (rdL_ne eL5656 (fun q => by omega)).trans (Z5654 j (by omega))
  have q5658 : L5656 5 14 = 11566 := rdL_eq eL5656
  refine g_iinc (pc1 := 99) (v := 75) (lv' := [(0, .ref 4), (1, .int 14), (2, .int 75), (3, .int 110)]) d_Tokens_init_96 rfl 2 rfl (by decide) (by decide) [1, 2, 0, 3] rfl ?_
  refine g_goto (tgt := 43) d_Tokens_init_99 (by decide) ?_
  refine g_iload_n (pc1 := 44) d_Tokens_init_43 rfl 2 rfl ?_
  refine g_strlen (pc1 := 49) rfl d_Tokens_init_44 d_Tokens_init_46 rfl (Nat.le_of_ble_eq_true rfl) ⟨Nat.le_of_ble_eq_true rfl, Nat.le_of_ble_eq_true rfl⟩ ?_
  refine g_icmp_ge (pc1 := 52) (tgt := 102) d_Tokens_init_49 (by decide) rfl (fun h => absurd h (by decide)) (fun _ => ?_)
  refine g_strchr (pc1 := 58) (v := 100) rfl d_Tokens_init_52 d_Tokens_init_54 d_Tokens_init_55 rfl 2 rfl (by decide) (by decide) (by decide +kernel) (Nat.le_of_ble_eq_true rfl) ⟨Nat.le_of_ble_eq_true rfl, Nat.le_of_ble_eq_true rfl⟩ ?_
  refine g_istore_n (pc1 := 59) (lv' := [(0, .ref 4), (1, .int 14), (2, .int 75), (3, .int 100)]) d_Tokens_init_58 rfl rfl (by decide) [1, 2, 3, 0] rfl ?_
  refine g_iload_n (pc1 := 60) d_Tokens_init_59 rfl 3 rfl ?_
  refine g_bipush (pc1 := 62) (v := 32) d_Tokens_init_60 rfl (by decide) ?_
  refine g_icmp_ne (pc1 := 65) (tgt := 71) d_Tokens_init_62 (by decide) rfl (fun _ => ?_) (fun h => absurd h (by decide))
  refine g_iload_n (pc1 := 72) d_Tokens_init_71 rfl 1 rfl ?_
  refine g_aload_n (pc1 := 73) d_Tokens_init_72 rfl 0 rfl ?_
  refine g_getr (pc1 := 76) d_Tokens_init_73 rfl ⟨_, fo_Tokens_9⟩ sh_4 (by decide) q5474 ?_
  refine g_alen (pc1 := 77) (v := 21) d_Tokens_init_76 rfl sh_5 (by decide) (by decide) (by decide) (by decide) ?_
  refine g_icmp_ge (pc1 := 80) (tgt := 96) d_Tokens_init_77 (by decide) rfl (fun h => absurd h (by decide)) (fun _ => ?_)
  refine g_aload_n (pc1 := 81) d_Tokens_init_80 rfl 0 rfl ?_
  refine g_getr (pc1 := 84) d_Tokens_init_81 rfl ⟨_, fo_Tokens_9⟩ sh_4 (by decide) q5474 ?_
  refine g_iload_n (pc1 := 85) d_Tokens_init_84 rfl 1 rfl ?_
  refine g_aload_n (pc1 := 86) d_Tokens_init_85 rfl 0 rfl ?_
  refine g_getr (pc1 := 89) d_Tokens_init_86 rfl ⟨_, fo_Tokens_9⟩ sh_4 (by decide) q5474 ?_
  refine g_iload_n (pc1 := 90) d_Tokens_init_89 rfl 1 rfl ?_
  refine g_lald (pc1 := 91) d_Tokens_init_90 rfl sh_5 (by decide) (vin_lit (x := 14) (by decide)) ?_
  refine Wp.vall (y := 11566) (by rw [show (14 : Int32).toNatClampNeg = 14 from by decide]; exact q5658) ?_
  refine g_iload_n (pc1 := 92) d_Tokens_init_91 rfl 3 rfl ?_
  refine g_callS (pc1 := 95) (E' := (0, 0, 9)) (As := [.long 11566, .int 100]) (rest := [.int 14, .ref 5]) d_Tokens_init_92 rfl mo_Tokens_37 ms_Tokens_withLetter (by decide) rfl rfl (Nat.le_of_ble_eq_true rfl) ⟨Nat.le_of_ble_eq_true rfl, Nat.le_of_ble_eq_true rfl⟩ rfl ?_
  refine t0_withLetter ?_
  dsimp only [psh]
  refine Wp.vall (y := 370116) (by decide +kernel) ?_
  refine g_last (pc1 := 96) d_Tokens_init_95 rfl sh_5 (by decide) (vin_lit (x := 14) (by decide)) ?_
  rw [show ((14 : Int32).toNatClampNeg) = 14 from by decide]
  refine Wp.topL (fun L5659 eL5659 => ?_)
  have Z5660 : ∀ j : Nat, 14 < j → L5659 5 j = 0 := fun j hj => (rdL_ne eL5659 (fun q => by omega)).trans (Z5657 j (by omega))
  have q5661 : L5659 5 14 = 370116 := rdL_eq eL5659
  refine g_iinc (pc1 := 99) (v := 76) (lv' := [(0, .ref 4), (1, .int 14), (2, .int 76), (3, .int 100)]) d_Tokens_init_96 rfl 2 rfl (by decide) (by decide) [1, 2, 0, 3] rfl ?_
  refine g_goto (tgt := 43) d_Tokens_init_99 (by decide) ?_
  refine g_iload_n (pc1 := 44) d_Tokens_init_43 rfl 2 rfl ?_
  refine g_strlen (pc1 := 49) rfl d_Tokens_init_44 d_Tokens_init_46 rfl (Nat.le_of_ble_eq_true rfl) ⟨Nat.le_of_ble_eq_true rfl, Nat.le_of_ble_eq_true rfl⟩ ?_
  refine g_icmp_ge (pc1 := 52) (tgt := 102) d_Tokens_init_49 (by decide) rfl (fun h => absurd h (by decide)) (fun _ => ?_)
  refine g_strchr (pc1 := 58) (v := 32) rfl d_Tokens_init_52 d_Tokens_init_54 d_Tokens_init_55 rfl 2 rfl (by decide) (by decide) (by decide +kernel) (Nat.le_of_ble_eq_true rfl) ⟨Nat.le_of_ble_eq_true rfl, Nat.le_of_ble_eq_true rfl⟩ ?_
  refine g_istore_n (pc1 := 59) (lv' := [(0, .ref 4), (1, .int 14), (2, .int 76), (3, .int 32)]) d_Tokens_init_58 rfl rfl (by decide) [1, 2, 3, 0] rfl ?_
  refine g_iload_n (pc1 := 60) d_Tokens_init_59 rfl 3 rfl ?_
  refine g_bipush (pc1 := 62) (v := 32) d_Tokens_init_60 rfl (by decide) ?_
  refine g_icmp_ne (pc1 := 65) (tgt := 71) d_Tokens_init_62 (by decide) rfl (fun h => absurd h (by decide)) (fun _ => ?_)
  refine g_iinc (pc1 := 68) (v := 15) (lv' := [(0, .ref 4), (1, .int 15), (2, .int 76), (3, .int 32)]) d_Tokens_init_65 rfl 1 rfl (by decide) (by decide) [1, 0, 2, 3] rfl ?_
  refine g_goto (tgt := 96) d_Tokens_init_68 (by decide) ?_
  refine g_iinc (pc1 := 99) (v := 77) (lv' := [(0, .ref 4), (1, .int 15), (2, .int 77), (3, .int 32)]) d_Tokens_init_96 rfl 2 rfl (by decide) (by decide) [1, 2, 0, 3] rfl ?_
  refine g_goto (tgt := 43) d_Tokens_init_99 (by decide) ?_
  refine g_iload_n (pc1 := 44) d_Tokens_init_43 rfl 2 rfl ?_
  refine g_strlen (pc1 := 49) rfl d_Tokens_init_44 d_Tokens_init_46 rfl (Nat.le_of_ble_eq_true rfl) ⟨Nat.le_of_ble_eq_true rfl, Nat.le_of_ble_eq_true rfl⟩ ?_
  refine g_icmp_ge (pc1 := 52) (tgt := 102) d_Tokens_init_49 (by decide) rfl (fun h => absurd h (by decide)) (fun _ => ?_)
  refine g_strchr (pc1 := 58) (v := 109) rfl d_Tokens_init_52 d_Tokens_init_54 d_Tokens_init_55 rfl 2 rfl (by decide) (by decide) (by decide +kernel) (Nat.le_of_ble_eq_true rfl) ⟨Nat.le_of_ble_eq_true rfl, Nat.le_of_ble_eq_true rfl⟩ ?_
  refine g_istore_n (pc1 := 59) (lv' := [(0, .ref 4), (1, .int 15), (2, .int 77), (3, .int 109)]) d_Tokens_init_58 rfl rfl (by decide) [1, 2, 3, 0] rfl ?_
  refine g_iload_n (pc1 := 60) d_Tokens_init_59 rfl 3 rfl ?_
  refine g_bipush (pc1 := 62) (v := 32) d_Tokens_init_60 rfl (by decide) ?_
  refine g_icmp_ne (pc1 := 65) (tgt := 71) d_Tokens_init_62 (by decide) rfl (fun _ => ?_) (fun h => absurd h (by decide))
  refine g_iload_n (pc1 := 72) d_Tokens_init_71 rfl 1 rfl ?_
  refine g_aload_n (pc1 := 73) d_Tokens_init_72 rfl 0 rfl ?_
  refine g_getr (pc1 := 76) d_Tokens_init_73 rfl ⟨_, fo_Tokens_9⟩ sh_4 (by decide) q5474 ?_
  refine g_alen (pc1 := 77) (v := 21) d_Tokens_init_76 rfl sh_5 (by decide) (by decide) (by decide) (by decide) ?_
  refine g_icmp_ge (pc1 := 80) (tgt := 96) d_Tokens_init_77 (by decide) rfl (fun h => absurd h (by decide)) (fun _ => ?_)
  refine g_aload_n (pc1 := 81) d_Tokens_init_80 rfl 0 rfl ?_
  refine g_getr (pc1 := 84) d_Tokens_init_81 rfl ⟨_, fo_Tokens_9⟩ sh_4 (by decide) q5474 ?_
  refine g_iload_n (pc1 := 85) d_Tokens_init_84 rfl 1 rfl ?_
  refine g_aload_n (pc1 := 86) d_Tokens_init_85 rfl 0 rfl ?_
  refine g_getr (pc1 := 89) d_Tokens_init_86 rfl ⟨_, fo_Tokens_9⟩ sh_4 (by decide) q5474 ?_
  refine g_iload_n (pc1 := 90) d_Tokens_init_89 rfl 1 rfl ?_
  refine g_lald (pc1 := 91) d_Tokens_init_90 rfl sh_5 (by decide) (vin_lit (x := 15) (by decide)) ?_
  refine Wp.vall (y := 0) (by rw [show (15 : Int32).toNatClampNeg = 15 from by decide]; exact (Z5660 15 (by decide))) ?_
  refine g_iload_n (pc1 := 92) d_Tokens_init_91 rfl 3 rfl ?_
  refine g_callS (pc1 := 95) (E' := (0, 0, 9)) (As := [.long 0, .int 109]) (rest := [.int 15, .ref 5]) d_Tokens_init_92 rfl mo_Tokens_37 ms_Tokens_withLetter (by decide) rfl rfl (Nat.le_of_ble_eq_true rfl) ⟨Nat.le_of_ble_eq_true rfl, Nat.le_of_ble_eq_true rfl⟩ rfl ?_
  refine t0_withLetter ?_
  dsimp only [psh]
  refine Wp.vall (y := 13) (by decide +kernel) ?_
  refine g_last (pc1 := 96) d_Tokens_init_95 rfl sh_5 (by decide) (vin_lit (x := 15) (by decide)) ?_
  rw [show ((15 : Int32).toNatClampNeg) = 15 from by decide]
  refine Wp.topL (fun L5662 eL5662 => ?_)
  have Z5663 : ∀ j : Nat, 15 < j → L5662 5 j = 0 := fun j hj => (rdL_ne eL5662 (fun q => by omega)).trans (Z5660 j (by omega))
  have q5664 : L5662 5 15 = 13 := rdL_eq eL5662
  refine g_iinc (pc1 := 99) (v := 78) (lv' := [(0, .ref 4), (1, .int 15), (2, .int 78), (3, .int 109)]) d_Tokens_init_96 rfl 2 rfl (by decide) (by decide) [1, 2, 0, 3] rfl ?_
  refine g_goto (tgt := 43) d_Tokens_init_99 (by decide) ?_
  refine g_iload_n (pc1 := 44) d_Tokens_init_43 rfl 2 rfl ?_
  refine g_strlen (pc1 := 49) rfl d_Tokens_init_44 d_Tokens_init_46 rfl (Nat.le_of_ble_eq_true rfl) ⟨Nat.le_of_ble_eq_true rfl, Nat.le_of_ble_eq_true rfl⟩ ?_
  refine g_icmp_ge (pc1 := 52) (tgt := 102) d_Tokens_init_49 (by decide) rfl (fun h => absurd h (by decide)) (fun _ => ?_)
  refine g_strchr (pc1 := 58) (v := 97) rfl d_Tokens_init_52 d_Tokens_init_54 d_Tokens_init_55 rfl 2 rfl (by decide) (by decide) (by decide +kernel) (Nat.le_of_ble_eq_true rfl) ⟨Nat.le_of_ble_eq_true rfl, Nat.le_of_ble_eq_true rfl⟩ ?_
  refine g_istore_n (pc1 := 59) (lv' := [(0, .ref 4), (1, .int 15), (2, .int 78), (3, .int 97)]) d_Tokens_init_58 rfl rfl (by decide) [1, 2, 3, 0] rfl ?_
  refine g_iload_n (pc1 := 60) d_Tokens_init_59 rfl 3 rfl ?_
  refine g_bipush (pc1 := 62) (v := 32) d_Tokens_init_60 rfl (by decide) ?_
  refine g_icmp_ne (pc1 := 65) (tgt := 71) d_Tokens_init_62 (by decide) rfl (fun _ => ?_) (fun h => absurd h (by decide))
  refine g_iload_n (pc1 := 72) d_Tokens_init_71 rfl 1 rfl ?_
  refine g_aload_n (pc1 := 73) d_Tokens_init_72 rfl 0 rfl ?_
  refine g_getr (pc1 := 76) d_Tokens_init_73 rfl ⟨_, fo_Tokens_9⟩ sh_4 (by decide) q5474 ?_
  refine g_alen (pc1 := 77) (v := 21) d_Tokens_init_76 rfl sh_5 (by decide) (by decide) (by decide) (by decide) ?_
  refine g_icmp_ge (pc1 := 80) (tgt := 96) d_Tokens_init_77 (by decide) rfl (fun h => absurd h (by decide)) (fun _ => ?_)
  refine g_aload_n (pc1 := 81) d_Tokens_init_80 rfl 0 rfl ?_
  refine g_getr (pc1 := 84) d_Tokens_init_81 rfl ⟨_, fo_Tokens_9⟩ sh_4 (by decide) q5474 ?_
  refine g_iload_n (pc1 := 85) d_Tokens_init_84 rfl 1 rfl ?_
  refine g_aload_n (pc1 := 86) d_Tokens_init_85 rfl 0 rfl ?_
  refine g_getr (pc1 := 89) d_Tokens_init_86 rfl ⟨_, fo_Tokens_9⟩ sh_4 (by decide) q5474 ?_
  refine g_iload_n (pc1 := 90) d_Tokens_init_89 rfl 1 rfl ?_
  refine g_lald (pc1 := 91) d_Tokens_init_90 rfl sh_5 (by decide) (vin_lit (x := 15) (by decide)) ?_
  refine Wp.vall (y := 13) (by rw [show (15 : Int32).toNatClampNeg = 15 from by decide]; exact q5664) ?_
  refine g_iload_n (pc1 := 92) d_Tokens_init_91 rfl 3 rfl ?_
  refine g_callS (pc1 := 95) (E' := (0, 0, 9)) (As := [.long 13, .int 97]) (rest := [.int 15, .ref 5]) d_Tokens_init_92 rfl mo_Tokens_37 ms_Tokens_withLetter (by decide) rfl rfl (Nat.le_of_ble_eq_true rfl) ⟨Nat.le_of_ble_eq_true rfl, Nat.le_of_ble_eq_true rfl⟩ rfl ?_
  refine t0_withLetter ?_
  dsimp only [psh]
  refine Wp.vall (y := 417) (by decide +kernel) ?_
  refine g_last (pc1 := 96) d_Tokens_init_95 rfl sh_5 (by decide) (vin_lit (x := 15) (by decide)) ?_
  rw [show ((15 : Int32).toNatClampNeg) = 15 from by decide]
  refine Wp.topL (fun L5665 eL5665 => ?_)
  have Z5666 : ∀ j : Nat, 15 < j → L5665 5 j = 0 := fun j hj => (rdL_ne eL5665 (fun q => by omega)).trans (Z5663 j (by omega))
  have q5667 : L5665 5 15 = 417 := rdL_eq eL5665
  refine g_iinc (pc1 := 99) (v := 79) (lv' := [(0, .ref 4), (1, .int 15), (2, .int 79), (3, .int 97)]) d_Tokens_init_96 rfl 2 rfl (by decide) (by decide) [1, 2, 0, 3] rfl ?_
  refine g_goto (tgt := 43) d_Tokens_init_99 (by decide) ?_
  refine g_iload_n (pc1 := 44) d_Tokens_init_43 rfl 2 rfl ?_
  refine g_strlen (pc1 := 49) rfl d_Tokens_init_44 d_Tokens_init_46 rfl (Nat.le_of_ble_eq_true rfl) ⟨Nat.le_of_ble_eq_true rfl, Nat.le_of_ble_eq_true rfl⟩ ?_
  refine g_icmp_ge (pc1 := 52) (tgt := 102) d_Tokens_init_49 (by decide) rfl (fun h => absurd h (by decide)) (fun _ => ?_)
  refine g_strchr (pc1 := 58) (v := 110) rfl d_Tokens_init_52 d_Tokens_init_54 d_Tokens_init_55 rfl 2 rfl (by decide) (by decide) (by decide +kernel) (Nat.le_of_ble_eq_true rfl) ⟨Nat.le_of_ble_eq_true rfl, Nat.le_of_ble_eq_true rfl⟩ ?_
  refine g_istore_n (pc1 := 59) (lv' := [(0, .ref 4), (1, .int 15), (2, .int 79), (3, .int 110)]) d_Tokens_init_58 rfl rfl (by decide) [1, 2, 3, 0] rfl ?_
  refine g_iload_n (pc1 := 60) d_Tokens_init_59 rfl 3 rfl ?_
  refine g_bipush (pc1 := 62) (v := 32) d_Tokens_init_60 rfl (by decide) ?_
  refine g_icmp_ne (pc1 := 65) (tgt := 71) d_Tokens_init_62 (by decide) rfl (fun _ => ?_) (fun h => absurd h (by decide))
  refine g_iload_n (pc1 := 72) d_Tokens_init_71 rfl 1 rfl ?_
  refine g_aload_n (pc1 := 73) d_Tokens_init_72 rfl 0 rfl ?_
  refine g_getr (pc1 := 76) d_Tokens_init_73 rfl ⟨_, fo_Tokens_9⟩ sh_4 (by decide) q5474 ?_
  refine g_alen (pc1 := 77) (v := 21) d_Tokens_init_76 rfl sh_5 (by decide) (by decide) (by decide) (by decide) ?_
  refine g_icmp_ge (pc1 := 80) (tgt := 96) d_Tokens_init_77 (by decide) rfl (fun h => absurd h (by decide)) (fun _ => ?_)
  refine g_aload_n (pc1 := 81) d_Tokens_init_80 rfl 0 rfl ?_
  refine g_getr (pc1 := 84) d_Tokens_init_81 rfl ⟨_, fo_Tokens_9⟩ sh_4 (by decide) q5474 ?_
  refine g_iload_n (pc1 := 85) d_Tokens_init_84 rfl 1 rfl ?_
  refine g_aload_n (pc1 := 86) d_Tokens_init_85 rfl 0 rfl ?_
  refine g_getr (pc1 := 89) d_Tokens_init_86 rfl ⟨_, fo_Tokens_9⟩ sh_4 (by decide) q5474 ?_
  refine g_iload_n (pc1 := 90) d_Tokens_init_89 rfl 1 rfl ?_
  refine g_lald (pc1 := 91) d_Tokens_init_90 rfl sh_5 (by decide) (vin_lit (x := 15) (by decide)) ?_
  refine Wp.vall (y := 417) (by rw [show (15 : Int32).toNatClampNeg = 15 from by decide]; exact q5667) ?_
  refine g_iload_n (pc1 := 92) d_Tokens_init_91 rfl 3 rfl ?_
  refine g_callS (pc1 := 95) (E' := (0, 0, 9)) (As := [.long 417, .int 110]) (rest := [.int 15, .ref 5]) d_Tokens_init_92 rfl mo_Tokens_37 ms_Tokens_withLetter (by decide) rfl rfl (Nat.le_of_ble_eq_true rfl) ⟨Nat.le_of_ble_eq_true rfl, Nat.le_of_ble_eq_true rfl⟩ rfl ?_
  refine t0_withLetter ?_
  dsimp only [psh]
  refine Wp.vall (y := 13358) (by decide +kernel) ?_
  refine g_last (pc1 := 96) d_Tokens_init_95 rfl sh_5 (by decide) (vin_lit (x := 15) (by decide)) ?_
  rw [show ((15 : Int32).toNatClampNeg) = 15 from by decide]
  refine Wp.topL (fun L5668 eL5668 => ?_)
  have Z5669 : ∀ j : Nat, 15 < j → L5668 5 j = 0 := fun j hj => (rdL_ne eL5668 (fun q => by omega)).trans (Z5666 j (by omega))
  have q5670 : L5668 5 15 = 13358 := rdL_eq eL5668
  refine g_iinc (pc1 := 99) (v := 80) (lv' := [(0, .ref 4), (1, .int 15), (2, .int 80), (3, .int 110)]) d_Tokens_init_96 rfl 2 rfl (by decide) (by decide) [1, 2, 0, 3] rfl ?_
  refine g_goto (tgt := 43) d_Tokens_init_99 (by decide) ?_
  refine g_iload_n (pc1 := 44) d_Tokens_init_43 rfl 2 rfl ?_
  refine g_strlen (pc1 := 49) rfl d_Tokens_init_44 d_Tokens_init_46 rfl (Nat.le_of_ble_eq_true rfl) ⟨Nat.le_of_ble_eq_true rfl, Nat.le_of_ble_eq_true rfl⟩ ?_
  refine g_icmp_ge (pc1 := 52) (tgt := 102) d_Tokens_init_49 (by decide) rfl (fun h => absurd h (by decide)) (fun _ => ?_)
  refine g_strchr (pc1 := 58) (v := 121) rfl d_Tokens_init_52 d_Tokens_init_54 d_Tokens_init_55 rfl 2 rfl (by decide) (by decide) (by decide +kernel) (Nat.le_of_ble_eq_true rfl) ⟨Nat.le_of_ble_eq_true rfl, Nat.le_of_ble_eq_true rfl⟩ ?_
  refine g_istore_n (pc1 := 59) (lv' := [(0, .ref 4), (1, .int 15), (2, .int 80), (3, .int 121)]) d_Tokens_init_58 rfl rfl (by decide) [1, 2, 3, 0] rfl ?_
  refine g_iload_n (pc1 := 60) d_Tokens_init_59 rfl 3 rfl ?_
  refine g_bipush (pc1 := 62) (v := 32) d_Tokens_init_60 rfl (by decide) ?_
  refine g_icmp_ne (pc1 := 65) (tgt := 71) d_Tokens_init_62 (by decide) rfl (fun _ => ?_) (fun h => absurd h (by decide))
  refine g_iload_n (pc1 := 72) d_Tokens_init_71 rfl 1 rfl ?_
  refine g_aload_n (pc1 := 73) d_Tokens_init_72 rfl 0 rfl ?_
  refine g_getr (pc1 := 76) d_Tokens_init_73 rfl ⟨_, fo_Tokens_9⟩ sh_4 (by decide) q5474 ?_
  refine g_alen (pc1 := 77) (v := 21) d_Tokens_init_76 rfl sh_5 (by decide) (by decide) (by decide) (by decide) ?_
  refine g_icmp_ge (pc1 := 80) (tgt := 96) d_Tokens_init_77 (by decide) rfl (fun h => absurd h (by decide)) (fun _ => ?_)
  refine g_aload_n (pc1 := 81) d_Tokens_init_80 rfl 0 rfl ?_
  refine g_getr (pc1 := 84) d_Tokens_init_81 rfl ⟨_, fo_Tokens_9⟩ sh_4 (by decide) q5474 ?_
  refine g_iload_n (pc1 := 85) d_Tokens_init_84 rfl 1 rfl ?_
  refine g_aload_n (pc1 := 86) d_Tokens_init_85 rfl 0 rfl ?_
  refine g_getr (pc1 := 89) d_Tokens_init_86 rfl ⟨_, fo_Tokens_9⟩ sh_4 (by decide) q5474 ?_
  refine g_iload_n (pc1 := 90) d_Tokens_init_89 rfl 1 rfl ?_
  refine g_lald (pc1 := 91) d_Tokens_init_90 rfl sh_5 (by decide) (vin_lit (x := 15) (by decide)) ?_
  refine Wp.vall (y := 13358) (by rw [show (15 : Int32).toNatClampNeg = 15 from by decide]; exact q5670) ?_
  refine g_iload_n (pc1 := 92) d_Tokens_init_91 rfl 3 rfl ?_
  refine g_callS (pc1 := 95) (E' := (0, 0, 9)) (As := [.long 13358, .int 121]) (rest := [.int 15, .ref 5]) d_Tokens_init_92 rfl mo_Tokens_37 ms_Tokens_withLetter (by decide) rfl rfl (Nat.le_of_ble_eq_true rfl) ⟨Nat.le_of_ble_eq_true rfl, Nat.le_of_ble_eq_true rfl⟩ rfl ?_
  refine t0_withLetter ?_
  dsimp only [psh]
  refine Wp.vall (y := 427481) (by decide +kernel) ?_
  refine g_last (pc1 := 96) d_Tokens_init_95 rfl sh_5 (by decide) (vin_lit (x := 15) (by decide)) ?_
  rw [show ((15 : Int32).toNatClampNeg) = 15 from by decide]
  refine Wp.topL (fun L5671 eL5671 => ?_)
  have Z5672 : ∀ j : Nat, 15 < j → L5671 5 j = 0 := fun j hj => (rdL_ne eL5671 (fun q => by omega)).trans (Z5669 j (by omega))
  have q5673 : L5671 5 15 = 427481 := rdL_eq eL5671
  refine g_iinc (pc1 := 99) (v := 81) (lv' := [(0, .ref 4), (1, .int 15), (2, .int 81), (3, .int 121)]) d_Tokens_init_96 rfl 2 rfl (by decide) (by decide) [1, 2, 0, 3] rfl ?_
  refine g_goto (tgt := 43) d_Tokens_init_99 (by decide) ?_
  refine g_iload_n (pc1 := 44) d_Tokens_init_43 rfl 2 rfl ?_
  refine g_strlen (pc1 := 49) rfl d_Tokens_init_44 d_Tokens_init_46 rfl (Nat.le_of_ble_eq_true rfl) ⟨Nat.le_of_ble_eq_true rfl, Nat.le_of_ble_eq_true rfl⟩ ?_
  refine g_icmp_ge (pc1 := 52) (tgt := 102) d_Tokens_init_49 (by decide) rfl (fun h => absurd h (by decide)) (fun _ => ?_)
  refine g_strchr (pc1 := 58) (v := 32) rfl d_Tokens_init_52 d_Tokens_init_54 d_Tokens_init_55 rfl 2 rfl (by decide) (by decide) (by decide +kernel) (Nat.le_of_ble_eq_true rfl) ⟨Nat.le_of_ble_eq_true rfl, Nat.le_of_ble_eq_true rfl⟩ ?_
  refine g_istore_n (pc1 := 59) (lv' := [(0, .ref 4), (1, .int 15), (2, .int 81), (3, .int 32)]) d_Tokens_init_58 rfl rfl (by decide) [1, 2, 3, 0] rfl ?_
  refine g_iload_n (pc1 := 60) d_Tokens_init_59 rfl 3 rfl ?_
  refine g_bipush (pc1 := 62) (v := 32) d_Tokens_init_60 rfl (by decide) ?_
  refine g_icmp_ne (pc1 := 65) (tgt := 71) d_Tokens_init_62 (by decide) rfl (fun h => absurd h (by decide)) (fun _ => ?_)
  refine g_iinc (pc1 := 68) (v := 16) (lv' := [(0, .ref 4), (1, .int 16), (2, .int 81), (3, .int 32)]) d_Tokens_init_65 rfl 1 rfl (by decide) (by decide) [1, 0, 2, 3] rfl ?_
  refine g_goto (tgt := 96) d_Tokens_init_68 (by decide) ?_
  refine g_iinc (pc1 := 99) (v := 82) (lv' := [(0, .ref 4), (1, .int 16), (2, .int 82), (3, .int 32)]) d_Tokens_init_96 rfl 2 rfl (by decide) (by decide) [1, 2, 0, 3] rfl ?_
  refine g_goto (tgt := 43) d_Tokens_init_99 (by decide) ?_
  refine g_iload_n (pc1 := 44) d_Tokens_init_43 rfl 2 rfl ?_
  refine g_strlen (pc1 := 49) rfl d_Tokens_init_44 d_Tokens_init_46 rfl (Nat.le_of_ble_eq_true rfl) ⟨Nat.le_of_ble_eq_true rfl, Nat.le_of_ble_eq_true rfl⟩ ?_
  refine g_icmp_ge (pc1 := 52) (tgt := 102) d_Tokens_init_49 (by decide) rfl (fun h => absurd h (by decide)) (fun _ => ?_)
  refine g_strchr (pc1 := 58) (v := 100) rfl d_Tokens_init_52 d_Tokens_init_54 d_Tokens_init_55 rfl 2 rfl (by decide) (by decide) (by decide +kernel) (Nat.le_of_ble_eq_true rfl) ⟨Nat.le_of_ble_eq_true rfl, Nat.le_of_ble_eq_true rfl⟩ ?_
  refine g_istore_n (pc1 := 59) (lv' := [(0, .ref 4), (1, .int 16), (2, .int 82), (3, .int 100)]) d_Tokens_init_58 rfl rfl (by decide) [1, 2, 3, 0] rfl ?_
  refine g_iload_n (pc1 := 60) d_Tokens_init_59 rfl 3 rfl ?_
  refine g_bipush (pc1 := 62) (v := 32) d_Tokens_init_60 rfl (by decide) ?_
  refine g_icmp_ne (pc1 := 65) (tgt := 71) d_Tokens_init_62 (by decide) rfl (fun _ => ?_) (fun h => absurd h (by decide))
  refine g_iload_n (pc1 := 72) d_Tokens_init_71 rfl 1 rfl ?_
  refine g_aload_n (pc1 := 73) d_Tokens_init_72 rfl 0 rfl ?_
  refine g_getr (pc1 := 76) d_Tokens_init_73 rfl ⟨_, fo_Tokens_9⟩ sh_4 (by decide) q5474 ?_
  refine g_alen (pc1 := 77) (v := 21) d_Tokens_init_76 rfl sh_5 (by decide) (by decide) (by decide) (by decide) ?_
  refine g_icmp_ge (pc1 := 80) (tgt := 96) d_Tokens_init_77 (by decide) rfl (fun h => absurd h (by decide)) (fun _ => ?_)
  refine g_aload_n (pc1 := 81) d_Tokens_init_80 rfl 0 rfl ?_
  refine g_getr (pc1 := 84) d_Tokens_init_81 rfl ⟨_, fo_Tokens_9⟩ sh_4 (by decide) q5474 ?_
  refine g_iload_n (pc1 := 85) d_Tokens_init_84 rfl 1 rfl ?_
  refine g_aload_n (pc1 := 86) d_Tokens_init_85 rfl 0 rfl ?_
  refine g_getr (pc1 := 89) d_Tokens_init_86 rfl ⟨_, fo_Tokens_9⟩ sh_4 (by decide) q5474 ?_
  refine g_iload_n (pc1 := 90) d_Tokens_init_89 rfl 1 rfl ?_
  refine g_lald (pc1 := 91) d_Tokens_init_90 rfl sh_5 (by decide) (vin_lit (x := 16) (by decide)) ?_
  refine Wp.vall (y := 0) (by rw [show (16 : Int32).toNatClampNeg = 16 from by decide]; exact (Z5672 16 (by decide))) ?_
  refine g_iload_n (pc1 := 92) d_Tokens_init_91 rfl 3 rfl ?_
  refine g_callS (pc1 := 95) (E' := (0, 0, 9)) (As := [.long 0, .int 100]) (rest := [.int 16, .ref 5]) d_Tokens_init_92 rfl mo_Tokens_37 ms_Tokens_withLetter (by decide) rfl rfl (Nat.le_of_ble_eq_true rfl) ⟨Nat.le_of_ble_eq_true rfl, Nat.le_of_ble_eq_true rfl⟩ rfl ?_
  refine t0_withLetter ?_
  dsimp only [psh]
  refine Wp.vall (y := 4) (by decide +kernel) ?_
  refine g_last (pc1 := 96) d_Tokens_init_95 rfl sh_5 (by decide) (vin_lit (x := 16) (by decide)) ?_
  rw [show ((16 : Int32).toNatClampNeg) = 16 from by decide]
  refine Wp.topL (fun L5674 eL5674 => ?_)
  have Z5675 : ∀ j : Nat, 16 < j → L5674 5 j = 0 := fun j hj => (rdL_ne eL5674 (fun q => by omega)).trans (Z5672 j (by omega))
  have q5676 : L5674 5 16 = 4 := rdL_eq eL5674
  refine g_iinc (pc1 := 99) (v := 83) (lv' := [(0, .ref 4), (1, .int 16), (2, .int 83), (3, .int 100)]) d_Tokens_init_96 rfl 2 rfl (by decide) (by decide) [1, 2, 0, 3] rfl ?_
  refine g_goto (tgt := 43) d_Tokens_init_99 (by decide) ?_
  refine g_iload_n (pc1 := 44) d_Tokens_init_43 rfl 2 rfl ?_
  refine g_strlen (pc1 := 49) rfl d_Tokens_init_44 d_Tokens_init_46 rfl (Nat.le_of_ble_eq_true rfl) ⟨Nat.le_of_ble_eq_true rfl, Nat.le_of_ble_eq_true rfl⟩ ?_
  refine g_icmp_ge (pc1 := 52) (tgt := 102) d_Tokens_init_49 (by decide) rfl (fun h => absurd h (by decide)) (fun _ => ?_)
  refine g_strchr (pc1 := 58) (v := 97) rfl d_Tokens_init_52 d_Tokens_init_54 d_Tokens_init_55 rfl 2 rfl (by decide) (by decide) (by decide +kernel) (Nat.le_of_ble_eq_true rfl) ⟨Nat.le_of_ble_eq_true rfl, Nat.le_of_ble_eq_true rfl⟩ ?_
  refine g_istore_n (pc1 := 59) (lv' := [(0, .ref 4), (1, .int 16), (2, .int 83), (3, .int 97)]) d_Tokens_init_58 rfl rfl (by decide) [1, 2, 3, 0] rfl ?_
  refine g_iload_n (pc1 := 60) d_Tokens_init_59 rfl 3 rfl ?_
  refine g_bipush (pc1 := 62) (v := 32) d_Tokens_init_60 rfl (by decide) ?_
  refine g_icmp_ne (pc1 := 65) (tgt := 71) d_Tokens_init_62 (by decide) rfl (fun _ => ?_) (fun h => absurd h (by decide))
  refine g_iload_n (pc1 := 72) d_Tokens_init_71 rfl 1 rfl ?_
  refine g_aload_n (pc1 := 73) d_Tokens_init_72 rfl 0 rfl ?_
  refine g_getr (pc1 := 76) d_Tokens_init_73 rfl ⟨_, fo_Tokens_9⟩ sh_4 (by decide) q5474 ?_
  refine g_alen (pc1 := 77) (v := 21) d_Tokens_init_76 rfl sh_5 (by decide) (by decide) (by decide) (by decide) ?_
  refine g_icmp_ge (pc1 := 80) (tgt := 96) d_Tokens_init_77 (by decide) rfl (fun h => absurd h (by decide)) (fun _ => ?_)
  refine g_aload_n (pc1 := 81) d_Tokens_init_80 rfl 0 rfl ?_
  refine g_getr (pc1 := 84) d_Tokens_init_81 rfl ⟨_, fo_Tokens_9⟩ sh_4 (by decide) q5474 ?_
  refine g_iload_n (pc1 := 85) d_Tokens_init_84 rfl 1 rfl ?_
  refine g_aload_n (pc1 := 86) d_Tokens_init_85 rfl 0 rfl ?_
  refine g_getr (pc1 := 89) d_Tokens_init_86 rfl ⟨_, fo_Tokens_9⟩ sh_4 (by decide) q5474 ?_
  refine g_iload_n (pc1 := 90) d_Tokens_init_89 rfl 1 rfl ?_
  refine g_lald (pc1 := 91) d_Tokens_init_90 rfl sh_5 (by decide) (vin_lit (x := 16) (by decide)) ?_
  refine Wp.vall (y := 4) (by rw [show (16 : Int32).toNatClampNeg = 16 from by decide]; exact q5676) ?_
  refine g_iload_n (pc1 := 92) d_Tokens_init_91 rfl 3 rfl ?_
  refine g_callS (pc1 := 95) (E' := (0, 0, 9)) (As := [.long 4, .int 97]) (rest := [.int 16, .ref 5]) d_Tokens_init_92 rfl mo_Tokens_37 ms_Tokens_withLetter (by decide) rfl rfl (Nat.le_of_ble_eq_true rfl) ⟨Nat.le_of_ble_eq_true rfl, Nat.le_of_ble_eq_true rfl⟩ rfl ?_
  refine t0_withLetter ?_
  dsimp only [psh]
  refine Wp.vall (y := 129) (by decide +kernel) ?_
  refine g_last (pc1 := 96) d_Tokens_init_95 rfl sh_5 (by decide) (vin_lit (x := 16) (by decide)) ?_
  rw [show ((16 : Int32).toNatClampNeg) = 16 from by decide]
  refine Wp.topL (fun L5677 eL5677 => ?_)
  have Z5678 : ∀ j : Nat, 16 < j → L5677 5 j = 0 := fun j hj => (rdL_ne eL5677 (fun q => by omega)).trans (Z5675 j (by omega))
  have q5679 : L5677 5 16 = 129 := rdL_eq eL5677
  refine g_iinc (pc1 := 99) (v := 84) (lv' := [(0, .ref 4), (1, .int 16), (2, .int 84), (3, .int 97)]) d_Tokens_init_96 rfl 2 rfl (by decide) (by decide) [1, 2, 0, 3] rfl ?_
  refine g_goto (tgt := 43) d_Tokens_init_99 (by decide) ?_
  refine g_iload_n (pc1 := 44) d_Tokens_init_43 rfl 2 rfl ?_
  refine g_strlen (pc1 := 49) rfl d_Tokens_init_44 d_Tokens_init_46 rfl (Nat.le_of_ble_eq_true rfl) ⟨Nat.le_of_ble_eq_true rfl, Nat.le_of_ble_eq_true rfl⟩ ?_
  refine g_icmp_ge (pc1 := 52) (tgt := 102) d_Tokens_init_49 (by decide) rfl (fun h => absurd h (by decide)) (fun _ => ?_)
  refine g_strchr (pc1 := 58) (v := 121) rfl d_Tokens_init_52 d_Tokens_init_54 d_Tokens_init_55 rfl 2 rfl (by decide) (by decide) (by decide +kernel) (Nat.le_of_ble_eq_true rfl) ⟨Nat.le_of_ble_eq_true rfl, Nat.le_of_ble_eq_true rfl⟩ ?_
  refine g_istore_n (pc1 := 59) (lv' := [(0, .ref 4), (1, .int 16), (2, .int 84), (3, .int 121)]) d_Tokens_init_58 rfl rfl (by decide) [1, 2, 3, 0] rfl ?_
  refine g_iload_n (pc1 := 60) d_Tokens_init_59 rfl 3 rfl ?_
  refine g_bipush (pc1 := 62) (v := 32) d_Tokens_init_60 rfl (by decide) ?_
  refine g_icmp_ne (pc1 := 65) (tgt := 71) d_Tokens_init_62 (by decide) rfl (fun _ => ?_) (fun h => absurd h (by decide))
  refine g_iload_n (pc1 := 72) d_Tokens_init_71 rfl 1 rfl ?_
  refine g_aload_n (pc1 := 73) d_Tokens_init_72 rfl 0 rfl ?_
  refine g_getr (pc1 := 76) d_Tokens_init_73 rfl ⟨_, fo_Tokens_9⟩ sh_4 (by decide) q5474 ?_
  refine g_alen (pc1 := 77) (v := 21) d_Tokens_init_76 rfl sh_5 (by decide) (by decide) (by decide) (by decide) ?_
  refine g_icmp_ge (pc1 := 80) (tgt := 96) d_Tokens_init_77 (by decide) rfl (fun h => absurd h (by decide)) (fun _ => ?_)
  refine g_aload_n (pc1 := 81) d_Tokens_init_80 rfl 0 rfl ?_
  refine g_getr (pc1 := 84) d_Tokens_init_81 rfl ⟨_, fo_Tokens_9⟩ sh_4 (by decide) q5474 ?_
  refine g_iload_n (pc1 := 85) d_Tokens_init_84 rfl 1 rfl ?_
  refine g_aload_n (pc1 := 86) d_Tokens_init_85 rfl 0 rfl ?_
  refine g_getr (pc1 := 89) d_Tokens_init_86 rfl ⟨_, fo_Tokens_9⟩ sh_4 (by decide) q5474 ?_
  refine g_iload_n (pc1 := 90) d_Tokens_init_89 rfl 1 rfl ?_
  refine g_lald (pc1 := 91) d_Tokens_init_90 rfl sh_5 (by decide) (vin_lit (x := 16) (by decide)) ?_
  refine Wp.vall (y := 129) (by rw [show (16 : Int32).toNatClampNeg = 16 from by decide]; exact q5679) ?_
  refine g_iload_n (pc1 := 92) d_Tokens_init_91 rfl 3 rfl ?_
  refine g_callS (pc1 := 95) (E' := (0, 0, 9)) (As := [.long 129, .int 121]) (rest := [.int 16, .ref 5]) d_Tokens_init_92 rfl mo_Tokens_37 ms_Tokens_withLetter (by decide) rfl rfl (Nat.le_of_ble_eq_true rfl) ⟨Nat.le_of_ble_eq_true rfl, Nat.le_of_ble_eq_true rfl⟩ rfl ?_
  refine t0_withLetter ?_
  dsimp only [psh]
  refine Wp.vall (y := 4153) (by decide +kernel) ?_
  refine g_last (pc1 := 96) d_Tokens_init_95 rfl sh_5 (by decide) (vin_lit (x := 16) (by decide)) ?_
  rw [show ((16 : Int32).toNatClampNeg) = 16 from by decide]
  refine Wp.topL (fun L5680 eL5680 => ?_)
  have Z5681 : ∀ j : Nat, 16 < j → L5680 5 j = 0 := fun j hj => (rdL_ne eL5680 (fun q => by omega)).trans (Z5678 j (by omega))
  have q5682 : L5680 5 16 = 4153 := rdL_eq eL5680
  refine g_iinc (pc1 := 99) (v := 85) (lv' := [(0, .ref 4), (1, .int 16), (2, .int 85), (3, .int 121)]) d_Tokens_init_96 rfl 2 rfl (by decide) (by decide) [1, 2, 0, 3] rfl ?_
  refine g_goto (tgt := 43) d_Tokens_init_99 (by decide) ?_
  refine g_iload_n (pc1 := 44) d_Tokens_init_43 rfl 2 rfl ?_
  refine g_strlen (pc1 := 49) rfl d_Tokens_init_44 d_Tokens_init_46 rfl (Nat.le_of_ble_eq_true rfl) ⟨Nat.le_of_ble_eq_true rfl, Nat.le_of_ble_eq_true rfl⟩ ?_
  refine g_icmp_ge (pc1 := 52) (tgt := 102) d_Tokens_init_49 (by decide) rfl (fun h => absurd h (by decide)) (fun _ => ?_)
  refine g_strchr (pc1 := 58) (v := 32) rfl d_Tokens_init_52 d_Tokens_init_54 d_Tokens_init_55 rfl 2 rfl (by decide) (by decide) (by decide +kernel) (Nat.le_of_ble_eq_true rfl) ⟨Nat.le_of_ble_eq_true rfl, Nat.le_of_ble_eq_true rfl⟩ ?_
  refine g_istore_n (pc1 := 59) (lv' := [(0, .ref 4), (1, .int 16), (2, .int 85), (3, .int 32)]) d_Tokens_init_58 rfl rfl (by decide) [1, 2, 3, 0] rfl ?_
  refine g_iload_n (pc1 := 60) d_Tokens_init_59 rfl 3 rfl ?_
  refine g_bipush (pc1 := 62) (v := 32) d_Tokens_init_60 rfl (by decide) ?_
  refine g_icmp_ne (pc1 := 65) (tgt := 71) d_Tokens_init_62 (by decide) rfl (fun h => absurd h (by decide)) (fun _ => ?_)
  refine g_iinc (pc1 := 68) (v := 17) (lv' := [(0, .ref 4), (1, .int 17), (2, .int 85), (3, .int 32)]) d_Tokens_init_65 rfl 1 rfl (by decide) (by decide) [1, 0, 2, 3] rfl ?_
  refine g_goto (tgt := 96) d_Tokens_init_68 (by decide) ?_
  refine g_iinc (pc1 := 99) (v := 86) (lv' := [(0, .ref 4), (1, .int 17), (2, .int 86), (3, .int 32)]) d_Tokens_init_96 rfl 2 rfl (by decide) (by decide) [1, 2, 0, 3] rfl ?_
  refine g_goto (tgt := 43) d_Tokens_init_99 (by decide) ?_
  refine g_iload_n (pc1 := 44) d_Tokens_init_43 rfl 2 rfl ?_
  refine g_strlen (pc1 := 49) rfl d_Tokens_init_44 d_Tokens_init_46 rfl (Nat.le_of_ble_eq_true rfl) ⟨Nat.le_of_ble_eq_true rfl, Nat.le_of_ble_eq_true rfl⟩ ?_
  refine g_icmp_ge (pc1 := 52) (tgt := 102) d_Tokens_init_49 (by decide) rfl (fun h => absurd h (by decide)) (fun _ => ?_)
  refine g_strchr (pc1 := 58) (v := 112) rfl d_Tokens_init_52 d_Tokens_init_54 d_Tokens_init_55 rfl 2 rfl (by decide) (by decide) (by decide +kernel) (Nat.le_of_ble_eq_true rfl) ⟨Nat.le_of_ble_eq_true rfl, Nat.le_of_ble_eq_true rfl⟩ ?_
  refine g_istore_n (pc1 := 59) (lv' := [(0, .ref 4), (1, .int 17), (2, .int 86), (3, .int 112)]) d_Tokens_init_58 rfl rfl (by decide) [1, 2, 3, 0] rfl ?_
  refine g_iload_n (pc1 := 60) d_Tokens_init_59 rfl 3 rfl ?_
  refine g_bipush (pc1 := 62) (v := 32) d_Tokens_init_60 rfl (by decide) ?_
  refine g_icmp_ne (pc1 := 65) (tgt := 71) d_Tokens_init_62 (by decide) rfl (fun _ => ?_) (fun h => absurd h (by decide))
  refine g_iload_n (pc1 := 72) d_Tokens_init_71 rfl 1 rfl ?_
  refine g_aload_n (pc1 := 73) d_Tokens_init_72 rfl 0 rfl ?_
  refine g_getr (pc1 := 76) d_Tokens_init_73 rfl ⟨_, fo_Tokens_9⟩ sh_4 (by decide) q5474 ?_
  refine g_alen (pc1 := 77) (v := 21) d_Tokens_init_76 rfl sh_5 (by decide) (by decide) (by decide) (by decide) ?_
  refine g_icmp_ge (pc1 := 80) (tgt := 96) d_Tokens_init_77 (by decide) rfl (fun h => absurd h (by decide)) (fun _ => ?_)
  refine g_aload_n (pc1 := 81) d_Tokens_init_80 rfl 0 rfl ?_
  refine g_getr (pc1 := 84) d_Tokens_init_81 rfl ⟨_, fo_Tokens_9⟩ sh_4 (by decide) q5474 ?_
  refine g_iload_n (pc1 := 85) d_Tokens_init_84 rfl 1 rfl ?_
  refine g_aload_n (pc1 := 86) d_Tokens_init_85 rfl 0 rfl ?_
  refine g_getr (pc1 := 89) d_Tokens_init_86 rfl ⟨_, fo_Tokens_9⟩ sh_4 (by decide) q5474 ?_
  refine g_iload_n (pc1 := 90) d_Tokens_init_89 rfl 1 rfl ?_
  refine g_lald (pc1 := 91) d_Tokens_init_90 rfl sh_5 (by decide) (vin_lit (x := 17) (by decide)) ?_
  refine Wp.vall (y := 0) (by rw [show (17 : Int32).toNatClampNeg = 17 from by decide]; exact (Z5681 17 (by decide))) ?_
  refine g_iload_n (pc1 := 92) d_Tokens_init_91 rfl 3 rfl ?_
  refine g_callS (pc1 := 95) (E' := (0, 0, 9)) (As := [.long 0, .int 112]) (rest := [.int 17, .ref 5]) d_Tokens_init_92 rfl mo_Tokens_37 ms_Tokens_withLetter (by decide) rfl rfl (Nat.le_of_ble_eq_true rfl) ⟨Nat.le_of_ble_eq_true rfl, Nat.le_of_ble_eq_true rfl⟩ rfl ?_
  refine t0_withLetter ?_
  dsimp only [psh]
  refine Wp.vall (y := 16) (by decide +kernel) ?_
  refine g_last (pc1 := 96) d_Tokens_init_95 rfl sh_5 (by decide) (vin_lit (x := 17) (by decide)) ?_
  rw [show ((17 : Int32).toNatClampNeg) = 17 from by decide]
  refine Wp.topL (fun L5683 eL5683 => ?_)
  have Z5684 : ∀ j : Nat, 17 < j → L5683 5 j = 0 := fun j hj => (rdL_ne eL5683 (fun q => by omega)).trans (Z5681 j (by omega))
  have q5685 : L5683 5 17 = 16 := rdL_eq eL5683
  refine g_iinc (pc1 := 99) (v := 87) (lv' := [(0, .ref 4), (1, .int 17), (2, .int 87), (3, .int 112)]) d_Tokens_init_96 rfl 2 rfl (by decide) (by decide) [1, 2, 0, 3] rfl ?_
  refine g_goto (tgt := 43) d_Tokens_init_99 (by decide) ?_
  refine g_iload_n (pc1 := 44) d_Tokens_init_43 rfl 2 rfl ?_
  refine g_strlen (pc1 := 49) rfl d_Tokens_init_44 d_Tokens_init_46 rfl (Nat.le_of_ble_eq_true rfl) ⟨Nat.le_of_ble_eq_true rfl, Nat.le_of_ble_eq_true rfl⟩ ?_
  refine g_icmp_ge (pc1 := 52) (tgt := 102) d_Tokens_init_49 (by decide) rfl (fun h => absurd h (by decide)) (fun _ => ?_)
  refine g_strchr (pc1 := 58) (v := 97) rfl d_Tokens_init_52 d_Tokens_init_54 d_Tokens_init_55 rfl 2 rfl (by decide) (by decide) (by decide +kernel) (Nat.le_of_ble_eq_true rfl) ⟨Nat.le_of_ble_eq_true rfl, Nat.le_of_ble_eq_true rfl⟩ ?_
  refine g_istore_n (pc1 := 59) (lv' := [(0, .ref 4), (1, .int 17), (2, .int 87), (3, .int 97)]) d_Tokens_init_58 rfl rfl (by decide) [1, 2, 3, 0] rfl ?_
  refine g_iload_n (pc1 := 60) d_Tokens_init_59 rfl 3 rfl ?_
  refine g_bipush (pc1 := 62) (v := 32) d_Tokens_init_60 rfl (by decide) ?_
  refine g_icmp_ne (pc1 := 65) (tgt := 71) d_Tokens_init_62 (by decide) rfl (fun _ => ?_) (fun h => absurd h (by decide))
  refine g_iload_n (pc1 := 72) d_Tokens_init_71 rfl 1 rfl ?_
  refine g_aload_n (pc1 := 73) d_Tokens_init_72 rfl 0 rfl ?_
  refine g_getr (pc1 := 76) d_Tokens_init_73 rfl ⟨_, fo_Tokens_9⟩ sh_4 (by decide) q5474 ?_
  refine g_alen (pc1 := 77) (v := 21) d_Tokens_init_76 rfl sh_5 (by decide) (by decide) (by decide) (by decide) ?_
  refine g_icmp_ge (pc1 := 80) (tgt := 96) d_Tokens_init_77 (by decide) rfl (fun h => absurd h (by decide)) (fun _ => ?_)
  refine g_aload_n (pc1 := 81) d_Tokens_init_80 rfl 0 rfl ?_
  refine g_getr (pc1 := 84) d_Tokens_init_81 rfl ⟨_, fo_Tokens_9⟩ sh_4 (by decide) q5474 ?_
  refine g_iload_n (pc1 := 85) d_Tokens_init_84 rfl 1 rfl ?_
  refine g_aload_n (pc1 := 86) d_Tokens_init_85 rfl 0 rfl ?_
  refine g_getr (pc1 := 89) d_Tokens_init_86 rfl ⟨_, fo_Tokens_9⟩ sh_4 (by decide) q5474 ?_
  refine g_iload_n (pc1 := 90) d_Tokens_init_89 rfl 1 rfl ?_
  refine g_lald (pc1 := 91) d_Tokens_init_90 rfl sh_5 (by decide) (vin_lit (x := 17) (by decide)) ?_
  refine Wp.vall (y := 16) (by rw [show (17 : Int32).toNatClampNeg = 17 from by decide]; exact q5685) ?_
  refine g_iload_n (pc1 := 92) d_Tokens_init_91 rfl 3 rfl ?_
  refine g_callS (pc1 := 95) (E' := (0, 0, 9)) (As := [.long 16, .int 97]) (rest := [.int 17, .ref 5]) d_Tokens_init_92 rfl mo_Tokens_37 ms_Tokens_withLetter (by decide) rfl rfl (Nat.le_of_ble_eq_true rfl) ⟨Nat.le_of_ble_eq_true rfl, Nat.le_of_ble_eq_true rfl⟩ rfl ?_
  refine t0_withLetter ?_
  dsimp only [psh]
  refine Wp.vall (y := 513) (by decide +kernel) ?_
  refine g_last (pc1 := 96) d_Tokens_init_95 rfl sh_5 (by decide) (vin_lit (x := 17) (by decide)) ?_
  rw [show ((17 : Int32).toNatClampNeg) = 17 from by decide]
  refine Wp.topL (fun L5686 eL5686 => ?_)
  have Z5687 : ∀ j : Nat, 17 < j → L5686 5 j = 0 := fun j hj => (rdL_ne eL5686 (fun q => by omega)).trans (Z5684 j (by omega))
  have q5688 : L5686 5 17 = 513 := rdL_eq eL5686
  refine g_iinc (pc1 := 99) (v := 88) (lv' := [(0, .ref 4), (1, .int 17), (2, .int 88), (3, .int 97)]) d_Tokens_init_96 rfl 2 rfl (by decide) (by decide) [1, 2, 0, 3] rfl ?_
  refine g_goto (tgt := 43) d_Tokens_init_99 (by decide) ?_
  refine g_iload_n (pc1 := 44) d_Tokens_init_43 rfl 2 rfl ?_
  refine g_strlen (pc1 := 49) rfl d_Tokens_init_44 d_Tokens_init_46 rfl (Nat.le_of_ble_eq_true rfl) ⟨Nat.le_of_ble_eq_true rfl, Nat.le_of_ble_eq_true rfl⟩ ?_
  refine g_icmp_ge (pc1 := 52) (tgt := 102) d_Tokens_init_49 (by decide) rfl (fun h => absurd h (by decide)) (fun _ => ?_)
  refine g_strchr (pc1 := 58) (v := 108) rfl d_Tokens_init_52 d_Tokens_init_54 d_Tokens_init_55 rfl 2 rfl (by decide) (by decide) (by decide +kernel) (Nat.le_of_ble_eq_true rfl) ⟨Nat.le_of_ble_eq_true rfl, Nat.le_of_ble_eq_true rfl⟩ ?_
  refine g_istore_n (pc1 := 59) (lv' := [(0, .ref 4), (1, .int 17), (2, .int 88), (3, .int 108)]) d_Tokens_init_58 rfl rfl (by decide) [1, 2, 3, 0] rfl ?_
  refine g_iload_n (pc1 := 60) d_Tokens_init_59 rfl 3 rfl ?_
  refine g_bipush (pc1 := 62) (v := 32) d_Tokens_init_60 rfl (by decide) ?_
  refine g_icmp_ne (pc1 := 65) (tgt := 71) d_Tokens_init_62 (by decide) rfl (fun _ => ?_) (fun h => absurd h (by decide))
  refine g_iload_n (pc1 := 72) d_Tokens_init_71 rfl 1 rfl ?_
  refine g_aload_n (pc1 := 73) d_Tokens_init_72 rfl 0 rfl ?_
  refine g_getr (pc1 := 76) d_Tokens_init_73 rfl ⟨_, fo_Tokens_9⟩ sh_4 (by decide) q5474 ?_
  refine g_alen (pc1 := 77) (v := 21) d_Tokens_init_76 rfl sh_5 (by decide) (by decide) (by decide) (by decide) ?_
  refine g_icmp_ge (pc1 := 80) (tgt := 96) d_Tokens_init_77 (by decide) rfl (fun h => absurd h (by decide)) (fun _ => ?_)
  refine g_aload_n (pc1 := 81) d_Tokens_init_80 rfl 0 rfl ?_
  refine g_getr (pc1 := 84) d_Tokens_init_81 rfl ⟨_, fo_Tokens_9⟩ sh_4 (by decide) q5474 ?_
  refine g_iload_n (pc1 := 85) d_Tokens_init_84 rfl 1 rfl ?_
  refine g_aload_n (pc1 := 86) d_Tokens_init_85 rfl 0 rfl ?_
  refine g_getr (pc1 := 89) d_Tokens_init_86 rfl ⟨_, fo_Tokens_9⟩ sh_4 (by decide) q5474 ?_
  refine g_iload_n (pc1 := 90) d_Tokens_init_89 rfl 1 rfl ?_
  refine g_lald (pc1 := 91) d_Tokens_init_90 rfl sh_5 (by decide) (vin_lit (x := 17) (by decide)) ?_
  refine Wp.vall (y := 513) (by rw [show (17 : Int32).toNatClampNeg = 17 from by decide]; exact q5688) ?_
  refine g_iload_n (pc1 := 92) d_Tokens_init_91 rfl 3 rfl ?_
  refine g_callS (pc1 := 95) (E' := (0, 0, 9)) (As := [.long 513, .int 108]) (rest := [.int 17, .ref 5]) d_Tokens_init_92 rfl mo_Tokens_37 ms_Tokens_withLetter (by decide) rfl rfl (Nat.le_of_ble_eq_true rfl) ⟨Nat.le_of_ble_eq_true rfl, Nat.le_of_ble_eq_true rfl⟩ rfl ?_
  refine t0_withLetter ?_
  dsimp only [psh]
  refine Wp.vall (y := 16428) (by decide +kernel) ?_
  refine g_last (pc1 := 96) d_Tokens_init_95 rfl sh_5 (by decide) (vin_lit (x := 17) (by decide)) ?_
  rw [show ((17 : Int32).toNatClampNeg) = 17 from by decide]
  refine Wp.topL (fun L5689 eL5689 => ?_)
  have Z5690 : ∀ j : Nat, 17 < j → L5689 5 j = 0 := fun j hj => (rdL_ne eL5689 (fun q => by omega)).trans (Z5687 j (by omega))
  have q5691 : L5689 5 17 = 16428 := rdL_eq eL5689
  refine g_iinc (pc1 := 99) (v := 89) (lv' := [(0, .ref 4), (1, .int 17), (2, .int 89), (3, .int 108)]) d_Tokens_init_96 rfl 2 rfl (by decide) (by decide) [1, 2, 0, 3] rfl ?_
  refine g_goto (tgt := 43) d_Tokens_init_99 (by decide) ?_
  refine g_iload_n (pc1 := 44) d_Tokens_init_43 rfl 2 rfl ?_
  refine g_strlen (pc1 := 49) rfl d_Tokens_init_44 d_Tokens_init_46 rfl (Nat.le_of_ble_eq_true rfl) ⟨Nat.le_of_ble_eq_true rfl, Nat.le_of_ble_eq_true rfl⟩ ?_
  refine g_icmp_ge (pc1 := 52) (tgt := 102) d_Tokens_init_49 (by decide) rfl (fun h => absurd h (by decide)) (fun _ => ?_)
  refine g_strchr (pc1 := 58) (v := 97) rfl d_Tokens_init_52 d_Tokens_init_54 d_Tokens_init_55 rfl 2 rfl (by decide) (by decide) (by decide +kernel) (Nat.le_of_ble_eq_true rfl) ⟨Nat.le_of_ble_eq_true rfl, Nat.le_of_ble_eq_true rfl⟩ ?_
  refine g_istore_n (pc1 := 59) (lv' := [(0, .ref 4), (1, .int 17), (2, .int 89), (3, .int 97)]) d_Tokens_init_58 rfl rfl (by decide) [1, 2, 3, 0] rfl ?_
  refine g_iload_n (pc1 := 60) d_Tokens_init_59 rfl 3 rfl ?_
  refine g_bipush (pc1 := 62) (v := 32) d_Tokens_init_60 rfl (by decide) ?_
  refine g_icmp_ne (pc1 := 65) (tgt := 71) d_Tokens_init_62 (by decide) rfl (fun _ => ?_) (fun h => absurd h (by decide))
  refine g_iload_n (pc1 := 72) d_Tokens_init_71 rfl 1 rfl ?_
  refine g_aload_n (pc1 := 73) d_Tokens_init_72 rfl 0 rfl ?_
  refine g_getr (pc1 := 76) d_Tokens_init_73 rfl ⟨_, fo_Tokens_9⟩ sh_4 (by decide) q5474 ?_
  refine g_alen (pc1 := 77) (v := 21) d_Tokens_init_76 rfl sh_5 (by decide) (by decide) (by decide) (by decide) ?_
  refine g_icmp_ge (pc1 := 80) (tgt := 96) d_Tokens_init_77 (by decide) rfl (fun h => absurd h (by decide)) (fun _ => ?_)
  refine g_aload_n (pc1 := 81) d_Tokens_init_80 rfl 0 rfl ?_
  refine g_getr (pc1 := 84) d_Tokens_init_81 rfl ⟨_, fo_Tokens_9⟩ sh_4 (by decide) q5474 ?_
  refine g_iload_n (pc1 := 85) d_Tokens_init_84 rfl 1 rfl ?_
  refine g_aload_n (pc1 := 86) d_Tokens_init_85 rfl 0 rfl ?_
  refine g_getr (pc1 := 89) d_Tokens_init_86 rfl ⟨_, fo_Tokens_9⟩ sh_4 (by decide) q5474 ?_
  refine g_iload_n (pc1 := 90) d_Tokens_init_89 rfl 1 rfl ?_
  refine g_lald (pc1 := 91) d_Tokens_init_90 rfl sh_5 (by decide) (vin_lit (x := 17) (by decide)) ?_
  refine Wp.vall (y := 16428) (by rw [show (17 : Int32).toNatClampNeg = 17 from by decide]; exact q5691) ?_
  refine g_iload_n (pc1 := 92) d_Tokens_init_91 rfl 3 rfl ?_
  refine g_callS (pc1 := 95) (E' := (0, 0, 9)) (As := [.long 16428, .int 97]) (rest := [.int 17, .ref 5]) d_Tokens_init_92 rfl mo_Tokens_37 ms_Tokens_withLetter (by decide) rfl rfl (Nat.le_of_ble_eq_true rfl) ⟨Nat.le_of_ble_eq_true rfl, Nat.le_of_ble_eq_true rfl⟩ rfl ?_
  refine t0_withLetter ?_
  dsimp only [psh]
  refine Wp.vall (y := 525697) (by decide +kernel) ?_
  refine g_last (pc1 := 96) d_Tokens_init_95 rfl sh_5 (by decide) (vin_lit (x := 17) (by decide)) ?_
  rw [show ((17 : Int32).toNatClampNeg) = 17 from by decide]
  refine Wp.topL (fun L5692 eL5692 => ?_)
  have Z5693 : ∀ j : Nat, 17 < j → L5692 5 j = 0 := fun j hj => (rdL_ne eL5692 (fun q => by omega)).trans (Z5690 j (by omega))
  have q5694 : L5692 5 17 = 525697 := rdL_eq eL5692
  refine g_iinc (pc1 := 99) (v := 90) (lv' := [(0, .ref 4), (1, .int 17), (2, .int 90), (3, .int 97)]) d_Tokens_init_96 rfl 2 rfl (by decide) (by decide) [1, 2, 0, 3] rfl ?_
  refine g_goto (tgt := 43) d_Tokens_init_99 (by decide) ?_
  refine g_iload_n (pc1 := 44) d_Tokens_init_43 rfl 2 rfl ?_
  refine g_strlen (pc1 := 49) rfl d_Tokens_init_44 d_Tokens_init_46 rfl (Nat.le_of_ble_eq_true rfl) ⟨Nat.le_of_ble_eq_true rfl, Nat.le_of_ble_eq_true rfl⟩ ?_
  refine g_icmp_ge (pc1 := 52) (tgt := 102) d_Tokens_init_49 (by decide) rfl (fun h => absurd h (by decide)) (fun _ => ?_)
  refine g_strchr (pc1 := 58) (v := 116) rfl d_Tokens_init_52 d_Tokens_init_54 d_Tokens_init_55 rfl 2 rfl (by decide) (by decide) (by decide +kernel) (Nat.le_of_ble_eq_true rfl) ⟨Nat.le_of_ble_eq_true rfl, Nat.le_of_ble_eq_true rfl⟩ ?_
  refine g_istore_n (pc1 := 59) (lv' := [(0, .ref 4), (1, .int 17), (2, .int 90), (3, .int 116)]) d_Tokens_init_58 rfl rfl (by decide) [1, 2, 3, 0] rfl ?_
  refine g_iload_n (pc1 := 60) d_Tokens_init_59 rfl 3 rfl ?_
  refine g_bipush (pc1 := 62) (v := 32) d_Tokens_init_60 rfl (by decide) ?_
  refine g_icmp_ne (pc1 := 65) (tgt := 71) d_Tokens_init_62 (by decide) rfl (fun _ => ?_) (fun h => absurd h (by decide))
  refine g_iload_n (pc1 := 72) d_Tokens_init_71 rfl 1 rfl ?_
  refine g_aload_n (pc1 := 73) d_Tokens_init_72 rfl 0 rfl ?_
  refine g_getr (pc1 := 76) d_Tokens_init_73 rfl ⟨_, fo_Tokens_9⟩ sh_4 (by decide) q5474 ?_
  refine g_alen (pc1 := 77) (v := 21) d_Tokens_init_76 rfl sh_5 (by decide) (by decide) (by decide) (by decide) ?_
  refine g_icmp_ge (pc1 := 80) (tgt := 96) d_Tokens_init_77 (by decide) rfl (fun h => absurd h (by decide)) (fun _ => ?_)
  refine g_aload_n (pc1 := 81) d_Tokens_init_80 rfl 0 rfl ?_
  refine g_getr (pc1 := 84) d_Tokens_init_81 rfl ⟨_, fo_Tokens_9⟩ sh_4 (by decide) q5474 ?_
  refine g_iload_n (pc1 := 85) d_Tokens_init_84 rfl 1 rfl ?_
  refine g_aload_n (pc1 := 86) d_Tokens_init_85 rfl 0 rfl ?_
  refine g_getr (pc1 := 89) d_Tokens_init_86 rfl ⟨_, fo_Tokens_9⟩ sh_4 (by decide) q5474 ?_
  refine g_iload_n (pc1 := 90) d_Tokens_init_89 rfl 1 rfl ?_
  refine g_lald (pc1 := 91) d_Tokens_init_90 rfl sh_5 (by decide) (vin_lit (x := 17) (by decide)) ?_
  refine Wp.vall (y := 525697) (by rw [show (17 : Int32).toNatClampNeg = 17 from by decide]; exact q5694) ?_
  refine g_iload_n (pc1 := 92) d_Tokens_init_91 rfl 3 rfl ?_
  refine g_callS (pc1 := 95) (E' := (0, 0, 9)) (As := [.long 525697, .int 116]) (rest := [.int 17, .ref 5]) d_Tokens_init_92 rfl mo_Tokens_37 ms_Tokens_withLetter (by decide) rfl rfl (Nat.le_of_ble_eq_true rfl) ⟨Nat.le_of_ble_eq_true rfl, Nat.le_of_ble_eq_true rfl⟩ rfl ?_
  refine t0_withLetter ?_
  dsimp only [psh]
  refine Wp.vall (y := 16822324) (by decide +kernel) ?_
  refine g_last (pc1 := 96) d_Tokens_init_95 rfl sh_5 (by decide) (vin_lit (x := 17) (by decide)) ?_
  rw [show ((17 : Int32).toNatClampNeg) = 17 from by decide]
  refine Wp.topL (fun L5695 eL5695 => ?_)
  have Z5696 : ∀ j : Nat, 17 < j → L5695 5 j = 0 := fun j hj => (rdL_ne eL5695 (fun q => by omega)).trans (Z5693 j (by omega))
  have q5697 : L5695 5 17 = 16822324 := rdL_eq eL5695
  refine g_iinc (pc1 := 99) (v := 91) (lv' := [(0, .ref 4), (1, .int 17), (2, .int 91), (3, .int 116)]) d_Tokens_init_96 rfl 2 rfl (by decide) (by decide) [1, 2, 0, 3] rfl ?_
  refine g_goto (tgt := 43) d_Tokens_init_99 (by decide) ?_
  refine g_iload_n (pc1 := 44) d_Tokens_init_43 rfl 2 rfl ?_
  refine g_strlen (pc1 := 49) rfl d_Tokens_init_44 d_Tokens_init_46 rfl (Nat.le_of_ble_eq_true rfl) ⟨Nat.le_of_ble_eq_true rfl, Nat.le_of_ble_eq_true rfl⟩ ?_
  refine g_icmp_ge (pc1 := 52) (tgt := 102) d_Tokens_init_49 (by decide) rfl (fun h => absurd h (by decide)) (fun _ => ?_)
  refine g_strchr (pc1 := 58) (v := 101) rfl d_Tokens_init_52 d_Tokens_init_54 d_Tokens_init_55 rfl 2 rfl (by decide) (by decide) (by decide +kernel) (Nat.le_of_ble_eq_true rfl) ⟨Nat.le_of_ble_eq_true rfl, Nat.le_of_ble_eq_true rfl⟩ ?_
  refine g_istore_n (pc1 := 59) (lv' := [(0, .ref 4), (1, .int 17), (2, .int 91), (3, .int 101)]) d_Tokens_init_58 rfl rfl (by decide) [1, 2, 3, 0] rfl ?_
  refine g_iload_n (pc1 := 60) d_Tokens_init_59 rfl 3 rfl ?_
  refine g_bipush (pc1 := 62) (v := 32) d_Tokens_init_60 rfl (by decide) ?_
  refine g_icmp_ne (pc1 := 65) (tgt := 71) d_Tokens_init_62 (by decide) rfl (fun _ => ?_) (fun h => absurd h (by decide))
  refine g_iload_n (pc1 := 72) d_Tokens_init_71 rfl 1 rfl ?_
  refine g_aload_n (pc1 := 73) d_Tokens_init_72 rfl 0 rfl ?_
  refine g_getr (pc1 := 76) d_Tokens_init_73 rfl ⟨_, fo_Tokens_9⟩ sh_4 (by decide) q5474 ?_
  refine g_alen (pc1 := 77) (v := 21) d_Tokens_init_76 rfl sh_5 (by decide) (by decide) (by decide) (by decide) ?_
  refine g_icmp_ge (pc1 := 80) (tgt := 96) d_Tokens_init_77 (by decide) rfl (fun h => absurd h (by decide)) (fun _ => ?_)
  refine g_aload_n (pc1 := 81) d_Tokens_init_80 rfl 0 rfl ?_
  refine g_getr (pc1 := 84) d_Tokens_init_81 rfl ⟨_, fo_Tokens_9⟩ sh_4 (by decide) q5474 ?_
  refine g_iload_n (pc1 := 85) d_Tokens_init_84 rfl 1 rfl ?_
  refine g_aload_n (pc1 := 86) d_Tokens_init_85 rfl 0 rfl ?_
  refine g_getr (pc1 := 89) d_Tokens_init_86 rfl ⟨_, fo_Tokens_9⟩ sh_4 (by decide) q5474 ?_
  refine g_iload_n (pc1 := 90) d_Tokens_init_89 rfl 1 rfl ?_
  refine g_lald (pc1 := 91) d_Tokens_init_90 rfl sh_5 (by decide) (vin_lit (x := 17) (by decide)) ?_
  refine Wp.vall (y := 16822324) (by rw [show (17 : Int32).toNatClampNeg = 17 from by decide]; exact q5697) ?_
  refine g_iload_n (pc1 := 92) d_Tokens_init_91 rfl 3 rfl ?_
  refine g_callS (pc1 := 95) (E' := (0, 0, 9)) (As := [.long 16822324, .int 101]) (rest := [.int 17, .ref 5]) d_Tokens_init_92 rfl mo_Tokens_37 ms_Tokens_withLetter (by decide) rfl rfl (Nat.le_of_ble_eq_true rfl) ⟨Nat.le_of_ble_eq_true rfl, Nat.le_of_ble_eq_true rfl⟩ rfl ?_
  refine t0_withLetter ?_
  dsimp only [psh]
  refine Wp.vall (y := 538314373) (by decide +kernel) ?_
  refine g_last (pc1 := 96) d_Tokens_init_95 rfl sh_5 (by decide) (vin_lit (x := 17) (by decide)) ?_
  rw [show ((17 : Int32).toNatClampNeg) = 17 from by decide]
  refine Wp.topL (fun L5698 eL5698 => ?_)
  have Z5699 : ∀ j : Nat, 17 < j → L5698 5 j = 0 := fun j hj => (rdL_ne eL5698 (fun q => by omega)).trans (Z5696 j (by omega))
  have q5700 : L5698 5 17 = 538314373 := rdL_eq eL5698
  refine g_iinc (pc1 := 99) (v := 92) (lv' := [(0, .ref 4), (1, .int 17), (2, .int 92), (3, .int 101)]) d_Tokens_init_96 rfl 2 rfl (by decide) (by decide) [1, 2, 0, 3] rfl ?_
  refine g_goto (tgt := 43) d_Tokens_init_99 (by decide) ?_
  refine g_iload_n (pc1 := 44) d_Tokens_init_43 rfl 2 rfl ?_
  refine g_strlen (pc1 := 49) rfl d_Tokens_init_44 d_Tokens_init_46 rfl (Nat.le_of_ble_eq_true rfl) ⟨Nat.le_of_ble_eq_true rfl, Nat.le_of_ble_eq_true rfl⟩ ?_
  refine g_icmp_ge (pc1 := 52) (tgt := 102) d_Tokens_init_49 (by decide) rfl (fun h => absurd h (by decide)) (fun _ => ?_)
  refine g_strchr (pc1 := 58) (v := 32) rfl d_Tokens_init_52 d_Tokens_init_54 d_Tokens_init_55 rfl 2 rfl (by decide) (by decide) (by decide +kernel) (Nat.le_of_ble_eq_true rfl) ⟨Nat.le_of_ble_eq_true rfl, Nat.le_of_ble_eq_true rfl⟩ ?_
  refine g_istore_n (pc1 := 59) (lv' := [(0, .ref 4), (1, .int 17), (2, .int 92), (3, .int 32)]) d_Tokens_init_58 rfl rfl (by decide) [1, 2, 3, 0] rfl ?_
  refine g_iload_n (pc1 := 60) d_Tokens_init_59 rfl 3 rfl ?_
  refine g_bipush (pc1 := 62) (v := 32) d_Tokens_init_60 rfl (by decide) ?_
  refine g_icmp_ne (pc1 := 65) (tgt := 71) d_Tokens_init_62 (by decide) rfl (fun h => absurd h (by decide)) (fun _ => ?_)
  refine g_iinc (pc1 := 68) (v := 18) (lv' := [(0, .ref 4), (1, .int 18), (2, .int 92), (3, .int 32)]) d_Tokens_init_65 rfl 1 rfl (by decide) (by decide) [1, 0, 2, 3] rfl ?_
  refine g_goto (tgt := 96) d_Tokens_init_68 (by decide) ?_
  refine g_iinc (pc1 := 99) (v := 93) (lv' := [(0, .ref 4), (1, .int 18), (2, .int 93), (3, .int 32)]) d_Tokens_init_96 rfl 2 rfl (by decide) (by decide) [1, 2, 0, 3] rfl ?_
  refine g_goto (tgt := 43) d_Tokens_init_99 (by decide) ?_
  refine g_iload_n (pc1 := 44) d_Tokens_init_43 rfl 2 rfl ?_
  refine g_strlen (pc1 := 49) rfl d_Tokens_init_44 d_Tokens_init_46 rfl (Nat.le_of_ble_eq_true rfl) ⟨Nat.le_of_ble_eq_true rfl, Nat.le_of_ble_eq_true rfl⟩ ?_
  refine g_icmp_ge (pc1 := 52) (tgt := 102) d_Tokens_init_49 (by decide) rfl (fun h => absurd h (by decide)) (fun _ => ?_)
  refine g_strchr (pc1 := 58) (v := 97) rfl d_Tokens_init_52 d_Tokens_init_54 d_Tokens_init_55 rfl 2 rfl (by decide) (by decide) (by decide +kernel) (Nat.le_of_ble_eq_true rfl) ⟨Nat.le_of_ble_eq_true rfl, Nat.le_of_ble_eq_true rfl⟩ ?_
  refine g_istore_n (pc1 := 59) (lv' := [(0, .ref 4), (1, .int 18), (2, .int 93), (3, .int 97)]) d_Tokens_init_58 rfl rfl (by decide) [1, 2, 3, 0] rfl ?_
  refine g_iload_n (pc1 := 60) d_Tokens_init_59 rfl 3 rfl ?_
  refine g_bipush (pc1 := 62) (v := 32) d_Tokens_init_60 rfl (by decide) ?_
  refine g_icmp_ne (pc1 := 65) (tgt := 71) d_Tokens_init_62 (by decide) rfl (fun _ => ?_) (fun h => absurd h (by decide))
  refine g_iload_n (pc1 := 72) d_Tokens_init_71 rfl 1 rfl ?_
  refine g_aload_n (pc1 := 73) d_Tokens_init_72 rfl 0 rfl ?_
  refine g_getr (pc1 := 76) d_Tokens_init_73 rfl ⟨_, fo_Tokens_9⟩ sh_4 (by decide) q5474 ?_
  refine g_alen (pc1 := 77) (v := 21) d_Tokens_init_76 rfl sh_5 (by decide) (by decide) (by decide) (by decide) ?_
  refine g_icmp_ge (pc1 := 80) (tgt := 96) d_Tokens_init_77 (by decide) rfl (fun h => absurd h (by decide)) (fun _ => ?_)
  refine g_aload_n (pc1 := 81) d_Tokens_init_80 rfl 0 rfl ?_
  refine g_getr (pc1 := 84) d_Tokens_init_81 rfl ⟨_, fo_Tokens_9⟩ sh_4 (by decide) q5474 ?_
  refine g_iload_n (pc1 := 85) d_Tokens_init_84 rfl 1 rfl ?_
  refine g_aload_n (pc1 := 86) d_Tokens_init_85 rfl 0 rfl ?_
  refine g_getr (pc1 := 89) d_Tokens_init_86 rfl ⟨_, fo_Tokens_9⟩ sh_4 (by decide) q5474 ?_
  refine g_iload_n (pc1 := 90) d_Tokens_init_89 rfl 1 rfl ?_
  refine g_lald (pc1 := 91) d_Tokens_init_90 rfl sh_5 (by decide) (vin_lit (x := 18) (by decide)) ?_
  refine Wp.vall (y := 0) (by rw [show (18 : Int32).toNatClampNeg = 18 from by decide]; exact (Z5699 18 (by decide))) ?_
  refine g_iload_n (pc1 := 92) d_Tokens_init_91 rfl 3 rfl ?_
  refine g_callS (pc1 := 95) (E' := (0, 0, 9)) (As := [.long 0, .int 97]) (rest := [.int 18, .ref 5]) d_Tokens_init_92 rfl mo_Tokens_37 ms_Tokens_withLetter (by decide) rfl rfl (Nat.le_of_ble_eq_true rfl) ⟨Nat.le_of_ble_eq_true rfl, Nat.le_of_ble_eq_true rfl⟩ rfl ?_
  refine t0_withLetter ?_
  dsimp only [psh]
  refine Wp.vall (y := 1) (by decide +kernel) ?_
  refine g_last (pc1 := 96) d_Tokens_init_95 rfl sh_5 (by decide) (vin_lit (x := 18) (by decide)) ?_
  rw [show ((18 : Int32).toNatClampNeg) = 18 from by decide]
  refine Wp.topL (fun L5701 eL5701 => ?_)
  have Z5702 : ∀ j : Nat, 18 < j → L5701 5 j = 0 := fun j hj => (rdL_ne eL5701 (fun q => by omega)).trans (Z5699 j (by omega))
  have q5703 : L5701 5 18 = 1 := rdL_eq eL5701
  refine g_iinc (pc1 := 99) (v := 94) (lv' := [(0, .ref 4), (1, .int 18), (2, .int 94), (3, .int 97)]) d_Tokens_init_96 rfl 2 rfl (by decide) (by decide) [1, 2, 0, 3] rfl ?_
  refine g_goto (tgt := 43) d_Tokens_init_99 (by decide) ?_
  refine g_iload_n (pc1 := 44) d_Tokens_init_43 rfl 2 rfl ?_
  refine g_strlen (pc1 := 49) rfl d_Tokens_init_44 d_Tokens_init_46 rfl (Nat.le_of_ble_eq_true rfl) ⟨Nat.le_of_ble_eq_true rfl, Nat.le_of_ble_eq_true rfl⟩ ?_
  refine g_icmp_ge (pc1 := 52) (tgt := 102) d_Tokens_init_49 (by decide) rfl (fun h => absurd h (by decide)) (fun _ => ?_)
  refine g_strchr (pc1 := 58) (v := 103) rfl d_Tokens_init_52 d_Tokens_init_54 d_Tokens_init_55 rfl 2 rfl (by decide) (by decide) (by decide +kernel) (Nat.le_of_ble_eq_true rfl) ⟨Nat.le_of_ble_eq_true rfl, Nat.le_of_ble_eq_true rfl⟩ ?_
  refine g_istore_n (pc1 := 59) (lv' := [(0, .ref 4), (1, .int 18), (2, .int 94), (3, .int 103)]) d_Tokens_init_58 rfl rfl (by decide) [1, 2, 3, 0] rfl ?_
  refine g_iload_n (pc1 := 60) d_Tokens_init_59 rfl 3 rfl ?_
  refine g_bipush (pc1 := 62) (v := 32) d_Tokens_init_60 rfl (by decide) ?_
  refine g_icmp_ne (pc1 := 65) (tgt := 71) d_Tokens_init_62 (by decide) rfl (fun _ => ?_) (fun h => absurd h (by decide))
  refine g_iload_n (pc1 := 72) d_Tokens_init_71 rfl 1 rfl ?_
  refine g_aload_n (pc1 := 73) d_Tokens_init_72 rfl 0 rfl ?_
  refine g_getr (pc1 := 76) d_Tokens_init_73 rfl ⟨_, fo_Tokens_9⟩ sh_4 (by decide) q5474 ?_
  refine g_alen (pc1 := 77) (v := 21) d_Tokens_init_76 rfl sh_5 (by decide) (by decide) (by decide) (by decide) ?_
  refine g_icmp_ge (pc1 := 80) (tgt := 96) d_Tokens_init_77 (by decide) rfl (fun h => absurd h (by decide)) (fun _ => ?_)
  refine g_aload_n (pc1 := 81) d_Tokens_init_80 rfl 0 rfl ?_
  refine g_getr (pc1 := 84) d_Tokens_init_81 rfl ⟨_, fo_Tokens_9⟩ sh_4 (by decide) q5474 ?_
  refine g_iload_n (pc1 := 85) d_Tokens_init_84 rfl 1 rfl ?_
  refine g_aload_n (pc1 := 86) d_Tokens_init_85 rfl 0 rfl ?_
  refine g_getr (pc1 := 89) d_Tokens_init_86 rfl ⟨_, fo_Tokens_9⟩ sh_4 (by decide) q5474 ?_
  refine g_iload_n (pc1 := 90) d_Tokens_init_89 rfl 1 rfl ?_
  refine g_lald (pc1 := 91) d_Tokens_init_90 rfl sh_5 (by decide) (vin_lit (x := 18) (by decide)) ?_
  refine Wp.vall (y := 1) (by rw [show (18 : Int32).toNatClampNeg = 18 from by decide]; exact q5703) ?_
  refine g_iload_n (pc1 := 92) d_Tokens_init_91 rfl 3 rfl ?_
  refine g_callS (pc1 := 95) (E' := (0, 0, 9)) (As := [.long 1, .int 103]) (rest := [.int 18, .ref 5]) d_Tokens_init_92 rfl mo_Tokens_37 ms_Tokens_withLetter (by decide) rfl rfl (Nat.le_of_ble_eq_true rfl) ⟨Nat.le_of_ble_eq_true rfl, Nat.le_of_ble_eq_true rfl⟩ rfl ?_
  refine t0_withLetter ?_
  dsimp only [psh]
  refine Wp.vall (y := 39) (by decide +kernel) ?_
  refine g_last (pc1 := 96) d_Tokens_init_95 rfl sh_5 (by decide) (vin_lit (x := 18) (by decide)) ?_
  rw [show ((18 : Int32).toNatClampNeg) = 18 from by decide]
  refine Wp.topL (fun L5704 eL5704 => ?_)
  have Z5705 : ∀ j : Nat, 18 < j → L5704 5 j = 0 := fun j hj => (rdL_ne eL5704 (fun q => by omega)).trans (Z5702 j (by omega))
  have q5706 : L5704 5 18 = 39 := rdL_eq eL5704
  refine g_iinc (pc1 := 99) (v := 95) (lv' := [(0, .ref 4), (1, .int 18), (2, .int 95), (3, .int 103)]) d_Tokens_init_96 rfl 2 rfl (by decide) (by decide) [1, 2, 0, 3] rfl ?_
  refine g_goto (tgt := 43) d_Tokens_init_99 (by decide) ?_
  refine g_iload_n (pc1 := 44) d_Tokens_init_43 rfl 2 rfl ?_
  refine g_strlen (pc1 := 49) rfl d_Tokens_init_44 d_Tokens_init_46 rfl (Nat.le_of_ble_eq_true rfl) ⟨Nat.le_of_ble_eq_true rfl, Nat.le_of_ble_eq_true rfl⟩ ?_
  refine g_icmp_ge (pc1 := 52) (tgt := 102) d_Tokens_init_49 (by decide) rfl (fun h => absurd h (by decide)) (fun _ => ?_)
  refine g_strchr (pc1 := 58) (v := 111) rfl d_Tokens_init_52 d_Tokens_init_54 d_Tokens_init_55 rfl 2 rfl (by decide) (by decide) (by decide +kernel) (Nat.le_of_ble_eq_true rfl) ⟨Nat.le_of_ble_eq_true rfl, Nat.le_of_ble_eq_true rfl⟩ ?_
  refine g_istore_n (pc1 := 59) (lv' := [(0, .ref 4), (1, .int 18), (2, .int 95), (3, .int 111)]) d_Tokens_init_58 rfl rfl (by decide) [1, 2, 3, 0] rfl ?_
  refine g_iload_n (pc1 := 60) d_Tokens_init_59 rfl 3 rfl ?_
  refine g_bipush (pc1 := 62) (v := 32) d_Tokens_init_60 rfl (by decide) ?_
  refine g_icmp_ne (pc1 := 65) (tgt := 71) d_Tokens_init_62 (by decide) rfl (fun _ => ?_) (fun h => absurd h (by decide))
  refine g_iload_n (pc1 := 72) d_Tokens_init_71 rfl 1 rfl ?_
  refine g_aload_n (pc1 := 73) d_Tokens_init_72 rfl 0 rfl ?_
  refine g_getr (pc1 := 76) d_Tokens_init_73 rfl ⟨_, fo_Tokens_9⟩ sh_4 (by decide) q5474 ?_
  refine g_alen (pc1 := 77) (v := 21) d_Tokens_init_76 rfl sh_5 (by decide) (by decide) (by decide) (by decide) ?_
  refine g_icmp_ge (pc1 := 80) (tgt := 96) d_Tokens_init_77 (by decide) rfl (fun h => absurd h (by decide)) (fun _ => ?_)
  refine g_aload_n (pc1 := 81) d_Tokens_init_80 rfl 0 rfl ?_
  refine g_getr (pc1 := 84) d_Tokens_init_81 rfl ⟨_, fo_Tokens_9⟩ sh_4 (by decide) q5474 ?_
  refine g_iload_n (pc1 := 85) d_Tokens_init_84 rfl 1 rfl ?_
  refine g_aload_n (pc1 := 86) d_Tokens_init_85 rfl 0 rfl ?_
  refine g_getr (pc1 := 89) d_Tokens_init_86 rfl ⟨_, fo_Tokens_9⟩ sh_4 (by decide) q5474 ?_
  refine g_iload_n (pc1 := 90) d_Tokens_init_89 rfl 1 rfl ?_
  refine g_lald (pc1 := 91) d_Tokens_init_90 rfl sh_5 (by decide) (vin_lit (x := 18) (by decide)) ?_
  refine Wp.vall (y := 39) (by rw [show (18 : Int32).toNatClampNeg = 18 from by decide]; exact q5706) ?_
  refine g_iload_n (pc1 := 92) d_Tokens_init_91 rfl 3 rfl ?_
  refine g_callS (pc1 := 95) (E' := (0, 0, 9)) (As := [.long 39, .int 111]) (rest := [.int 18, .ref 5]) d_Tokens_init_92 rfl mo_Tokens_37 ms_Tokens_withLetter (by decide) rfl rfl (Nat.le_of_ble_eq_true rfl) ⟨Nat.le_of_ble_eq_true rfl, Nat.le_of_ble_eq_true rfl⟩ rfl ?_
  refine t0_withLetter ?_
  dsimp only [psh]
  refine Wp.vall (y := 1263) (by decide +kernel) ?_
  refine g_last (pc1 := 96) d_Tokens_init_95 rfl sh_5 (by decide) (vin_lit (x := 18) (by decide)) ?_
  rw [show ((18 : Int32).toNatClampNeg) = 18 from by decide]
  refine Wp.topL (fun L5707 eL5707 => ?_)
  have Z5708 : ∀ j : Nat, 18 < j → L5707 5 j = 0 := fun j hj => (rdL_ne eL5707 (fun q => by omega)).trans (Z5705 j (by omega))
  have q5709 : L5707 5 18 = 1263 := rdL_eq eL5707
  refine g_iinc (pc1 := 99) (v := 96) (lv' := [(0, .ref 4), (1, .int 18), (2, .int 96), (3, .int 111)]) d_Tokens_init_96 rfl 2 rfl (by decide) (by decide) [1, 2, 0, 3] rfl ?_
  refine g_goto (tgt := 43) d_Tokens_init_99 (by decide) ?_
  refine g_iload_n (pc1 := 44) d_Tokens_init_43 rfl 2 rfl ?_
  refine g_strlen (pc1 := 49) rfl d_Tokens_init_44 d_Tokens_init_46 rfl (Nat.le_of_ble_eq_true rfl) ⟨Nat.le_of_ble_eq_true rfl, Nat.le_of_ble_eq_true rfl⟩ ?_
  refine g_icmp_ge (pc1 := 52) (tgt := 102) d_Tokens_init_49 (by decide) rfl (fun h => absurd h (by decide)) (fun _ => ?_)
  refine g_strchr (pc1 := 58) (v := 32) rfl d_Tokens_init_52 d_Tokens_init_54 d_Tokens_init_55 rfl 2 rfl (by decide) (by decide) (by decide +kernel) (Nat.le_of_ble_eq_true rfl) ⟨Nat.le_of_ble_eq_true rfl, Nat.le_of_ble_eq_true rfl⟩ ?_
  refine g_istore_n (pc1 := 59) (lv' := [(0, .ref 4), (1, .int 18), (2, .int 96), (3, .int 32)]) d_Tokens_init_58 rfl rfl (by decide) [1, 2, 3, 0] rfl ?_
  refine g_iload_n (pc1 := 60) d_Tokens_init_59 rfl 3 rfl ?_
  refine g_bipush (pc1 := 62) (v := 32) d_Tokens_init_60 rfl (by decide) ?_
  refine g_icmp_ne (pc1 := 65) (tgt := 71) d_Tokens_init_62 (by decide) rfl (fun h => absurd h (by decide)) (fun _ => ?_)
  refine g_iinc (pc1 := 68) (v := 19) (lv' := [(0, .ref 4), (1, .int 19), (2, .int 96), (3, .int 32)]) d_Tokens_init_65 rfl 1 rfl (by decide) (by decide) [1, 0, 2, 3] rfl ?_
  refine g_goto (tgt := 96) d_Tokens_init_68 (by decide) ?_
  refine g_iinc (pc1 := 99) (v := 97) (lv' := [(0, .ref 4), (1, .int 19), (2, .int 97), (3, .int 32)]) d_Tokens_init_96 rfl 2 rfl (by decide) (by decide) [1, 2, 0, 3] rfl ?_
  refine g_goto (tgt := 43) d_Tokens_init_99 (by decide) ?_
  refine g_iload_n (pc1 := 44) d_Tokens_init_43 rfl 2 rfl ?_
  refine g_strlen (pc1 := 49) rfl d_Tokens_init_44 d_Tokens_init_46 rfl (Nat.le_of_ble_eq_true rfl) ⟨Nat.le_of_ble_eq_true rfl, Nat.le_of_ble_eq_true rfl⟩ ?_
  refine g_icmp_ge (pc1 := 52) (tgt := 102) d_Tokens_init_49 (by decide) rfl (fun h => absurd h (by decide)) (fun _ => ?_)
  refine g_strchr (pc1 := 58) (v := 115) rfl d_Tokens_init_52 d_Tokens_init_54 d_Tokens_init_55 rfl 2 rfl (by decide) (by decide) (by decide +kernel) (Nat.le_of_ble_eq_true rfl) ⟨Nat.le_of_ble_eq_true rfl, Nat.le_of_ble_eq_true rfl⟩ ?_
  refine g_istore_n (pc1 := 59) (lv' := [(0, .ref 4), (1, .int 19), (2, .int 97), (3, .int 115)]) d_Tokens_init_58 rfl rfl (by decide) [1, 2, 3, 0] rfl ?_
  refine g_iload_n (pc1 := 60) d_Tokens_init_59 rfl 3 rfl ?_
  refine g_bipush (pc1 := 62) (v := 32) d_Tokens_init_60 rfl (by decide) ?_
  refine g_icmp_ne (pc1 := 65) (tgt := 71) d_Tokens_init_62 (by decide) rfl (fun _ => ?_) (fun h => absurd h (by decide))
  refine g_iload_n (pc1 := 72) d_Tokens_init_71 rfl 1 rfl ?_
  refine g_aload_n (pc1 := 73) d_Tokens_init_72 rfl 0 rfl ?_
  refine g_getr (pc1 := 76) d_Tokens_init_73 rfl ⟨_, fo_Tokens_9⟩ sh_4 (by decide) q5474 ?_
  refine g_alen (pc1 := 77) (v := 21) d_Tokens_init_76 rfl sh_5 (by decide) (by decide) (by decide) (by decide) ?_
  refine g_icmp_ge (pc1 := 80) (tgt := 96) d_Tokens_init_77 (by decide) rfl (fun h => absurd h (by decide)) (fun _ => ?_)
  refine g_aload_n (pc1 := 81) d_Tokens_init_80 rfl 0 rfl ?_
  refine g_getr (pc1 := 84) d_Tokens_init_81 rfl ⟨_, fo_Tokens_9⟩ sh_4 (by decide) q5474 ?_
  refine g_iload_n (pc1 := 85) d_Tokens_init_84 rfl 1 rfl ?_
  refine g_aload_n (pc1 := 86) d_Tokens_init_85 rfl 0 rfl ?_
  refine g_getr (pc1 := 89) d_Tokens_init_86 rfl ⟨_, fo_Tokens_9⟩ sh_4 (by decide) q5474 ?_
  refine g_iload_n (pc1 := 90) d_Tokens_init_89 rfl 1 rfl ?_
  refine g_lald (pc1 := 91) d_Tokens_init_90 rfl sh_5 (by decide) (vin_lit (x := 19) (by decide)) ?_
  refine Wp.vall (y := 0) (by rw [show (19 : Int32).toNatClampNeg = 19 from by decide]; exact (Z5708 19 (by decide))) ?_
  refine g_iload_n (pc1 := 92) d_Tokens_init_91 rfl 3 rfl ?_
  refine g_callS (pc1 := 95) (E' := (0, 0, 9)) (As := [.long 0, .int 115]) (rest := [.int 19, .ref 5]) d_Tokens_init_92 rfl mo_Tokens_37 ms_Tokens_withLetter (by decide) rfl rfl (Nat.le_of_ble_eq_true rfl) ⟨Nat.le_of_ble_eq_true rfl, Nat.le_of_ble_eq_true rfl⟩ rfl ?_
  refine t0_withLetter ?_
  dsimp only [psh]
  refine Wp.vall (y := 19) (by decide +kernel) ?_
  refine g_last (pc1 := 96) d_Tokens_init_95 rfl sh_5 (by decide) (vin_lit (x := 19) (by decide)) ?_
  rw [show ((19 : Int32).toNatClampNeg) = 19 from by decide]
  refine Wp.topL (fun L5710 eL5710 => ?_)
  have Z5711 : ∀ j : Nat, 19 < j → L5710 5 j = 0 := fun j hj => (rdL_ne eL5710 (fun q => by omega)).trans (Z5708 j (by omega))
  have q5712 : L5710 5 19 = 19 := rdL_eq eL5710
  refine g_iinc (pc1 := 99) (v := 98) (lv' := [(0, .ref 4), (1, .int 19), (2, .int 98), (3, .int 115)]) d_Tokens_init_96 rfl 2 rfl (by decide) (by decide) [1, 2, 0, 3] rfl ?_
  refine g_goto (tgt := 43) d_Tokens_init_99 (by decide) ?_
  refine g_iload_n (pc1 := 44) d_Tokens_init_43 rfl 2 rfl ?_
  refine g_strlen (pc1 := 49) rfl d_Tokens_init_44 d_Tokens_init_46 rfl (Nat.le_of_ble_eq_true rfl) ⟨Nat.le_of_ble_eq_true rfl, Nat.le_of_ble_eq_true rfl⟩ ?_
  refine g_icmp_ge (pc1 := 52) (tgt := 102) d_Tokens_init_49 (by decide) rfl (fun h => absurd h (by decide)) (fun _ => ?_)
  refine g_strchr (pc1 := 58) (v := 116) rfl d_Tokens_init_52 d_Tokens_init_54 d_Tokens_init_55 rfl 2 rfl (by decide) (by decide) (by decide +kernel) (Nat.le_of_ble_eq_true rfl) ⟨Nat.le_of_ble_eq_true rfl, Nat.le_of_ble_eq_true rfl⟩ ?_
  refine g_istore_n (pc1 := 59) (lv' := [(0, .ref 4), (1, .int 19), (2, .int 98), (3, .int 116)]) d_Tokens_init_58 rfl rfl (by decide) [1, 2, 3, 0] rfl ?_
  refine g_iload_n (pc1 := 60) d_Tokens_init_59 rfl 3 rfl ?_
  refine g_bipush (pc1 := 62) (v := 32) d_Tokens_init_60 rfl (by decide) ?_
  refine g_icmp_ne (pc1 := 65) (tgt := 71) d_Tokens_init_62 (by decide) rfl (fun _ => ?_) (fun h => absurd h (by decide))
  refine g_iload_n (pc1 := 72) d_Tokens_init_71 rfl 1 rfl ?_
  refine g_aload_n (pc1 := 73) d_Tokens_init_72 rfl 0 rfl ?_
  refine g_getr (pc1 := 76) d_Tokens_init_73 rfl ⟨_, fo_Tokens_9⟩ sh_4 (by decide) q5474 ?_
  refine g_alen (pc1 := 77) (v := 21) d_Tokens_init_76 rfl sh_5 (by decide) (by decide) (by decide) (by decide) ?_
  refine g_icmp_ge (pc1 := 80) (tgt := 96) d_Tokens_init_77 (by decide) rfl (fun h => absurd h (by decide)) (fun _ => ?_)
  refine g_aload_n (pc1 := 81) d_Tokens_init_80 rfl 0 rfl ?_
  refine g_getr (pc1 := 84) d_Tokens_init_81 rfl ⟨_, fo_Tokens_9⟩ sh_4 (by decide) q5474 ?_
  refine g_iload_n (pc1 := 85) d_Tokens_init_84 rfl 1 rfl ?_
  refine g_aload_n (pc1 := 86) d_Tokens_init_85 rfl 0 rfl ?_
  refine g_getr (pc1 := 89) d_Tokens_init_86 rfl ⟨_, fo_Tokens_9⟩ sh_4 (by decide) q5474 ?_
  refine g_iload_n (pc1 := 90) d_Tokens_init_89 rfl 1 rfl ?_
  refine g_lald (pc1 := 91) d_Tokens_init_90 rfl sh_5 (by decide) (vin_lit (x := 19) (by decide)) ?_
  refine Wp.vall (y := 19) (by rw [show (19 : Int32).toNatClampNeg = 19 from by decide]; exact q5712) ?_
  refine g_iload_n (pc1 := 92) d_Tokens_init_91 rfl 3 rfl ?_
  refine g_callS (pc1 := 95) (E' := (0, 0, 9)) (As := [.long 19, .int 116]) (rest := [.int 19, .ref 5]) d_Tokens_init_92 rfl mo_Tokens_37 ms_Tokens_withLetter (by decide) rfl rfl (Nat.le_of_ble_eq_true rfl) ⟨Nat.le_of_ble_eq_true rfl, Nat.le_of_ble_eq_true rfl⟩ rfl ?_
  refine t0_withLetter ?_
  dsimp only [psh]
  refine Wp.vall (y := 628) (by decide +kernel) ?_
  refine g_last (pc1 := 96) d_Tokens_init_95 rfl sh_5 (by decide) (vin_lit (x := 19) (by decide)) ?_
  rw [show ((19 : Int32).toNatClampNeg) = 19 from by decide]
  refine Wp.topL (fun L5713 eL5713 => ?_)
  have Z5714 : ∀ j : Nat, 19 < j → L5713 5 j = 0 := fun j hj => (rdL_ne eL5713 (fun q => by omega)).trans (Z5711 j (by omega))
  have q5715 : L5713 5 19 = 628 := rdL_eq eL5713
  refine g_iinc (pc1 := 99) (v := 99) (lv' := [(0, .ref 4), (1, .int 19), (2, .int 99), (3, .int 116)]) d_Tokens_init_96 rfl 2 rfl (by decide) (by decide) [1, 2, 0, 3] rfl ?_
  refine g_goto (tgt := 43) d_Tokens_init_99 (by decide) ?_
  refine g_iload_n (pc1 := 44) d_Tokens_init_43 rfl 2 rfl ?_
  refine g_strlen (pc1 := 49) rfl d_Tokens_init_44 d_Tokens_init_46 rfl (Nat.le_of_ble_eq_true rfl) ⟨Nat.le_of_ble_eq_true rfl, Nat.le_of_ble_eq_true rfl⟩ ?_
  refine g_icmp_ge (pc1 := 52) (tgt := 102) d_Tokens_init_49 (by decide) rfl (fun h => absurd h (by decide)) (fun _ => ?_)
  refine g_strchr (pc1 := 58) (v := 111) rfl d_Tokens_init_52 d_Tokens_init_54 d_Tokens_init_55 rfl 2 rfl (by decide) (by decide) (by decide +kernel) (Nat.le_of_ble_eq_true rfl) ⟨Nat.le_of_ble_eq_true rfl, Nat.le_of_ble_eq_true rfl⟩ ?_
  refine g_istore_n (pc1 := 59) (lv' := [(0, .ref 4), (1, .int 19), (2, .int 99), (3, .int 111)]) d_Tokens_init_58 rfl rfl (by decide) [1, 2, 3, 0] rfl ?_
  refine g_iload_n (pc1 := 60) d_Tokens_init_59 rfl 3 rfl ?_
  refine g_bipush (pc1 := 62) (v := 32) d_Tokens_init_60 rfl (by decide) ?_
  refine g_icmp_ne (pc1 := 65) (tgt := 71) d_Tokens_init_62 (by decide) rfl (fun _ => ?_) (fun h => absurd h (by decide))
  refine g_iload_n (pc1 := 72) d_Tokens_init_71 rfl 1 rfl ?_
  refine g_aload_n (pc1 := 73) d_Tokens_init_72 rfl 0 rfl ?_
  refine g_getr (pc1 := 76) d_Tokens_init_73 rfl ⟨_, fo_Tokens_9⟩ sh_4 (by decide) q5474 ?_
  refine g_alen (pc1 := 77) (v := 21) d_Tokens_init_76 rfl sh_5 (by decide) (by decide) (by decide) (by decide) ?_
  refine g_icmp_ge (pc1 := 80) (tgt := 96) d_Tokens_init_77 (by decide) rfl (fun h => absurd h (by decide)) (fun _ => ?_)
  refine g_aload_n (pc1 := 81) d_Tokens_init_80 rfl 0 rfl ?_
  refine g_getr (pc1 := 84) d_Tokens_init_81 rfl ⟨_, fo_Tokens_9⟩ sh_4 (by decide) q5474 ?_
  refine g_iload_n (pc1 := 85) d_Tokens_init_84 rfl 1 rfl ?_
  refine g_aload_n (pc1 := 86) d_Tokens_init_85 rfl 0 rfl ?_
  refine g_getr (pc1 := 89) d_Tokens_init_86 rfl ⟨_, fo_Tokens_9⟩ sh_4 (by decide) q5474 ?_
  refine g_iload_n (pc1 := 90) d_Tokens_init_89 rfl 1 rfl ?_
  refine g_lald (pc1 := 91) d_Tokens_init_90 rfl sh_5 (by decide) (vin_lit (x := 19) (by decide)) ?_
  refine Wp.vall (y := 628) (by rw [show (19 : Int32).toNatClampNeg = 19 from by decide]; exact q5715) ?_
  refine g_iload_n (pc1 := 92) d_Tokens_init_91 rfl 3 rfl ?_
  refine g_callS (pc1 := 95) (E' := (0, 0, 9)) (As := [.long 628, .int 111]) (rest := [.int 19, .ref 5]) d_Tokens_init_92 rfl mo_Tokens_37 ms_Tokens_withLetter (by decide) rfl rfl (Nat.le_of_ble_eq_true rfl) ⟨Nat.le_of_ble_eq_true rfl, Nat.le_of_ble_eq_true rfl⟩ rfl ?_
  refine t0_withLetter ?_
  dsimp only [psh]
  refine Wp.vall (y := 20111) (by decide +kernel) ?_
  refine g_last (pc1 := 96) d_Tokens_init_95 rfl sh_5 (by decide) (vin_lit (x := 19) (by decide)) ?_
  rw [show ((19 : Int32).toNatClampNeg) = 19 from by decide]
  refine Wp.topL (fun L5716 eL5716 => ?_)
  have Z5717 : ∀ j : Nat, 19 < j → L5716 5 j = 0 := fun j hj => (rdL_ne eL5716 (fun q => by omega)).trans (Z5714 j (by omega))
  have q5718 : L5716 5 19 = 20111 := rdL_eq eL5716
  refine g_iinc (pc1 := 99) (v := 100) (lv' := [(0, .ref 4), (1, .int 19), (2, .int 100), (3, .int 111)]) d_Tokens_init_96 rfl 2 rfl (by decide) (by decide) [1, 2, 0, 3] rfl ?_
  refine g_goto (tgt := 43) d_Tokens_init_99 (by decide) ?_
  refine g_iload_n (pc1 := 44) d_Tokens_init_43 rfl 2 rfl ?_
  refine g_strlen (pc1 := 49) rfl d_Tokens_init_44 d_Tokens_init_46 rfl (Nat.le_of_ble_eq_true rfl) ⟨Nat.le_of_ble_eq_true rfl, Nat.le_of_ble_eq_true rfl⟩ ?_
  refine g_icmp_ge (pc1 := 52) (tgt := 102) d_Tokens_init_49 (by decide) rfl (fun h => absurd h (by decide)) (fun _ => ?_)
  refine g_strchr (pc1 := 58) (v := 99) rfl d_Tokens_init_52 d_Tokens_init_54 d_Tokens_init_55 rfl 2 rfl (by decide) (by decide) (by decide +kernel) (Nat.le_of_ble_eq_true rfl) ⟨Nat.le_of_ble_eq_true rfl, Nat.le_of_ble_eq_true rfl⟩ ?_
  refine g_istore_n (pc1 := 59) (lv' := [(0, .ref 4), (1, .int 19), (2, .int 100), (3, .int 99)]) d_Tokens_init_58 rfl rfl (by decide) [1, 2, 3, 0] rfl ?_
  refine g_iload_n (pc1 := 60) d_Tokens_init_59 rfl 3 rfl ?_
  refine g_bipush (pc1 := 62) (v := 32) d_Tokens_init_60 rfl (by decide) ?_
  refine g_icmp_ne (pc1 := 65) (tgt := 71) d_Tokens_init_62 (by decide) rfl (fun _ => ?_) (fun h => absurd h (by decide))
  refine g_iload_n (pc1 := 72) d_Tokens_init_71 rfl 1 rfl ?_
  refine g_aload_n (pc1 := 73) d_Tokens_init_72 rfl 0 rfl ?_
  refine g_getr (pc1 := 76) d_Tokens_init_73 rfl ⟨_, fo_Tokens_9⟩ sh_4 (by decide) q5474 ?_
  refine g_alen (pc1 := 77) (v := 21) d_Tokens_init_76 rfl sh_5 (by decide) (by decide) (by decide) (by decide) ?_
  refine g_icmp_ge (pc1 := 80) (tgt := 96) d_Tokens_init_77 (by decide) rfl (fun h => absurd h (by decide)) (fun _ => ?_)
  refine g_aload_n (pc1 := 81) d_Tokens_init_80 rfl 0 rfl ?_
  refine g_getr (pc1 := 84) d_Tokens_init_81 rfl ⟨_, fo_Tokens_9⟩ sh_4 (by decide) q5474 ?_
  refine g_iload_n (pc1 := 85) d_Tokens_init_84 rfl 1 rfl ?_
  refine g_aload_n (pc1 := 86) d_Tokens_init_85 rfl 0 rfl ?_
  refine g_getr (pc1 := 89) d_Tokens_init_86 rfl ⟨_, fo_Tokens_9⟩ sh_4 (by decide) q5474 ?_
  refine g_iload_n (pc1 := 90) d_Tokens_init_89 rfl 1 rfl ?_
  refine g_lald (pc1 := 91) d_Tokens_init_90 rfl sh_5 (by decide) (vin_lit (x := 19) (by decide)) ?_
  refine Wp.vall (y := 20111) (by rw [show (19 : Int32).toNatClampNeg = 19 from by decide]; exact q5718) ?_
  refine g_iload_n (pc1 := 92) d_Tokens_init_91 rfl 3 rfl ?_
  refine g_callS (pc1 := 95) (E' := (0, 0, 9)) (As := [.long 20111, .int 99]) (rest := [.int 19, .ref 5]) d_Tokens_init_92 rfl mo_Tokens_37 ms_Tokens_withLetter (by decide) rfl rfl (Nat.le_of_ble_eq_true rfl) ⟨Nat.le_of_ble_eq_true rfl, Nat.le_of_ble_eq_true rfl⟩ rfl ?_
  refine t0_withLetter ?_
  dsimp only [psh]
  refine Wp.vall (y := 643555) (by decide +kernel) ?_
  refine g_last (pc1 := 96) d_Tokens_init_95 rfl sh_5 (by decide) (vin_lit (x := 19) (by decide)) ?_
  rw [show ((19 : Int32).toNatClampNeg) = 19 from by decide]
  refine Wp.topL (fun L5719 eL5719 => ?_)
  have Z5720 : ∀ j : Nat, 19 < j → L5719 5 j = 0 := fun j hj => (rdL_ne eL5719 (fun q => by omega)).trans (Z5717 j (by omega))
  have q5721 : L5719 5 19 = 643555 := rdL_eq eL5719
  refine g_iinc (pc1 := 99) (v := 101) (lv' := [(0, .ref 4), (1, .int 19), (2, .int 101), (3, .int 99)]) d_Tokens_init_96 rfl 2 rfl (by decide) (by decide) [1, 2, 0, 3] rfl ?_
  refine g_goto (tgt := 43) d_Tokens_init_99 (by decide) ?_
  refine g_iload_n (pc1 := 44) d_Tokens_init_43 rfl 2 rfl ?_
  refine g_strlen (pc1 := 49) rfl d_Tokens_init_44 d_Tokens_init_46 rfl (Nat.le_of_ble_eq_true rfl) ⟨Nat.le_of_ble_eq_true rfl, Nat.le_of_ble_eq_true rfl⟩ ?_
  refine g_icmp_ge (pc1 := 52) (tgt := 102) d_Tokens_init_49 (by decide) rfl (fun h => absurd h (by decide)) (fun _ => ?_)
  refine g_strchr (pc1 := 58) (v := 107) rfl d_Tokens_init_52 d_Tokens_init_54 d_Tokens_init_55 rfl 2 rfl (by decide) (by decide) (by decide +kernel) (Nat.le_of_ble_eq_true rfl) ⟨Nat.le_of_ble_eq_true rfl, Nat.le_of_ble_eq_true rfl⟩ ?_
  refine g_istore_n (pc1 := 59) (lv' := [(0, .ref 4), (1, .int 19), (2, .int 101), (3, .int 107)]) d_Tokens_init_58 rfl rfl (by decide) [1, 2, 3, 0] rfl ?_
  refine g_iload_n (pc1 := 60) d_Tokens_init_59 rfl 3 rfl ?_
  refine g_bipush (pc1 := 62) (v := 32) d_Tokens_init_60 rfl (by decide) ?_
  refine g_icmp_ne (pc1 := 65) (tgt := 71) d_Tokens_init_62 (by decide) rfl (fun _ => ?_) (fun h => absurd h (by decide))
  refine g_iload_n (pc1 := 72) d_Tokens_init_71 rfl 1 rfl ?_
  refine g_aload_n (pc1 := 73) d_Tokens_init_72 rfl 0 rfl ?_
  refine g_getr (pc1 := 76) d_Tokens_init_73 rfl ⟨_, fo_Tokens_9⟩ sh_4 (by decide) q5474 ?_
  refine g_alen (pc1 := 77) (v := 21) d_Tokens_init_76 rfl sh_5 (by decide) (by decide) (by decide) (by decide) ?_
  refine g_icmp_ge (pc1 := 80) (tgt := 96) d_Tokens_init_77 (by decide) rfl (fun h => absurd h (by decide)) (fun _ => ?_)
  refine g_aload_n (pc1 := 81) d_Tokens_init_80 rfl 0 rfl ?_
  refine g_getr (pc1 := 84) d_Tokens_init_81 rfl ⟨_, fo_Tokens_9⟩ sh_4 (by decide) q5474 ?_
  refine g_iload_n (pc1 := 85) d_Tokens_init_84 rfl 1 rfl ?_
  refine g_aload_n (pc1 := 86) d_Tokens_init_85 rfl 0 rfl ?_
  refine g_getr (pc1 := 89) d_Tokens_init_86 rfl ⟨_, fo_Tokens_9⟩ sh_4 (by decide) q5474 ?_
  refine g_iload_n (pc1 := 90) d_Tokens_init_89 rfl 1 rfl ?_
  refine g_lald (pc1 := 91) d_Tokens_init_90 rfl sh_5 (by decide) (vin_lit (x := 19) (by decide)) ?_
  refine Wp.vall (y := 643555) (by rw [show (19 : Int32).toNatClampNeg = 19 from by decide]; exact q5721) ?_
  refine g_iload_n (pc1 := 92) d_Tokens_init_91 rfl 3 rfl ?_
  refine g_callS (pc1 := 95) (E' := (0, 0, 9)) (As := [.long 643555, .int 107]) (rest := [.int 19, .ref 5]) d_Tokens_init_92 rfl mo_Tokens_37 ms_Tokens_withLetter (by decide) rfl rfl (Nat.le_of_ble_eq_true rfl) ⟨Nat.le_of_ble_eq_true rfl, Nat.le_of_ble_eq_true rfl⟩ rfl ?_
  refine t0_withLetter ?_
  dsimp only [psh]
  refine Wp.vall (y := 20593771) (by decide +kernel) ?_
  refine g_last (pc1 := 96) d_Tokens_init_95 rfl sh_5 (by decide) (vin_lit (x := 19) (by decide)) ?_
  rw [show ((19 : Int32).toNatClampNeg) = 19 from by decide]
  refine Wp.topL (fun L5722 eL5722 => ?_)
  have Z5723 : ∀ j : Nat, 19 < j → L5722 5 j = 0 := fun j hj => (rdL_ne eL5722 (fun q => by omega)).trans (Z5720 j (by omega))
  have q5724 : L5722 5 19 = 20593771 := rdL_eq eL5722
  refine g_iinc (pc1 := 99) (v := 102) (lv' := [(0, .ref 4), (1, .int 19), (2, .int 102), (3, .int 107)]) d_Tokens_init_96 rfl 2 rfl (by decide) (by decide) [1, 2, 0, 3] rfl ?_
  refine g_goto (tgt := 43) d_Tokens_init_99 (by decide) ?_
  refine g_iload_n (pc1 := 44) d_Tokens_init_43 rfl 2 rfl ?_
  refine g_strlen (pc1 := 49) rfl d_Tokens_init_44 d_Tokens_init_46 rfl (Nat.le_of_ble_eq_true rfl) ⟨Nat.le_of_ble_eq_true rfl, Nat.le_of_ble_eq_true rfl⟩ ?_
  refine g_icmp_ge (pc1 := 52) (tgt := 102) d_Tokens_init_49 (by decide) rfl (fun h => absurd h (by decide)) (fun _ => ?_)
  refine g_strchr (pc1 := 58) (v := 32) rfl d_Tokens_init_52 d_Tokens_init_54 d_Tokens_init_55 rfl 2 rfl (by decide) (by decide) (by decide +kernel) (Nat.le_of_ble_eq_true rfl) ⟨Nat.le_of_ble_eq_true rfl, Nat.le_of_ble_eq_true rfl⟩ ?_
  refine g_istore_n (pc1 := 59) (lv' := [(0, .ref 4), (1, .int 19), (2, .int 102), (3, .int 32)]) d_Tokens_init_58 rfl rfl (by decide) [1, 2, 3, 0] rfl ?_
  refine g_iload_n (pc1 := 60) d_Tokens_init_59 rfl 3 rfl ?_
  refine g_bipush (pc1 := 62) (v := 32) d_Tokens_init_60 rfl (by decide) ?_
  refine g_icmp_ne (pc1 := 65) (tgt := 71) d_Tokens_init_62 (by decide) rfl (fun h => absurd h (by decide)) (fun _ => ?_)
  refine g_iinc (pc1 := 68) (v := 20) (lv' := [(0, .ref 4), (1, .int 20), (2, .int 102), (3, .int 32)]) d_Tokens_init_65 rfl 1 rfl (by decide) (by decide) [1, 0, 2, 3] rfl ?_
  refine g_goto (tgt := 96) d_Tokens_init_68 (by decide) ?_
  refine g_iinc (pc1 := 99) (v := 103) (lv' := [(0, .ref 4), (1, .int 20), (2, .int 103), (3, .int 32)]) d_Tokens_init_96 rfl 2 rfl (by decide) (by decide) [1, 2, 0, 3] rfl ?_
  refine g_goto (tgt := 43) d_Tokens_init_99 (by decide) ?_
  refine g_iload_n (pc1 := 44) d_Tokens_init_43 rfl 2 rfl ?_
  refine g_strlen (pc1 := 49) rfl d_Tokens_init_44 d_Tokens_init_46 rfl (Nat.le_of_ble_eq_true rfl) ⟨Nat.le_of_ble_eq_true rfl, Nat.le_of_ble_eq_true rfl⟩ ?_
  refine g_icmp_ge (pc1 := 52) (tgt := 102) d_Tokens_init_49 (by decide) rfl (fun h => absurd h (by decide)) (fun _ => ?_)
  refine g_strchr (pc1 := 58) (v := 112) rfl d_Tokens_init_52 d_Tokens_init_54 d_Tokens_init_55 rfl 2 rfl (by decide) (by decide) (by decide +kernel) (Nat.le_of_ble_eq_true rfl) ⟨Nat.le_of_ble_eq_true rfl, Nat.le_of_ble_eq_true rfl⟩ ?_
  refine g_istore_n (pc1 := 59) (lv' := [(0, .ref 4), (1, .int 20), (2, .int 103), (3, .int 112)]) d_Tokens_init_58 rfl rfl (by decide) [1, 2, 3, 0] rfl ?_
  refine g_iload_n (pc1 := 60) d_Tokens_init_59 rfl 3 rfl ?_
  refine g_bipush (pc1 := 62) (v := 32) d_Tokens_init_60 rfl (by decide) ?_
  refine g_icmp_ne (pc1 := 65) (tgt := 71) d_Tokens_init_62 (by decide) rfl (fun _ => ?_) (fun h => absurd h (by decide))
  refine g_iload_n (pc1 := 72) d_Tokens_init_71 rfl 1 rfl ?_
  refine g_aload_n (pc1 := 73) d_Tokens_init_72 rfl 0 rfl ?_
  refine g_getr (pc1 := 76) d_Tokens_init_73 rfl ⟨_, fo_Tokens_9⟩ sh_4 (by decide) q5474 ?_
  refine g_alen (pc1 := 77) (v := 21) d_Tokens_init_76 rfl sh_5 (by decide) (by decide) (by decide) (by decide) ?_
  refine g_icmp_ge (pc1 := 80) (tgt := 96) d_Tokens_init_77 (by decide) rfl (fun h => absurd h (by decide)) (fun _ => ?_)
  refine g_aload_n (pc1 := 81) d_Tokens_init_80 rfl 0 rfl ?_
  refine g_getr (pc1 := 84) d_Tokens_init_81 rfl ⟨_, fo_Tokens_9⟩ sh_4 (by decide) q5474 ?_
  refine g_iload_n (pc1 := 85) d_Tokens_init_84 rfl 1 rfl ?_
  refine g_aload_n (pc1 := 86) d_Tokens_init_85 rfl 0 rfl ?_
  refine g_getr (pc1 := 89) d_Tokens_init_86 rfl ⟨_, fo_Tokens_9⟩ sh_4 (by decide) q5474 ?_
  refine g_iload_n (pc1 := 90) d_Tokens_init_89 rfl 1 rfl ?_
  refine g_lald (pc1 := 91) d_Tokens_init_90 rfl sh_5 (by decide) (vin_lit (x := 20) (by decide)) ?_
  refine Wp.vall (y := 0) (by rw [show (20 : Int32).toNatClampNeg = 20 from by decide]; exact (Z5723 20 (by decide))) ?_
  refine g_iload_n (pc1 := 92) d_Tokens_init_91 rfl 3 rfl ?_
  refine g_callS (pc1 := 95) (E' := (0, 0, 9)) (As := [.long 0, .int 112]) (rest := [.int 20, .ref 5]) d_Tokens_init_92 rfl mo_Tokens_37 ms_Tokens_withLetter (by decide) rfl rfl (Nat.le_of_ble_eq_true rfl) ⟨Nat.le_of_ble_eq_true rfl, Nat.le_of_ble_eq_true rfl⟩ rfl ?_
  refine t0_withLetter ?_
  dsimp only [psh]
  refine Wp.vall (y := 16) (by decide +kernel) ?_
  refine g_last (pc1 := 96) d_Tokens_init_95 rfl sh_5 (by decide) (vin_lit (x := 20) (by decide)) ?_
  rw [show ((20 : Int32).toNatClampNeg) = 20 from by decide]
  refine Wp.topL (fun L5725 eL5725 => ?_)
  have Z5726 : ∀ j : Nat, 20 < j → L5725 5 j = 0 := fun j hj => (rdL_ne eL5725 (fun q => by omega)).trans (Z5723 j (by omega))
  have q5727 : L5725 5 20 = 16 := rdL_eq eL5725
  refine g_iinc (pc1 := 99) (v := 104) (lv' := [(0, .ref 4), (1, .int 20), (2, .int 104), (3, .int 112)]) d_Tokens_init_96 rfl 2 rfl (by decide) (by decide) [1, 2, 0, 3] rfl ?_
  refine g_goto (tgt := 43) d_Tokens_init_99 (by decide) ?_
  refine g_iload_n (pc1 := 44) d_Tokens_init_43 rfl 2 rfl ?_
  refine g_strlen (pc1 := 49) rfl d_Tokens_init_44 d_Tokens_init_46 rfl (Nat.le_of_ble_eq_true rfl) ⟨Nat.le_of_ble_eq_true rfl, Nat.le_of_ble_eq_true rfl⟩ ?_
  refine g_icmp_ge (pc1 := 52) (tgt := 102) d_Tokens_init_49 (by decide) rfl (fun h => absurd h (by decide)) (fun _ => ?_)
  refine g_strchr (pc1 := 58) (v := 114) rfl d_Tokens_init_52 d_Tokens_init_54 d_Tokens_init_55 rfl 2 rfl (by decide) (by decide) (by decide +kernel) (Nat.le_of_ble_eq_true rfl) ⟨Nat.le_of_ble_eq_true rfl, Nat.le_of_ble_eq_true rfl⟩ ?_
  refine g_istore_n (pc1 := 59) (lv' := [(0, .ref 4), (1, .int 20), (2, .int 104), (3, .int 114)]) d_Tokens_init_58 rfl rfl (by decide) [1, 2, 3, 0] rfl ?_
  refine g_iload_n (pc1 := 60) d_Tokens_init_59 rfl 3 rfl ?_
  refine g_bipush (pc1 := 62) (v := 32) d_Tokens_init_60 rfl (by decide) ?_
  refine g_icmp_ne (pc1 := 65) (tgt := 71) d_Tokens_init_62 (by decide) rfl (fun _ => ?_) (fun h => absurd h (by decide))
  refine g_iload_n (pc1 := 72) d_Tokens_init_71 rfl 1 rfl ?_
  refine g_aload_n (pc1 := 73) d_Tokens_init_72 rfl 0 rfl ?_
  refine g_getr (pc1 := 76) d_Tokens_init_73 rfl ⟨_, fo_Tokens_9⟩ sh_4 (by decide) q5474 ?_
  refine g_alen (pc1 := 77) (v := 21) d_Tokens_init_76 rfl sh_5 (by decide) (by decide) (by decide) (by decide) ?_
  refine g_icmp_ge (pc1 := 80) (tgt := 96) d_Tokens_init_77 (by decide) rfl (fun h => absurd h (by decide)) (fun _ => ?_)
  refine g_aload_n (pc1 := 81) d_Tokens_init_80 rfl 0 rfl ?_
  refine g_getr (pc1 := 84) d_Tokens_init_81 rfl ⟨_, fo_Tokens_9⟩ sh_4 (by decide) q5474 ?_
  refine g_iload_n (pc1 := 85) d_Tokens_init_84 rfl 1 rfl ?_
  refine g_aload_n (pc1 := 86) d_Tokens_init_85 rfl 0 rfl ?_
  refine g_getr (pc1 := 89) d_Tokens_init_86 rfl ⟨_, fo_Tokens_9⟩ sh_4 (by decide) q5474 ?_
  refine g_iload_n (pc1 := 90) d_Tokens_init_89 rfl 1 rfl ?_
  refine g_lald (pc1 := 91) d_Tokens_init_90 rfl sh_5 (by decide) (vin_lit (x := 20) (by decide)) ?_
  refine Wp.vall (y := 16) (by rw [show (20 : Int32).toNatClampNeg = 20 from by decide]; exact q5727) ?_
  refine g_iload_n (pc1 := 92) d_Tokens_init_91 rfl 3 rfl ?_
  refine g_callS (pc1 := 95) (E' := (0, 0, 9)) (As := [.long 16, .int 114]) (rest := [.int 20, .ref 5]) d_Tokens_init_92 rfl mo_Tokens_37 ms_Tokens_withLetter (by decide) rfl rfl (Nat.le_of_ble_eq_true rfl) ⟨Nat.le_of_ble_eq_true rfl, Nat.le_of_ble_eq_true rfl⟩ rfl ?_
  refine t0_withLetter ?_
  dsimp only [psh]
  refine Wp.vall (y := 530) (by decide +kernel) ?_
  refine g_last (pc1 := 96) d_Tokens_init_95 rfl sh_5 (by decide) (vin_lit (x := 20) (by decide)) ?_
  rw [show ((20 : Int32).toNatClampNeg) = 20 from by decide]
  refine Wp.topL (fun L5728 eL5728 => ?_)
  have Z5729 : ∀ j : Nat, 20 < j → L5728 5 j = 0 := fun j hj => (rdL_ne eL5728 (fun q => by omega)).trans (Z5726 j (by omega))
  have q5730 : L5728 5 20 = 530 := rdL_eq eL5728
  refine g_iinc (pc1 := 99) (v := 105) (lv' := [(0, .ref 4), (1, .int 20), (2, .int 105), (3, .int 114)]) d_Tokens_init_96 rfl 2 rfl (by decide) (by decide) [1, 2, 0, 3] rfl ?_
  refine g_goto (tgt := 43) d_Tokens_init_99 (by decide) ?_
  refine g_iload_n (pc1 := 44) d_Tokens_init_43 rfl 2 rfl ?_
  refine g_strlen (pc1 := 49) rfl d_Tokens_init_44 d_Tokens_init_46 rfl (Nat.le_of_ble_eq_true rfl) ⟨Nat.le_of_ble_eq_true rfl, Nat.le_of_ble_eq_true rfl⟩ ?_
  refine g_icmp_ge (pc1 := 52) (tgt := 102) d_Tokens_init_49 (by decide) rfl (fun h => absurd h (by decide)) (fun _ => ?_)
  refine g_strchr (pc1 := 58) (v := 105) rfl d_Tokens_init_52 d_Tokens_init_54 d_Tokens_init_55 rfl 2 rfl (by decide) (by decide) (by decide +kernel) (Nat.le_of_ble_eq_true rfl) ⟨Nat.le_of_ble_eq_true rfl, Nat.le_of_ble_eq_true rfl⟩ ?_
  refine g_istore_n (pc1 := 59) (lv' := [(0, .ref 4), (1, .int 20), (2, .int 105), (3, .int 105)]) d_Tokens_init_58 rfl rfl (by decide) [1, 2, 3, 0] rfl ?_
  refine g_iload_n (pc1 := 60) d_Tokens_init_59 rfl 3 rfl ?_
  refine g_bipush (pc1 := 62) (v := 32) d_Tokens_init_60 rfl (by decide) ?_
  refine g_icmp_ne (pc1 := 65) (tgt := 71) d_Tokens_init_62 (by decide) rfl (fun _ => ?_) (fun h => absurd h (by decide))
  refine g_iload_n (pc1 := 72) d_Tokens_init_71 rfl 1 rfl ?_
  refine g_aload_n (pc1 := 73) d_Tokens_init_72 rfl 0 rfl ?_
  refine g_getr (pc1 := 76) d_Tokens_init_73 rfl ⟨_, fo_Tokens_9⟩ sh_4 (by decide) q5474 ?_
  refine g_alen (pc1 := 77) (v := 21) d_Tokens_init_76 rfl sh_5 (by decide) (by decide) (by decide) (by decide) ?_
  refine g_icmp_ge (pc1 := 80) (tgt := 96) d_Tokens_init_77 (by decide) rfl (fun h => absurd h (by decide)) (fun _ => ?_)
  refine g_aload_n (pc1 := 81) d_Tokens_init_80 rfl 0 rfl ?_
  refine g_getr (pc1 := 84) d_Tokens_init_81 rfl ⟨_, fo_Tokens_9⟩ sh_4 (by decide) q5474 ?_
  refine g_iload_n (pc1 := 85) d_Tokens_init_84 rfl 1 rfl ?_
  refine g_aload_n (pc1 := 86) d_Tokens_init_85 rfl 0 rfl ?_
  refine g_getr (pc1 := 89) d_Tokens_init_86 rfl ⟨_, fo_Tokens_9⟩ sh_4 (by decide) q5474 ?_
  refine g_iload_n (pc1 := 90) d_Tokens_init_89 rfl 1 rfl ?_
  refine g_lald (pc1 := 91) d_Tokens_init_90 rfl sh_5 (by decide) (vin_lit (x := 20) (by decide)) ?_
  refine Wp.vall (y := 530) (by rw [show (20 : Int32).toNatClampNeg = 20 from by decide]; exact q5730) ?_
  refine g_iload_n (pc1 := 92) d_Tokens_init_91 rfl 3 rfl ?_
  refine g_callS (pc1 := 95) (E' := (0, 0, 9)) (As := [.long 530, .int 105]) (rest := [.int 20, .ref 5]) d_Tokens_init_92 rfl mo_Tokens_37 ms_Tokens_withLetter (by decide) rfl rfl (Nat.le_of_ble_eq_true rfl) ⟨Nat.le_of_ble_eq_true rfl, Nat.le_of_ble_eq_true rfl⟩ rfl ?_
  refine t0_withLetter ?_
  dsimp only [psh]
  refine Wp.vall (y := 16969) (by decide +kernel) ?_
  refine g_last (pc1 := 96) d_Tokens_init_95 rfl sh_5 (by decide) (vin_lit (x := 20) (by decide)) ?_
  rw [show ((20 : Int32).toNatClampNeg) = 20 from by decide]
  refine Wp.topL (fun L5731 eL5731 => ?_)
  have Z5732 : ∀ j : Nat, 20 < j → L5731 5 j = 0 := fun j hj => (rdL_ne eL5731 (fun q => by omega)).trans (Z5729 j (by omega))
  have q5733 : L5731 5 20 = 16969 := rdL_eq eL5731
  refine g_iinc (pc1 := 99) (v := 106) (lv' := [(0, .ref 4), (1, .int 20), (2, .int 106), (3, .int 105)]) d_Tokens_init_96 rfl 2 rfl (by decide) (by decide) [1, 2, 0, 3] rfl ?_
  refine g_goto (tgt := 43) d_Tokens_init_99 (by decide) ?_
  refine g_iload_n (pc1 := 44) d_Tokens_init_43 rfl 2 rfl ?_
  refine g_strlen (pc1 := 49) rfl d_Tokens_init_44 d_Tokens_init_46 rfl (Nat.le_of_ble_eq_true rfl) ⟨Nat.le_of_ble_eq_true rfl, Nat.le_of_ble_eq_true rfl⟩ ?_
  refine g_icmp_ge (pc1 := 52) (tgt := 102) d_Tokens_init_49 (by decide) rfl (fun h => absurd h (by decide)) (fun _ => ?_)
  refine g_strchr (pc1 := 58) (v := 99) rfl d_Tokens_init_52 d_Tokens_init_54 d_Tokens_init_55 rfl 2 rfl (by decide) (by decide) (by decide +kernel) (Nat.le_of_ble_eq_true rfl) ⟨Nat.le_of_ble_eq_true rfl, Nat.le_of_ble_eq_true rfl⟩ ?_
  refine g_istore_n (pc1 := 59) (lv' := [(0, .ref 4), (1, .int 20), (2, .int 106), (3, .int 99)]) d_Tokens_init_58 rfl rfl (by decide) [1, 2, 3, 0] rfl ?_
  refine g_iload_n (pc1 := 60) d_Tokens_init_59 rfl 3 rfl ?_
  refine g_bipush (pc1 := 62) (v := 32) d_Tokens_init_60 rfl (by decide) ?_
  refine g_icmp_ne (pc1 := 65) (tgt := 71) d_Tokens_init_62 (by decide) rfl (fun _ => ?_) (fun h => absurd h (by decide))
  refine g_iload_n (pc1 := 72) d_Tokens_init_71 rfl 1 rfl ?_
  refine g_aload_n (pc1 := 73) d_Tokens_init_72 rfl 0 rfl ?_
  refine g_getr (pc1 := 76) d_Tokens_init_73 rfl ⟨_, fo_Tokens_9⟩ sh_4 (by decide) q5474 ?_
  refine g_alen (pc1 := 77) (v := 21) d_Tokens_init_76 rfl sh_5 (by decide) (by decide) (by decide) (by decide) ?_
  refine g_icmp_ge (pc1 := 80) (tgt := 96) d_Tokens_init_77 (by decide) rfl (fun h => absurd h (by decide)) (fun _ => ?_)
  refine g_aload_n (pc1 := 81) d_Tokens_init_80 rfl 0 rfl ?_
  refine g_getr (pc1 := 84) d_Tokens_init_81 rfl ⟨_, fo_Tokens_9⟩ sh_4 (by decide) q5474 ?_
  refine g_iload_n (pc1 := 85) d_Tokens_init_84 rfl 1 rfl ?_
  refine g_aload_n (pc1 := 86) d_Tokens_init_85 rfl 0 rfl ?_
  refine g_getr (pc1 := 89) d_Tokens_init_86 rfl ⟨_, fo_Tokens_9⟩ sh_4 (by decide) q5474 ?_
  refine g_iload_n (pc1 := 90) d_Tokens_init_89 rfl 1 rfl ?_
  refine g_lald (pc1 := 91) d_Tokens_init_90 rfl sh_5 (by decide) (vin_lit (x := 20) (by decide)) ?_
  refine Wp.vall (y := 16969) (by rw [show (20 : Int32).toNatClampNeg = 20 from by decide]; exact q5733) ?_
  refine g_iload_n (pc1 := 92) d_Tokens_init_91 rfl 3 rfl ?_
  refine g_callS (pc1 := 95) (E' := (0, 0, 9)) (As := [.long 16969, .int 99]) (rest := [.int 20, .ref 5]) d_Tokens_init_92 rfl mo_Tokens_37 ms_Tokens_withLetter (by decide) rfl rfl (Nat.le_of_ble_eq_true rfl) ⟨Nat.le_of_ble_eq_true rfl, Nat.le_of_ble_eq_true rfl⟩ rfl ?_
  refine t0_withLetter ?_
  dsimp only [psh]
  refine Wp.vall (y := 543011) (by decide +kernel) ?_
  refine g_last (pc1 := 96) d_Tokens_init_95 rfl sh_5 (by decide) (vin_lit (x := 20) (by decide)) ?_
  rw [show ((20 : Int32).toNatClampNeg) = 20 from by decide]
  refine Wp.topL (fun L5734 eL5734 => ?_)
  have Z5735 : ∀ j : Nat, 20 < j → L5734 5 j = 0 := fun j hj => (rdL_ne eL5734 (fun q => by omega)).trans (Z5732 j (by omega))
  have q5736 : L5734 5 20 = 543011 := rdL_eq eL5734
  refine g_iinc (pc1 := 99) (v := 107) (lv' := [(0, .ref 4), (1, .int 20), (2, .int 107), (3, .int 99)]) d_Tokens_init_96 rfl 2 rfl (by decide) (by decide) [1, 2, 0, 3] rfl ?_
  refine g_goto (tgt := 43) d_Tokens_init_99 (by decide) ?_
  refine g_iload_n (pc1 := 44) d_Tokens_init_43 rfl 2 rfl ?_
  refine g_strlen (pc1 := 49) rfl d_Tokens_init_44 d_Tokens_init_46 rfl (Nat.le_of_ble_eq_true rfl) ⟨Nat.le_of_ble_eq_true rfl, Nat.le_of_ble_eq_true rfl⟩ ?_
  refine g_icmp_ge (pc1 := 52) (tgt := 102) d_Tokens_init_49 (by decide) rfl (fun h => absurd h (by decide)) (fun _ => ?_)
  refine g_strchr (pc1 := 58) (v := 101) rfl d_Tokens_init_52 d_Tokens_init_54 d_Tokens_init_55 rfl 2 rfl (by decide) (by decide) (by decide +kernel) (Nat.le_of_ble_eq_true rfl) ⟨Nat.le_of_ble_eq_true rfl, Nat.le_of_ble_eq_true rfl⟩ ?_
  refine g_istore_n (pc1 := 59) (lv' := [(0, .ref 4), (1, .int 20), (2, .int 107), (3, .int 101)]) d_Tokens_init_58 rfl rfl (by decide) [1, 2, 3, 0] rfl ?_
  refine g_iload_n (pc1 := 60) d_Tokens_init_59 rfl 3 rfl ?_
  refine g_bipush (pc1 := 62) (v := 32) d_Tokens_init_60 rfl (by decide) ?_
  refine g_icmp_ne (pc1 := 65) (tgt := 71) d_Tokens_init_62 (by decide) rfl (fun _ => ?_) (fun h => absurd h (by decide))
  refine g_iload_n (pc1 := 72) d_Tokens_init_71 rfl 1 rfl ?_
  refine g_aload_n (pc1 := 73) d_Tokens_init_72 rfl 0 rfl ?_
  refine g_getr (pc1 := 76) d_Tokens_init_73 rfl ⟨_, fo_Tokens_9⟩ sh_4 (by decide) q5474 ?_
  refine g_alen (pc1 := 77) (v := 21) d_Tokens_init_76 rfl sh_5 (by decide) (by decide) (by decide) (by decide) ?_
  refine g_icmp_ge (pc1 := 80) (tgt := 96) d_Tokens_init_77 (by decide) rfl (fun h => absurd h (by decide)) (fun _ => ?_)
  refine g_aload_n (pc1 := 81) d_Tokens_init_80 rfl 0 rfl ?_
  refine g_getr (pc1 := 84) d_Tokens_init_81 rfl ⟨_, fo_Tokens_9⟩ sh_4 (by decide) q5474 ?_
  refine g_iload_n (pc1 := 85) d_Tokens_init_84 rfl 1 rfl ?_
  refine g_aload_n (pc1 := 86) d_Tokens_init_85 rfl 0 rfl ?_
  refine g_getr (pc1 := 89) d_Tokens_init_86 rfl ⟨_, fo_Tokens_9⟩ sh_4 (by decide) q5474 ?_
  refine g_iload_n (pc1 := 90) d_Tokens_init_89 rfl 1 rfl ?_
  refine g_lald (pc1 := 91) d_Tokens_init_90 rfl sh_5 (by decide) (vin_lit (x := 20) (by decide)) ?_
  refine Wp.vall (y := 543011) (by rw [show (20 : Int32).toNatClampNeg = 20 from by decide]; exact q5736) ?_
  refine g_iload_n (pc1 := 92) d_Tokens_init_91 rfl 3 rfl ?_
  refine g_callS (pc1 := 95) (E' := (0, 0, 9)) (As := [.long 543011, .int 101]) (rest := [.int 20, .ref 5]) d_Tokens_init_92 rfl mo_Tokens_37 ms_Tokens_withLetter (by decide) rfl rfl (Nat.le_of_ble_eq_true rfl) ⟨Nat.le_of_ble_eq_true rfl, Nat.le_of_ble_eq_true rfl⟩ rfl ?_
  refine t0_withLetter ?_
  dsimp only [psh]
  refine Wp.vall (y := 17376357) (by decide +kernel) ?_
  refine g_last (pc1 := 96) d_Tokens_init_95 rfl sh_5 (by decide) (vin_lit (x := 20) (by decide)) ?_
  rw [show ((20 : Int32).toNatClampNeg) = 20 from by decide]
  refine Wp.topL (fun L5737 eL5737 => ?_)
  have Z5738 : ∀ j : Nat, 20 < j → L5737 5 j = 0 := fun j hj => (rdL_ne eL5737 (fun q => by omega)).trans (Z5735 j (by omega))
  have q5739 : L5737 5 20 = 17376357 := rdL_eq eL5737
  refine g_iinc (pc1 := 99) (v := 108) (lv' := [(0, .ref 4), (1, .int 20), (2, .int 108), (3, .int 101)]) d_Tokens_init_96 rfl 2 rfl (by decide) (by decide) [1, 2, 0, 3] rfl ?_
  refine g_goto (tgt := 43) d_Tokens_init_99 (by decide) ?_
  refine g_iload_n (pc1 := 44) d_Tokens_init_43 rfl 2 rfl ?_
  refine g_strlen (pc1 := 49) rfl d_Tokens_init_44 d_Tokens_init_46 rfl (Nat.le_of_ble_eq_true rfl) ⟨Nat.le_of_ble_eq_true rfl, Nat.le_of_ble_eq_true rfl⟩ ?_
  refine g_icmp_ge (pc1 := 52) (tgt := 102) d_Tokens_init_49 (by decide) rfl (fun _ => ?_) (fun h => absurd h (by decide))
  refine g_return rfl d_Tokens_init_102 rfl ?_
  exact hQ _ _ _ (by subst_vars; rfl) (by subst_vars; rfl) (by subst_vars; rfl) (Fz.wL (Fz.wL (Fz.wL (Fz.wL (Fz.wL (Fz.wL (Fz.wL (Fz.wL (Fz.wL (Fz.wL (Fz.wL (Fz.wL (Fz.wL (Fz.wL (Fz.wL (Fz.wL (Fz.wL (Fz.wL (Fz.wL (Fz.wL (Fz.wL (Fz.wL (Fz.wL (Fz.wL (Fz.wL (Fz.wL (Fz.wL (Fz.wL (Fz.wL (Fz.wL (Fz.wL (Fz.wL (Fz.wL (Fz.wL (Fz.wL (Fz.wL (Fz.wL (Fz.wL (Fz.wL (Fz.wL (Fz.wL (Fz.wL (Fz.wL (Fz.wL (Fz.wL (Fz.wL (Fz.wL (Fz.wL (Fz.wL (Fz.wL (Fz.wL (Fz.wL (Fz.wL (Fz.wL (Fz.wL (Fz.wL (Fz.wL (Fz.wL (Fz.wL (Fz.wL (Fz.wL (Fz.wL (Fz.wL (Fz.wL (Fz.wL (Fz.wL (Fz.wL (Fz.wL (Fz.wL (Fz.wL (Fz.wL (Fz.wL (Fz.wL (Fz.wL (Fz.wL (Fz.wL (Fz.wL (Fz.wL (Fz.wL (Fz.wL (Fz.wL (Fz.wL (Fz.wL (Fz.wL (Fz.wL (Fz.wL (Fz.wL (Fz.wL (Fz.wR (Fz.up (Fz.wR (Fz.up (Fz.wR (Fz.up (Fz.wR (Fz.up hF) (by decide) eR5467)) (by decide) eR5469)) (by decide) eR5471)) (by decide) eR5473) (by decide) eL5476) (by decide) eL5479) (by decide) eL5482) (by decide) eL5485) (by decide) eL5488) (by decide) eL5491) (by decide) eL5494) (by decide) eL5497) (by decide) eL5500) (by decide) eL5503) (by decide) eL5506) (by decide) eL5509) (by decide) eL5512) (by decide) eL5515) (by decide) eL5518) (by decide) eL5521) (by decide) eL5524) (by decide) eL5527) (by decide) eL5530) (by decide) eL5533) (by decide) eL5536) (by decide) eL5539) (by decide) eL5542) (by decide) eL5545) (by decide) eL5548) (by decide) eL5551) (by decide) eL5554) (by decide) eL5557) (by decide) eL5560) (by decide) eL5563) (by decide) eL5566) (by decide) eL5569) (by decide) eL5572) (by decide) eL5575) (by decide) eL5578) (by decide) eL5581) (by decide) eL5584) (by decide) eL5587) (by decide) eL5590) (by decide) eL5593) (by decide) eL5596) (by decide) eL5599) (by decide) eL5602) (by decide) eL5605) (by decide) eL5608) (by decide) eL5611) (by decide) eL5614) (by decide) eL5617) (by decide) eL5620) (by decide) eL5623) (by decide) eL5626) (by decide) eL5629) (by decide) eL5632) (by decide) eL5635) (by decide) eL5638) (by decide) eL5641) (by decide) eL5644) (by decide) eL5647) (by decide) eL5650) (by decide) eL5653) (by decide) eL5656) (by decide) eL5659) (by decide) eL5662) (by decide) eL5665) (by decide) eL5668) (by decide) eL5671) (by decide) eL5674) (by decide) eL5677) (by decide) eL5680) (by decide) eL5683) (by decide) eL5686) (by decide) eL5689) (by decide) eL5692) (by decide) eL5695) (by decide) eL5698) (by decide) eL5701) (by decide) eL5704) (by decide) eL5707) (by decide) eL5710) (by decide) eL5713) (by decide) eL5716) (by decide) eL5719) (by decide) eL5722) (by decide) eL5725) (by decide) eL5728) (by decide) eL5731) (by decide) eL5734) (by decide) eL5737)
def kM_Reader_init (M : gM) : gM := (kM_Tokens_init M)
def kL_Reader_init (L : gL) : gL := (kL_Tokens_init L)
def kR_Reader_init (R : gR) : gR := (uR (uR (uR (uR (kR_Tokens_init R) 3 0 (some 4)) 3 6 (some 9)) 3 7 (some 10)) 3 9 (some 11))
set_option maxHeartbeats 4000000 in
set_option maxRecDepth 20000 in
theorem t0_Reader_init {l : Launch} {M : gM} {L : gL} {R : gR} {Q : Option Value → gM → gL → gR → Prop} (hF : Fz 4 M L R) (hQ : ∀ (M' : gM) (L' : gL) (R' : gR), M' = kM_Reader_init M → L' = kL_Reader_init L → R' = kR_Reader_init R → Fz 12 M' L' R' → Q none M' L' R') : Tm l y_Reader_init (8, 1302, 12) 4 [.ref 3] M L R Q := by
  refine Tm.of (by decide) (Nat.le_of_ble_eq_true rfl) ?_
  show Wp l y_Reader_init (8, 1302, 12) 4 0 0 0 [(0, .ref 3)] [] M L R Q
  refine g_aload_n (pc1 := 1) d_Reader_init_0 rfl 0 rfl ?_
  refine g_objInit (pc1 := 4) d_Reader_init_1 rfl ml_Reader_3 mi_objectInit mc_objectInit (by decide) (Nat.le_of_ble_eq_true rfl) ?_
  refine g_aload_n (pc1 := 5) d_Reader_init_4 rfl 0 rfl ?_
  refine g_new (pc1 := 8) (T := T_Tokens) (ty := ty_Tokens) d_Reader_init_5 rfl rfl (fun w h => gtb_of (in_Tokens w h).1 (in_Tokens w h).2) tyk_Tokens (by decide) ck_Reader_9 cn_Tokens cz_Tokens sh_4 (fun i => (hF _ (Nat.le_refl _) i).1) (fun i => (hF _ (Nat.le_refl _) i).2.2) (Nat.le_of_ble_eq_true rfl) (Nat.le_of_ble_eq_true rfl) ?_
  refine g_dup (pc1 := 9) d_Reader_init_8 rfl rfl ?_
  refine g_callI (pc1 := 12) (E' := (4, 1224, 9)) (As := []) (rest := [.ref 4, .ref 3]) d_Reader_init_9 rfl mo_Reader_11 mi_Tokens_init rfl rfl (by decide) rfl rfl (Nat.le_of_ble_eq_true rfl) ⟨Nat.le_of_ble_eq_true rfl, Nat.le_of_ble_eq_true rfl⟩ rfl ?_
  refine t0_Tokens_init (Fz.up hF) (fun M5740 L5741 R5742 eM5740 eL5741 eR5742 F5743 => ?_)
  dsimp only
  refine g_putF (pc1 := 15) (v := .ref 4) (M' := M5740) (R' := uR R5742 3 0 (some 4)) d_Reader_init_12 rfl rfl ff_Reader_12 (fun _ => po_2_0 _) sh_3 (by decide) (fun _ => fvl_R_self) (fun _ q h => fvl_R_ne q h) (fun _ _ _ h => ent_neR h) ?_
  refine Wp.topR (fun R5744 eR5744 => ?_)
  refine g_aload_n (pc1 := 16) d_Reader_init_15 rfl 0 rfl ?_
  refine g_bipush (pc1 := 18) (v := 21) d_Reader_init_16 rfl (by decide) ?_
  refine g_newJ (pc1 := 20) d_Reader_init_18 rfl ca_long sh_9 (fun i => ((Fz.wR F5743 (by decide) eR5744) _ (Nat.le_refl _) i).2.1) (by decide) (by decide) (by decide) (Nat.le_of_ble_eq_true rfl) (Nat.le_of_ble_eq_true rfl) ?_
  refine g_putF (pc1 := 23) (v := .ref 9) (M' := M5740) (R' := uR R5744 3 6 (some 9)) d_Reader_init_20 rfl rfl ff_Reader_18 (fun _ => po_2_6 _) sh_3 (by decide) (fun _ => fvl_R_self) (fun _ q h => fvl_R_ne q h) (fun _ _ _ h => ent_neR h) ?_
  refine Wp.topR (fun R5745 eR5745 => ?_)
  refine g_aload_n (pc1 := 24) d_Reader_init_23 rfl 0 rfl ?_
  refine g_bipush (pc1 := 26) (v := 21) d_Reader_init_24 rfl (by decide) ?_
  refine g_newI (pc1 := 28) d_Reader_init_26 rfl ca_int sh_10 (fun i => ((Fz.wR (Fz.up (Fz.wR F5743 (by decide) eR5744)) (by decide) eR5745) _ (Nat.le_refl _) i).1) (by decide) (by decide) (by decide) (Nat.le_of_ble_eq_true rfl) (Nat.le_of_ble_eq_true rfl) ?_
  refine g_putF (pc1 := 31) (v := .ref 10) (M' := M5740) (R' := uR R5745 3 7 (some 10)) d_Reader_init_28 rfl rfl ff_Reader_22 (fun _ => po_2_7 _) sh_3 (by decide) (fun _ => fvl_R_self) (fun _ q h => fvl_R_ne q h) (fun _ _ _ h => ent_neR h) ?_
  refine Wp.topR (fun R5746 eR5746 => ?_)
  refine g_aload_n (pc1 := 32) d_Reader_init_31 rfl 0 rfl ?_
  refine g_bipush (pc1 := 34) (v := 32) d_Reader_init_32 rfl (by decide) ?_
  refine g_newI (pc1 := 36) d_Reader_init_34 rfl ca_int sh_11 (fun i => ((Fz.wR (Fz.up (Fz.wR (Fz.up (Fz.wR F5743 (by decide) eR5744)) (by decide) eR5745)) (by decide) eR5746) _ (Nat.le_refl _) i).1) (by decide) (by decide) (by decide) (Nat.le_of_ble_eq_true rfl) (Nat.le_of_ble_eq_true rfl) ?_
  refine g_putF (pc1 := 39) (v := .ref 11) (M' := M5740) (R' := uR R5746 3 9 (some 11)) d_Reader_init_36 rfl rfl ff_Reader_26 (fun _ => po_2_9 _) sh_3 (by decide) (fun _ => fvl_R_self) (fun _ q h => fvl_R_ne q h) (fun _ _ _ h => ent_neR h) ?_
  refine Wp.topR (fun R5747 eR5747 => ?_)
  refine g_return rfl d_Reader_init_39 rfl ?_
  exact hQ _ _ _ (by subst_vars; rfl) (by subst_vars; rfl) (by subst_vars; rfl) (Fz.wR (Fz.up (Fz.wR (Fz.up (Fz.wR (Fz.up (Fz.wR F5743 (by decide) eR5744)) (by decide) eR5745)) (by decide) eR5746)) (by decide) eR5747)
def kM_Main_init (M : gM) : gM := (uM (kM_MenuSearch_init (kM_PotSearch_init (kM_Told_init (kM_Slots_init (kM_Past_init (kM_State_init 71 (kM_State_init 64 (kM_Land_init 38 (kM_Land_init 12 (kM_Reader_init (kM_Tape_init M))))))))))) 0 11 (-1))
def kL_Main_init (L : gL) : gL := (kL_MenuSearch_init (kL_PotSearch_init (kL_Told_init (kL_Slots_init (kL_Past_init (kL_State_init 71 (kL_State_init 64 (kL_Land_init 38 (kL_Land_init 12 (kL_Reader_init (kL_Tape_init L)))))))))))
def kR_Main_init (R : gR) : gR := (uR (kR_MenuSearch_init (uR (kR_PotSearch_init (uR (kR_Told_init (uR (kR_Slots_init (uR (kR_Past_init (uR (kR_State_init 71 (uR (kR_State_init 64 (uR (kR_Land_init 38 (uR (kR_Land_init 12 (uR (kR_Reader_init (uR (kR_Tape_init R) 0 0 (some 1))) 0 1 (some 3))) 0 2 (some 12))) 0 3 (some 38))) 0 4 (some 64))) 0 5 (some 71))) 0 6 (some 78))) 0 7 (some 360))) 0 8 (some 383))) 0 9 (some 391))) 0 10 (some 396))
set_option maxHeartbeats 4000000 in
set_option maxRecDepth 20000 in
theorem t0_Main_init {l : Launch} {M : gM} {L : gL} {R : gR} {Q : Option Value → gM → gL → gR → Prop} (hF : Fz 1 M L R) (hQ : ∀ (M' : gM) (L' : gL) (R' : gR), M' = kM_Main_init M → L' = kL_Main_init L → R' = kR_Main_init R → Fz 401 M' L' R' → Q none M' L' R') : Tm l y_Main_init (400, 9728, 401) 1 [.ref 0] M L R Q := by
  refine Tm.of (by decide) (Nat.le_of_ble_eq_true rfl) ?_
  show Wp l y_Main_init (400, 9728, 401) 1 0 0 0 [(0, .ref 0)] [] M L R Q
  refine g_aload_n (pc1 := 1) d_Main_init_0 rfl 0 rfl ?_
  refine g_objInit (pc1 := 4) d_Main_init_1 rfl ml_Main_3 mi_objectInit mc_objectInit (by decide) (Nat.le_of_ble_eq_true rfl) ?_
  refine g_aload_n (pc1 := 5) d_Main_init_4 rfl 0 rfl ?_
  refine g_new (pc1 := 8) (T := T_Tape) (ty := ty_Tape) d_Main_init_5 rfl rfl (fun w h => gtb_of (in_Tape w h).1 (in_Tape w h).2) tyk_Tape (by decide) ck_Main_9 cn_Tape cz_Tape sh_1 (fun i => (hF _ (Nat.le_refl _) i).1) (fun i => (hF _ (Nat.le_refl _) i).2.2) (Nat.le_of_ble_eq_true rfl) (Nat.le_of_ble_eq_true rfl) ?_
  refine g_dup (pc1 := 9) d_Main_init_8 rfl rfl ?_
  refine g_callI (pc1 := 12) (E' := (1, 2000, 3)) (As := []) (rest := [.ref 1, .ref 0]) d_Main_init_9 rfl mo_Main_11 mi_Tape_init rfl rfl (by decide) rfl rfl (Nat.le_of_ble_eq_true rfl) ⟨Nat.le_of_ble_eq_true rfl, Nat.le_of_ble_eq_true rfl⟩ rfl ?_
  refine t0_Tape_init (Fz.up hF) (fun M5748 L5749 R5750 eM5748 eL5749 eR5750 F5751 => ?_)
  dsimp only
  refine g_putF (pc1 := 15) (v := .ref 1) (M' := M5748) (R' := uR R5750 0 0 (some 1)) d_Main_init_12 rfl rfl ff_Main_12 (fun _ => po_0_0 _) sh_0 (by decide) (fun _ => fvl_R_self) (fun _ q h => fvl_R_ne q h) (fun _ _ _ h => ent_neR h) ?_
  refine Wp.topR (fun R5752 eR5752 => ?_)
  refine g_aload_n (pc1 := 16) d_Main_init_15 rfl 0 rfl ?_
  refine g_new (pc1 := 19) (T := T_Reader) (ty := ty_Reader) d_Main_init_16 rfl rfl (fun w h => gtb_of (in_Reader w h).1 (in_Reader w h).2) tyk_Reader (by decide) ck_Main_16 cn_Reader cz_Reader sh_3 (fun i => ((Fz.wR F5751 (by decide) eR5752) _ (Nat.le_refl _) i).1) (fun i => ((Fz.wR F5751 (by decide) eR5752) _ (Nat.le_refl _) i).2.2) (Nat.le_of_ble_eq_true rfl) (Nat.le_of_ble_eq_true rfl) ?_
  refine g_dup (pc1 := 20) d_Main_init_19 rfl rfl ?_
  refine g_callI (pc1 := 23) (E' := (8, 1302, 12)) (As := []) (rest := [.ref 3, .ref 0]) d_Main_init_20 rfl mo_Main_18 mi_Reader_init rfl rfl (by decide) rfl rfl (Nat.le_of_ble_eq_true rfl) ⟨Nat.le_of_ble_eq_true rfl, Nat.le_of_ble_eq_true rfl⟩ rfl ?_
  refine t0_Reader_init (Fz.up (Fz.wR F5751 (by decide) eR5752)) (fun M5753 L5754 R5755 eM5753 eL5754 eR5755 F5756 => ?_)
  dsimp only
  refine g_putF (pc1 := 26) (v := .ref 3) (M' := M5753) (R' := uR R5755 0 1 (some 3)) d_Main_init_23 rfl rfl ff_Main_19 (fun _ => po_0_1 _) sh_0 (by decide) (fun _ => fvl_R_self) (fun _ q h => fvl_R_ne q h) (fun _ _ _ h => ent_neR h) ?_
  refine Wp.topR (fun R5757 eR5757 => ?_)
  refine g_aload_n (pc1 := 27) d_Main_init_26 rfl 0 rfl ?_
  refine g_new (pc1 := 30) (T := T_Land) (ty := ty_Land) d_Main_init_27 rfl rfl (fun w h => gtb_of (in_Land w h).1 (in_Land w h).2) tyk_Land (by decide) ck_Main_23 cn_Land cz_Land (shLa_0 (by decide : 12 ∈ lLa)) (fun i => ((Fz.wR F5756 (by decide) eR5757) _ (Nat.le_refl _) i).1) (fun i => ((Fz.wR F5756 (by decide) eR5757) _ (Nat.le_refl _) i).2.2) (Nat.le_of_ble_eq_true rfl) (Nat.le_of_ble_eq_true rfl) ?_
  refine g_dup (pc1 := 31) d_Main_init_30 rfl rfl ?_
  refine g_callI (pc1 := 34) (E' := (25, 1864, 38)) (As := []) (rest := [.ref 12, .ref 0]) d_Main_init_31 rfl mo_Main_25 mi_Land_init rfl rfl (by decide) rfl rfl (Nat.le_of_ble_eq_true rfl) ⟨Nat.le_of_ble_eq_true rfl, Nat.le_of_ble_eq_true rfl⟩ rfl ?_
  refine t0_Land_init 12 (by decide : 12 ∈ lLa) (Fz.up (Fz.wR F5756 (by decide) eR5757)) (fun M5758 L5759 R5760 eM5758 eL5759 eR5760 F5761 => ?_)
  dsimp only
  refine g_putr (pc1 := 37) d_Main_init_34 rfl fo_Main_26 (po_0_2) sh_0 (by decide) ?_
  refine Wp.topR (fun R5762 eR5762 => ?_)
  refine g_aload_n (pc1 := 38) d_Main_init_37 rfl 0 rfl ?_
  refine g_new (pc1 := 41) (T := T_Land) (ty := ty_Land) d_Main_init_38 rfl rfl (fun w h => gtb_of (in_Land w h).1 (in_Land w h).2) tyk_Land (by decide) ck_Main_23 cn_Land cz_Land (shLa_0 (by decide : 38 ∈ lLa)) (fun i => ((Fz.wR F5761 (by decide) eR5762) _ (Nat.le_refl _) i).1) (fun i => ((Fz.wR F5761 (by decide) eR5762) _ (Nat.le_refl _) i).2.2) (Nat.le_of_ble_eq_true rfl) (Nat.le_of_ble_eq_true rfl) ?_
  refine g_dup (pc1 := 42) d_Main_init_41 rfl rfl ?_
  refine g_callI (pc1 := 45) (E' := (25, 1864, 64)) (As := []) (rest := [.ref 38, .ref 0]) d_Main_init_42 rfl mo_Main_25 mi_Land_init rfl rfl (by decide) rfl rfl (Nat.le_of_ble_eq_true rfl) ⟨Nat.le_of_ble_eq_true rfl, Nat.le_of_ble_eq_true rfl⟩ rfl ?_
  refine t0_Land_init 38 (by decide : 38 ∈ lLa) (Fz.up (Fz.wR F5761 (by decide) eR5762)) (fun M5763 L5764 R5765 eM5763 eL5764 eR5765 F5766 => ?_)
  dsimp only
  refine g_putr (pc1 := 48) d_Main_init_45 rfl fo_Main_30 (po_0_3) sh_0 (by decide) ?_
  refine Wp.topR (fun R5767 eR5767 => ?_)
  refine g_aload_n (pc1 := 49) d_Main_init_48 rfl 0 rfl ?_
  refine g_new (pc1 := 52) (T := T_State) (ty := ty_State) d_Main_init_49 rfl rfl (fun w h => gtb_of (in_State w h).1 (in_State w h).2) tyk_State (by decide) ck_Main_33 cn_State cz_State (shSt_0 (by decide : 64 ∈ lSt)) (fun i => ((Fz.wR F5766 (by decide) eR5767) _ (Nat.le_refl _) i).1) (fun i => ((Fz.wR F5766 (by decide) eR5767) _ (Nat.le_refl _) i).2.2) (Nat.le_of_ble_eq_true rfl) (Nat.le_of_ble_eq_true rfl) ?_
  refine g_dup (pc1 := 53) d_Main_init_52 rfl rfl ?_
  refine g_callI (pc1 := 56) (E' := (6, 34, 71)) (As := []) (rest := [.ref 64, .ref 0]) d_Main_init_53 rfl mo_Main_35 mi_State_init rfl rfl (by decide) rfl rfl (Nat.le_of_ble_eq_true rfl) ⟨Nat.le_of_ble_eq_true rfl, Nat.le_of_ble_eq_true rfl⟩ rfl ?_
  refine t0_State_init 64 (by decide : 64 ∈ lSt) (Fz.up (Fz.wR F5766 (by decide) eR5767)) (fun M5768 L5769 R5770 eM5768 eL5769 eR5770 F5771 => ?_)
  dsimp only
  refine g_putF (pc1 := 59) (v := .ref 64) (M' := M5768) (R' := uR R5770 0 4 (some 64)) d_Main_init_56 rfl rfl ff_Main_36 (fun _ => po_0_4 _) sh_0 (by decide) (fun _ => fvl_R_self) (fun _ q h => fvl_R_ne q h) (fun _ _ _ h => ent_neR h) ?_
  refine Wp.topR (fun R5772 eR5772 => ?_)
  refine g_aload_n (pc1 := 60) d_Main_init_59 rfl 0 rfl ?_
  refine g_new (pc1 := 63) (T := T_State) (ty := ty_State) d_Main_init_60 rfl rfl (fun w h => gtb_of (in_State w h).1 (in_State w h).2) tyk_State (by decide) ck_Main_33 cn_State cz_State (shSt_0 (by decide : 71 ∈ lSt)) (fun i => ((Fz.wR F5771 (by decide) eR5772) _ (Nat.le_refl _) i).1) (fun i => ((Fz.wR F5771 (by decide) eR5772) _ (Nat.le_refl _) i).2.2) (Nat.le_of_ble_eq_true rfl) (Nat.le_of_ble_eq_true rfl) ?_
  refine g_dup (pc1 := 64) d_Main_init_63 rfl rfl ?_
  refine g_callI (pc1 := 67) (E' := (6, 34, 78)) (As := []) (rest := [.ref 71, .ref 0]) d_Main_init_64 rfl mo_Main_35 mi_State_init rfl rfl (by decide) rfl rfl (Nat.le_of_ble_eq_true rfl) ⟨Nat.le_of_ble_eq_true rfl, Nat.le_of_ble_eq_true rfl⟩ rfl ?_
  refine t0_State_init 71 (by decide : 71 ∈ lSt) (Fz.up (Fz.wR F5771 (by decide) eR5772)) (fun M5773 L5774 R5775 eM5773 eL5774 eR5775 F5776 => ?_)
  dsimp only
  refine g_putF (pc1 := 70) (v := .ref 71) (M' := M5773) (R' := uR R5775 0 5 (some 71)) d_Main_init_67 rfl rfl ff_Main_40 (fun _ => po_0_5 _) sh_0 (by decide) (fun _ => fvl_R_self) (fun _ q h => fvl_R_ne q h) (fun _ _ _ h => ent_neR h) ?_
  refine Wp.topR (fun R5777 eR5777 => ?_)
  refine g_aload_n (pc1 := 71) d_Main_init_70 rfl 0 rfl ?_
  refine g_new (pc1 := 74) (T := T_Past) (ty := ty_Past) d_Main_init_71 rfl rfl (fun w h => gtb_of (in_Past w h).1 (in_Past w h).2) tyk_Past (by decide) ck_Main_43 cn_Past cz_Past sh_78 (fun i => ((Fz.wR F5776 (by decide) eR5777) _ (Nat.le_refl _) i).1) (fun i => ((Fz.wR F5776 (by decide) eR5777) _ (Nat.le_refl _) i).2.2) (Nat.le_of_ble_eq_true rfl) (Nat.le_of_ble_eq_true rfl) ?_
  refine g_dup (pc1 := 75) d_Main_init_74 rfl rfl ?_
  refine g_callI (pc1 := 78) (E' := (281, 1800, 360)) (As := []) (rest := [.ref 78, .ref 0]) d_Main_init_75 rfl mo_Main_45 mi_Past_init rfl rfl (by decide) rfl rfl (Nat.le_of_ble_eq_true rfl) ⟨Nat.le_of_ble_eq_true rfl, Nat.le_of_ble_eq_true rfl⟩ rfl ?_
  refine t0_Past_init (Fz.up (Fz.wR F5776 (by decide) eR5777)) (fun M5778 L5779 R5780 eM5778 eL5779 eR5780 F5781 => ?_)
  dsimp only
  refine g_putF (pc1 := 81) (v := .ref 78) (M' := M5778) (R' := uR R5780 0 6 (some 78)) d_Main_init_78 rfl rfl ff_Main_46 (fun _ => po_0_6 _) sh_0 (by decide) (fun _ => fvl_R_self) (fun _ q h => fvl_R_ne q h) (fun _ _ _ h => ent_neR h) ?_
  refine Wp.topR (fun R5782 eR5782 => ?_)
  refine g_aload_n (pc1 := 82) d_Main_init_81 rfl 0 rfl ?_
  refine g_new (pc1 := 85) (T := T_Slots) (ty := ty_Slots) d_Main_init_82 rfl rfl (fun w h => gtb_of (in_Slots w h).1 (in_Slots w h).2) tyk_Slots (by decide) ck_Main_50 cn_Slots cz_Slots sh_360 (fun i => ((Fz.wR F5781 (by decide) eR5782) _ (Nat.le_refl _) i).1) (fun i => ((Fz.wR F5781 (by decide) eR5782) _ (Nat.le_refl _) i).2.2) (Nat.le_of_ble_eq_true rfl) (Nat.le_of_ble_eq_true rfl) ?_
  refine g_dup (pc1 := 86) d_Main_init_85 rfl rfl ?_
  refine g_callI (pc1 := 89) (E' := (22, 135, 383)) (As := []) (rest := [.ref 360, .ref 0]) d_Main_init_86 rfl mo_Main_52 mi_Slots_init rfl rfl (by decide) rfl rfl (Nat.le_of_ble_eq_true rfl) ⟨Nat.le_of_ble_eq_true rfl, Nat.le_of_ble_eq_true rfl⟩ rfl ?_
  refine t0_Slots_init (Fz.up (Fz.wR F5781 (by decide) eR5782)) (fun M5783 L5784 R5785 eM5783 eL5784 eR5785 F5786 => ?_)
  dsimp only
  refine g_putF (pc1 := 92) (v := .ref 360) (M' := M5783) (R' := uR R5785 0 7 (some 360)) d_Main_init_89 rfl rfl ff_Main_53 (fun _ => po_0_7 _) sh_0 (by decide) (fun _ => fvl_R_self) (fun _ q h => fvl_R_ne q h) (fun _ _ _ h => ent_neR h) ?_
  refine Wp.topR (fun R5787 eR5787 => ?_)
  refine g_aload_n (pc1 := 93) d_Main_init_92 rfl 0 rfl ?_
  refine g_new (pc1 := 96) (T := T_Told) (ty := ty_Told) d_Main_init_93 rfl rfl (fun w h => gtb_of (in_Told w h).1 (in_Told w h).2) tyk_Told (by decide) ck_Main_57 cn_Told cz_Told sh_383 (fun i => ((Fz.wR F5786 (by decide) eR5787) _ (Nat.le_refl _) i).1) (fun i => ((Fz.wR F5786 (by decide) eR5787) _ (Nat.le_refl _) i).2.2) (Nat.le_of_ble_eq_true rfl) (Nat.le_of_ble_eq_true rfl) ?_
  refine g_dup (pc1 := 97) d_Main_init_96 rfl rfl ?_
  refine g_callI (pc1 := 100) (E' := (7, 485, 391)) (As := []) (rest := [.ref 383, .ref 0]) d_Main_init_97 rfl mo_Main_59 mi_Told_init rfl rfl (by decide) rfl rfl (Nat.le_of_ble_eq_true rfl) ⟨Nat.le_of_ble_eq_true rfl, Nat.le_of_ble_eq_true rfl⟩ rfl ?_
  refine t0_Told_init (Fz.up (Fz.wR F5786 (by decide) eR5787)) (fun M5788 L5789 R5790 eM5788 eL5789 eR5790 F5791 => ?_)
  dsimp only
  refine g_putF (pc1 := 103) (v := .ref 383) (M' := M5788) (R' := uR R5790 0 8 (some 383)) d_Main_init_100 rfl rfl ff_Main_60 (fun _ => po_0_8 _) sh_0 (by decide) (fun _ => fvl_R_self) (fun _ q h => fvl_R_ne q h) (fun _ _ _ h => ent_neR h) ?_
  refine Wp.topR (fun R5792 eR5792 => ?_)
  refine g_aload_n (pc1 := 104) d_Main_init_103 rfl 0 rfl ?_
  refine g_new (pc1 := 107) (T := T_PotSearch) (ty := ty_PotSearch) d_Main_init_104 rfl rfl (fun w h => gtb_of (in_PotSearch w h).1 (in_PotSearch w h).2) tyk_PotSearch (by decide) ck_Main_64 cn_PotSearch cz_PotSearch sh_391 (fun i => ((Fz.wR F5791 (by decide) eR5792) _ (Nat.le_refl _) i).1) (fun i => ((Fz.wR F5791 (by decide) eR5792) _ (Nat.le_refl _) i).2.2) (Nat.le_of_ble_eq_true rfl) (Nat.le_of_ble_eq_true rfl) ?_
  refine g_dup (pc1 := 108) d_Main_init_107 rfl rfl ?_
  refine g_callI (pc1 := 111) (E' := (4, 18, 396)) (As := []) (rest := [.ref 391, .ref 0]) d_Main_init_108 rfl mo_Main_66 mi_PotSearch_init rfl rfl (by decide) rfl rfl (Nat.le_of_ble_eq_true rfl) ⟨Nat.le_of_ble_eq_true rfl, Nat.le_of_ble_eq_true rfl⟩ rfl ?_
  refine t0_PotSearch_init (Fz.up (Fz.wR F5791 (by decide) eR5792)) (fun M5793 L5794 R5795 eM5793 eL5794 eR5795 F5796 => ?_)
  dsimp only
  refine g_putF (pc1 := 114) (v := .ref 391) (M' := M5793) (R' := uR R5795 0 9 (some 391)) d_Main_init_111 rfl rfl ff_Main_67 (fun _ => po_0_9 _) sh_0 (by decide) (fun _ => fvl_R_self) (fun _ q h => fvl_R_ne q h) (fun _ _ _ h => ent_neR h) ?_
  refine Wp.topR (fun R5797 eR5797 => ?_)
  refine g_aload_n (pc1 := 115) d_Main_init_114 rfl 0 rfl ?_
  refine g_new (pc1 := 118) (T := T_MenuSearch) (ty := ty_MenuSearch) d_Main_init_115 rfl rfl (fun w h => gtb_of (in_MenuSearch w h).1 (in_MenuSearch w h).2) tyk_MenuSearch (by decide) ck_Main_71 cn_MenuSearch cz_MenuSearch sh_396 (fun i => ((Fz.wR F5796 (by decide) eR5797) _ (Nat.le_refl _) i).1) (fun i => ((Fz.wR F5796 (by decide) eR5797) _ (Nat.le_refl _) i).2.2) (Nat.le_of_ble_eq_true rfl) (Nat.le_of_ble_eq_true rfl) ?_
  refine g_dup (pc1 := 119) d_Main_init_118 rfl rfl ?_
  refine g_callI (pc1 := 122) (E' := (4, 92, 401)) (As := []) (rest := [.ref 396, .ref 0]) d_Main_init_119 rfl mo_Main_73 mi_MenuSearch_init rfl rfl (by decide) rfl rfl (Nat.le_of_ble_eq_true rfl) ⟨Nat.le_of_ble_eq_true rfl, Nat.le_of_ble_eq_true rfl⟩ rfl ?_
  refine t0_MenuSearch_init (Fz.up (Fz.wR F5796 (by decide) eR5797)) (fun M5798 L5799 R5800 eM5798 eL5799 eR5800 F5801 => ?_)
  dsimp only
  refine g_putF (pc1 := 125) (v := .ref 396) (M' := M5798) (R' := uR R5800 0 10 (some 396)) d_Main_init_122 rfl rfl ff_Main_74 (fun _ => po_0_10 _) sh_0 (by decide) (fun _ => fvl_R_self) (fun _ q h => fvl_R_ne q h) (fun _ _ _ h => ent_neR h) ?_
  refine Wp.topR (fun R5802 eR5802 => ?_)
  refine g_aload_n (pc1 := 126) d_Main_init_125 rfl 0 rfl ?_
  refine g_iconst (pc1 := 127) (v := (-1)) d_Main_init_126 rfl (by decide) ?_
  refine g_puti (pc1 := 130) d_Main_init_127 rfl fo_Main_78 (po_0_11 _) sh_0 (by decide) ?_
  refine Wp.topM (fun M5803 eM5803 => ?_)
  refine g_return rfl d_Main_init_130 rfl ?_
  exact hQ _ _ _ (by subst_vars; rfl) (by subst_vars; rfl) (by subst_vars; rfl) (Fz.wM (Fz.wR F5801 (by decide) eR5802) (by decide) eM5803)
