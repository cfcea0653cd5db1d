section MG16x0
/-! frames of the forces, finer -/
section PAR43
def C9 (c j : Nat) : Bool := C0 c j && !(c == 37 || c == 63)
theorem C9_C0 : ∀ c j, C9 c j = true → C0 c j = true := fun c j h => by
  unfold C9 at h
  exact ((Bool.and_eq_true _ _).mp h).1
theorem C9_Lw_3 {x : Nat} (h : isLw x) (j : Nat) : C9 (x + 3) j = true := by
  unfold C9
  rw [C0_Lw_3 h j, (by decide +kernel : ∀ x ∈ lLw, (x + 3 == 37 || x + 3 == 63) = false) x h]
  rfl
theorem C9_25 {x j : Nat} (h : isLa x) : C9 (x + 25) j = false := by
  unfold C9
  rw [(by decide +kernel : ∀ x ∈ lLa, (x + 25 == 37 || x + 25 == 63) = true) x h, Bool.not_true, Bool.and_false]
theorem tz_let {W j : Nat} {x : Int32} {M : gM} (hj : j < 9) (hC : C9 (W + 2) j = true) : ∃ M' , F_Law_let W (nI j) x M = some M' ∧ Kl C9 M zL M' zL := ⟨_, let_e hj, Kl.wM Kl.rf hC rfl⟩
set_option maxHeartbeats 4000000 in
set_option maxRecDepth 20000 in
theorem tz_Law_value {Wl0 : Nat} {M : gM} (hWl0 : isLw Wl0) : ∃ r M', F_Law_value Wl0 M = some (r, M') ∧ True ∧ Kl C9 M zL M' zL := by
  refine Ok.x2 (A := fun (r : Int32) (M' : gM) => True ∧ Kl C9 M zL M' zL) ?_
  unfold F_Law_value
  have LP81 : ∀ (f78 : Nat) (v82 : Int32) (v83 : Int32) (v84 : Int32) (M85 : gM), Kl C9 M zL M85 zL → ¬ v84 < 0 → ((400 : Int32).toInt - v84.toInt).toNat < f78 → Ok (H_Law_value_6 Wl0 f78 v82 v83 v84 M85) (fun q => True ∧ Kl C9 M zL q.2 zL) := by
    intro f78
    induction f78 with
    | zero => intro v82 v83 v84 M85 _ _ hm80; exact absurd hm80 (Nat.not_lt_zero _)
    | succ f78 ih79 =>
      intro v82 v83 v84 M85 k86 n87 hm80
      show Ok (B_Law_value_6 Wl0 (H_Law_value_6 Wl0 f78) v82 v83 v84 M85) _
      unfold B_Law_value_6
      refine Ok.ite (fun h88 => ?_) (fun h88 => ?_)
      · unfold J_Law_value_232
        refine Ok.c1 (tf_Main_at (by decide)) (fun r89 _ => ?_)
        exact ⟨_, rfl, trivial, k86⟩
      · refine Ok.ite (fun h90 => ?_) (fun h90 => ?_)
        · unfold J_Law_value_232
          refine Ok.c1 (tf_Main_at (by decide)) (fun r91 _ => ?_)
          exact ⟨_, rfl, trivial, k86⟩
        · refine Ok.ite (fun h92 => ?_) (fun h92 => ?_)
          · unfold J_Law_value_232
            refine Ok.c1 (tf_Main_at (by decide)) (fun r93 _ => ?_)
            exact ⟨_, rfl, trivial, k86⟩
          · refine Ok.ite (fun h94 => ?_) (fun h94 => ?_)
            · unfold J_Law_value_232
              refine Ok.c1 (tf_Main_at (by decide)) (fun r95 _ => ?_)
              exact ⟨_, rfl, trivial, k86⟩
            · refine Ok.gd (vin_of h90 h94 (by decide)) ?_
              refine Ok.nmI (fun x96 ex96 => ?_)
              refine Ok.nmI (fun x97 ex97 => ?_)
              refine Ok.ite (fun h98 => ?_) (fun h98 => ?_)
              · unfold J_Law_value_53
                unfold J_Law_value_232
                refine Ok.c1 (tf_Main_at (by decide)) (fun r99 _ => ?_)
                exact ⟨_, rfl, trivial, k86⟩
              · refine Ok.ite (fun h100 => ?_) (fun h100 => ?_)
                · refine Ok.ite (fun h101 => ?_) (fun h101 => ?_)
                  · exact ⟨_, rfl, trivial, k86⟩
                  · refine Ok.ite (fun h102 => ?_) (fun h102 => ?_)
                    · refine Ok.gd (vin_s2 h101 h102) ?_
                      refine Ok.nmI (fun x103 ex103 => ?_)
                      refine Ok.gd (vin_s1 h101 h102) ?_
                      refine Ok.nmI (fun x104 ex104 => ?_)
                      refine Ok.nmI (fun x105 ex105 => ?_)
                      refine Ok.ite (fun h106 => ?_) (fun h106 => ?_)
                      · refine Ok.ite (fun h107 => ?_) (fun h107 => ?_)
                        · refine Ok.c1 (tf_Main_at (by decide)) (fun r108 _ => ?_)
                          unfold J_Law_value_185
                          unfold J_Law_value_226
                          refine Ok.nmI (fun x109 ex109 => ?_)
                          exact ih79 x105 r108 x109 M85 k86 (nn_up (y := (400 : Int32)) h88 ex109 n87) (md_up h88 ex109 hm80)
                        · unfold J_Law_value_185
                          unfold J_Law_value_226
                          refine Ok.nmI (fun x110 ex110 => ?_)
                          exact ih79 x105 (x97 + 1) x110 M85 k86 (nn_up (y := (400 : Int32)) h88 ex110 n87) (md_up h88 ex110 hm80)
                      · refine Ok.ite (fun h111 => ?_) (fun h111 => ?_)
                        · refine Ok.ite (fun h112 => ?_) (fun h112 => ?_)
                          · exact ⟨_, rfl, trivial, k86⟩
                          · unfold J_Law_value_204
                            refine Ok.c1 (tf_Law_reckon ) (fun r113 _ => ?_)
                            refine Ok.gd (by rw [ex105]; exact vin_a2 h101 h102) ?_
                            refine Ok.nmM (fun M114 eM114 => ?_)
                            refine Ok.nmI (fun x115 ex115 => ?_)
                            unfold J_Law_value_226
                            refine Ok.nmI (fun x116 ex116 => ?_)
                            exact ih79 x115 x97 x116 M114 (Kl.wM k86 (C9_Lw_3 hWl0 _) eM114) (nn_up (y := (400 : Int32)) h88 ex116 n87) (md_up h88 ex116 hm80)
                        · unfold J_Law_value_204
                          refine Ok.c1 (tf_Law_reckon ) (fun r117 _ => ?_)
                          refine Ok.gd (by rw [ex105]; exact vin_a2 h101 h102) ?_
                          refine Ok.nmM (fun M118 eM118 => ?_)
                          refine Ok.nmI (fun x119 ex119 => ?_)
                          unfold J_Law_value_226
                          refine Ok.nmI (fun x120 ex120 => ?_)
                          exact ih79 x119 x97 x120 M118 (Kl.wM k86 (C9_Lw_3 hWl0 _) eM118) (nn_up (y := (400 : Int32)) h88 ex120 n87) (md_up h88 ex120 hm80)
                    · exact ⟨_, rfl, trivial, k86⟩
                · refine Ok.ite (fun h121 => ?_) (fun h121 => ?_)
                  · exact ⟨_, rfl, trivial, k86⟩
                  · refine Ok.ite (fun h122 => ?_) (fun h122 => ?_)
                    · refine Ok.ite (fun h123 => ?_) (fun h123 => ?_)
                      · refine Ok.c1 (tf_Main_at (by decide)) (fun r124 _ => ?_)
                        unfold J_Law_value_110
                        refine Ok.gd (vin_of h121 (fun q => i_nl q h122) (by decide)) ?_
                        refine Ok.nmM (fun M125 eM125 => ?_)
                        refine Ok.nmI (fun x126 ex126 => ?_)
                        unfold J_Law_value_226
                        refine Ok.nmI (fun x127 ex127 => ?_)
                        exact ih79 x126 x97 x127 M125 (Kl.wM k86 (C9_Lw_3 hWl0 _) eM125) (nn_up (y := (400 : Int32)) h88 ex127 n87) (md_up h88 ex127 hm80)
                      · unfold J_Law_value_110
                        refine Ok.gd (vin_of h121 (fun q => i_nl q h122) (by decide)) ?_
                        refine Ok.nmM (fun M128 eM128 => ?_)
                        refine Ok.nmI (fun x129 ex129 => ?_)
                        unfold J_Law_value_226
                        refine Ok.nmI (fun x130 ex130 => ?_)
                        exact ih79 x129 x97 x130 M128 (Kl.wM k86 (C9_Lw_3 hWl0 _) eM128) (nn_up (y := (400 : Int32)) h88 ex130 n87) (md_up h88 ex130 hm80)
                    · exact ⟨_, rfl, trivial, k86⟩
  exact LP81 _ 0 0 0 M Kl.rf (by decide) fu_up
set_option maxHeartbeats 4000000 in
set_option maxRecDepth 20000 in
theorem tz_Land_potForce {Ld0 : Nat} {p1 : Int32} {p2 : Int32} {p3 : Int32} {p4 : Int32} {p5 : Int32} {M : gM} (hLd0 : isLa Ld0) : ∃ r M', F_Land_potForce Ld0 p1 p2 p3 p4 p5 M = some (r, M') ∧ True ∧ Kl C9 M zL M' zL := by
  refine Ok.x2 (A := fun (r : Int32) (M' : gM) => True ∧ Kl C9 M zL M' zL) ?_
  unfold F_Land_potForce
  refine Ok.c1 (tf_Law_isTold (isLw_9 hLd0)) (fun r345 hbr345 => ?_)
  refine Ok.ite (fun h346 => ?_) (fun h346 => ?_)
  · refine Ok.c1 (tf_Main_within ) (fun r347 _ => ?_)
    exact ⟨_, rfl, trivial, Kl.rf⟩
  · refine Ok.c1 (tz_let (W := Ld0 + 9) (j := 0) (by decide) ((by decide +kernel : ∀ x ∈ lLa, C9 (x + 9 + 2) 0 = true) _ hLd0)) (fun M348 k349 => ?_)
    refine Ok.c1 (tz_let (W := Ld0 + 9) (j := 1) (by decide) ((by decide +kernel : ∀ x ∈ lLa, C9 (x + 9 + 2) 1 = true) _ hLd0)) (fun M350 k351 => ?_)
    refine Ok.c1 (tz_let (W := Ld0 + 9) (j := 2) (by decide) ((by decide +kernel : ∀ x ∈ lLa, C9 (x + 9 + 2) 2 = true) _ hLd0)) (fun M352 k353 => ?_)
    refine Ok.c1 (tz_let (W := Ld0 + 9) (j := 3) (by decide) ((by decide +kernel : ∀ x ∈ lLa, C9 (x + 9 + 2) 3 = true) _ hLd0)) (fun M354 k355 => ?_)
    refine Ok.c1 (tz_let (W := Ld0 + 9) (j := 4) (by decide) ((by decide +kernel : ∀ x ∈ lLa, C9 (x + 9 + 2) 4 = true) _ hLd0)) (fun M356 k357 => ?_)
    refine Ok.c2 (tz_Law_value (isLw_9 hLd0)) (fun r358 M359 ⟨_, k360⟩ => ?_)
    refine Ok.c1 (tf_Main_within ) (fun r361 _ => ?_)
    exact ⟨_, rfl, trivial, (Kl.trans (Kl.trans (Kl.trans (Kl.trans (Kl.trans (Kl.trans Kl.rf k349) k351) k353) k355) k357) k360)⟩
set_option maxHeartbeats 4000000 in
set_option maxRecDepth 20000 in
theorem tz_Land_dishForce {Ld0 : Nat} {p1 : Int32} {p2 : Int32} {p3 : Int32} {p4 : Int32} {M : gM} (hLd0 : isLa Ld0) : ∃ r M', F_Land_dishForce Ld0 p1 p2 p3 p4 M = some (r, M') ∧ True ∧ Kl C9 M zL M' zL := by
  refine Ok.x2 (A := fun (r : Int32) (M' : gM) => True ∧ Kl C9 M zL M' zL) ?_
  unfold F_Land_dishForce
  refine Ok.c1 (tf_Land_sumOf hLd0) (fun r464 _ => ?_)
  refine Ok.c1 (tf_Land_manyIn hLd0) (fun r465 _ => ?_)
  refine Ok.ite (fun h466 => ?_) (fun h466 => ?_)
  · unfold J_Land_dishForce_33
    refine Ok.c1 (tf_Main_at (by decide)) (fun r467 _ => ?_)
    refine Ok.c2 (tz_Land_potForce hLd0) (fun r468 M469 ⟨_, k470⟩ => ?_)
    exact ⟨_, rfl, trivial, (Kl.trans Kl.rf k470)⟩
  · refine Ok.c1 (tf_Land_broughtBy hLd0) (fun r471 _ => ?_)
    refine Ok.nmI (fun x472 ex472 => ?_)
    refine Ok.nmI (fun x473 ex473 => ?_)
    unfold J_Land_dishForce_33
    refine Ok.c1 (tf_Main_at (by decide)) (fun r474 _ => ?_)
    refine Ok.c2 (tz_Land_potForce hLd0) (fun r475 M476 ⟨_, k477⟩ => ?_)
    exact ⟨_, rfl, trivial, (Kl.trans Kl.rf k477)⟩
set_option maxHeartbeats 4000000 in
set_option maxRecDepth 20000 in
theorem tz_Land_boundBy {Ld0 : Nat} {p1 : Int32} {p2 : Int32} {p3 : Int32} {p4 : Int32} {p5 : Int32} {M : gM} (hLd0 : isLa Ld0) : ∃ r M', F_Land_boundBy Ld0 p1 p2 p3 p4 p5 M = some (r, M') ∧ True ∧ Kl C9 M zL M' zL := by
  refine Ok.x2 (A := fun (r : Int32) (M' : gM) => True ∧ Kl C9 M zL M' zL) ?_
  unfold F_Land_boundBy
  refine Ok.c1 (tf_Law_isTold (isLw_13 hLd0)) (fun r301 hbr301 => ?_)
  refine Ok.ite (fun h302 => ?_) (fun h302 => ?_)
  · refine Ok.c1 (tf_Main_within ) (fun r303 _ => ?_)
    exact ⟨_, rfl, trivial, Kl.rf⟩
  · refine Ok.c1 (tz_let (W := Ld0 + 13) (j := 0) (by decide) ((by decide +kernel : ∀ x ∈ lLa, C9 (x + 13 + 2) 0 = true) _ hLd0)) (fun M304 k305 => ?_)
    refine Ok.c1 (tz_let (W := Ld0 + 13) (j := 2) (by decide) ((by decide +kernel : ∀ x ∈ lLa, C9 (x + 13 + 2) 2 = true) _ hLd0)) (fun M306 k307 => ?_)
    refine Ok.c1 (tf_Main_at (by decide)) (fun r308 _ => ?_)
    refine Ok.c1 (tz_let (W := Ld0 + 13) (j := 5) (by decide) ((by decide +kernel : ∀ x ∈ lLa, C9 (x + 13 + 2) 5 = true) _ hLd0)) (fun M309 k310 => ?_)
    refine Ok.c1 (tz_let (W := Ld0 + 13) (j := 6) (by decide) ((by decide +kernel : ∀ x ∈ lLa, C9 (x + 13 + 2) 6 = true) _ hLd0)) (fun M311 k312 => ?_)
    refine Ok.c1 (tz_let (W := Ld0 + 13) (j := 4) (by decide) ((by decide +kernel : ∀ x ∈ lLa, C9 (x + 13 + 2) 4 = true) _ hLd0)) (fun M313 k314 => ?_)
    refine Ok.c2 (tz_Law_value (isLw_13 hLd0)) (fun r315 M316 ⟨_, k317⟩ => ?_)
    refine Ok.c1 (tf_Main_within ) (fun r318 _ => ?_)
    exact ⟨_, rfl, trivial, (Kl.trans (Kl.trans (Kl.trans (Kl.trans (Kl.trans (Kl.trans Kl.rf k305) k307) k310) k312) k314) k317)⟩
end PAR43
end MG16x0
section MG16x1
/-! freest, supper, feud: what a dish would set free -/
section PAR44
section FB
variable {D Q q ld lv nf nd ng ne : Nat} {M M' M1 Mc : gM} {L : gL} {r : Nat → Int32}
theorem c_dishForce9 (h : Lnd ld lv nf nd ng ne M) {d j : Nat} {day : Int32} (hd : d < nd) (hj : j < 3) : ∃ M', F_Land_dishForce ld (nI d) (-2) (nI j) day M = some (disS M lv nf d none j day, M') ∧ Kl C9 M zL M' zL := by
  obtain ⟨X, y1, _⟩ := c_dishForce h (d := d) (j := j) (more := none) (day := day) hd hj (fun f w => by cases w)
  obtain ⟨_, X', z1, -, z2⟩ := tz_Land_dishForce (p1 := nI d) (p2 := -2) (p3 := nI j) (p4 := day) (M := M) h.la
  have e := (Prod.mk.inj (Option.some.inj (z1.symm.trans (show F_Land_dishForce ld (nI d) (-2) (nI j) day M = _ from y1)))).2
  exact ⟨X, y1, by rw [← e]; exact z2⟩
theorem c_boundBy9 (h : Lnd ld lv nf nd ng ne M) {g : Nat} {kind ate ago day : Int32} (hg : g < ng) : ∃ M', F_Land_boundBy ld (nI g) kind ate ago day M = some (bndS M lv g kind ate ago day, M') ∧ Kl C9 M zL M' zL := by
  obtain ⟨X, y1, _⟩ := c_boundBy h (g := g) (kind := kind) (ate := ate) (ago := ago) (day := day) hg
  obtain ⟨_, X', z1, -, z2⟩ := tz_Land_boundBy (p1 := nI g) (p2 := kind) (p3 := ate) (p4 := ago) (p5 := day) (M := M) h.la
  have e := (Prod.mk.inj (Option.some.inj (z1.symm.trans y1))).2
  exact ⟨X, y1, by rw [← e]; exact z2⟩
/-- a guest who has just eaten a dish: by how much bound -/
def eatB (M : gM) (lv nf g d : Nat) (day : Int32) (j : Nat) : Int32 := bndS M lv g (nI j) (disS M lv nf d none j day) 0 day
theorem eatB_k (e : ∀ c j, 411 ≤ c → c ≤ 432 → M' c j = M c j) {g d j : Nat} {day : Int32} : eatB M' lv nf g d day j = eatB M lv nf g d day j := by
  unfold eatB; rw [bndS_k e, disS_k e]
theorem k9_25 (hla : isLa ld) (k : Kl C9 M zL M' zL) {j : Nat} : M' (ld + 25) j = M (ld + 25) j := k.m (C9_25 hla)
/-- first loop: the forces into the row -/
theorem fb1 (hL : Lnd ld lv nf nd ng ne M) {g d : Nat} {day v4 : Int32} (hd : d < nd) : ∀ (s k f : Nat) (N : gM), k + s = 3 → Kl C0 M zL N zL → (∀ j, j < k → N (ld + 25) j = disS M lv nf d none j day) →
    ∃ N', H_Land_freeByDish_3 ld (nI g) (nI d) day v4 (f + 1 + s) (nI k) N = J_Land_freeByDish_34 ld (nI g) day v4 N' ∧ Kl C0 M zL N' zL ∧ (∀ j, j < 3 → N' (ld + 25) j = disS M lv nf d none j day) := by
  intro s
  induction s with
  | zero =>
    intro k f N hk kN e
    obtain rfl : k = 3 := by omega
    refine ⟨N, ?_, kN, e⟩
    show B_Land_freeByDish_3 ld (nI g) (nI d) day v4 (H_Land_freeByDish_3 ld (nI g) (nI d) day v4 f) (nI 3) N = _
    unfold B_Land_freeByDish_3
    rw [if_pos (by decide)]
  | succ s ih =>
    intro k f N hk kN e
    have hN := hL.k0 kN
    obtain ⟨X, y1, y2⟩ := c_dishForce9 hN (d := d) (j := k) (day := day) hd (by omega)
    rw [disS_k (k0_M kN)] at y1
    have kX : Kl C0 M zL (uM X (ld + 25) k (disS M lv nf d none k day)) zL := Kl.wM (kN.trans (y2.mono C9_C0)) (C0_La_25 hL.la k) rfl
    obtain ⟨N', z1, z2, z3⟩ := ih (k + 1) f (uM X (ld + 25) k (disS M lv nf d none k day)) (by omega) kX (fun j hj => by
      by_cases w : j = k
      · rw [w, uM_same]
      · rw [uM_diff (by omega), k9_25 hL.la y2]; exact e j (by omega))
    refine ⟨N', ?_, z2, z3⟩
    rw [← z1]
    show B_Land_freeByDish_3 ld (nI g) (nI d) day v4 (H_Land_freeByDish_3 ld (nI g) (nI d) day v4 (f + 1 + s)) (nI k) N = _
    unfold B_Land_freeByDish_3
    rw [show (3 : Int32) = nI 3 from rfl, if_neg (by rw [nI_leI (by omega) (by omega)]; omega), y1, bI2_s, s_put (by omega) (by decide), bI_s, nmI_e, nI_1]
theorem c_freeBehind (hL : Lnd ld lv nf nd ng ne M) {g d : Nat} (hg : g < ng) (hd : d < nd) : ∃ X, F_Main_freeBehind ld (nI g) (nI d) M = some (frS M lv (eatB M lv nf g d (M 64 0)) ne, X) ∧ Kl C0 M zL X zL := by
  obtain ⟨q, hq⟩ := FU_k (1 + 3) (by omega)
  obtain ⟨N, y1, y2, y3⟩ := fb1 hL (g := g) (d := d) (day := M 64 0) (v4 := 0) hd 3 0 q M (by omega) Kl.rf (fun j hj => absurd hj (Nat.not_lt_zero _))
  have c1 : F_Land_freeByDish ld (nI g) (nI d) (M 64 0) 0 M = J_Land_freeByDish_34 ld (nI g) (M 64 0) 0 N := by
    unfold F_Land_freeByDish
    rw [hq, ← Nat.add_assoc]
    exact y1
  have step : ∀ (N1 : gM) (f k : Nat) (acc : Int32), k < 3 → Kl C9 N zL N1 zL → ∃ N', H_Land_freeByDish_40 ld (nI g) (M 64 0) 0 (f + 1) acc (nI k) N1 = H_Land_freeByDish_40 ld (nI g) (M 64 0) 0 f (acc ||| frK M lv k (eatB M lv nf g d (M 64 0) k) ne) (nI (k + 1)) N' ∧ Kl C9 N zL N' zL := fun N1 f k acc hk k1 => by
    have kM1 := y2.trans (k1.mono C9_C0)
    have h1 := hL.k0 kM1
    obtain ⟨X, z1, z2⟩ := c_boundBy9 h1 (g := g) (kind := nI k) (ate := disS M lv nf d none k (M 64 0)) (ago := 0) (day := M 64 0 + 0) hg
    have hX := h1.k0 (z2.mono C9_C0)
    refine ⟨X, ?_, k1.trans z2⟩
    show B_Land_freeByDish_40 ld (nI g) (M 64 0) 0 (H_Land_freeByDish_40 ld (nI g) (M 64 0) 0 f) acc (nI k) N1 = _
    unfold B_Land_freeByDish_40
    rw [bndS_k (k0_M kM1), Int32.add_zero] at z1
    rw [show (3 : Int32) = nI 3 from rfl, if_neg (by rw [nI_leI (by omega) (by omega)]; omega), s_at (by omega) (by decide), bI_s, k9_25 hL.la k1, y3 k hk, Int32.add_zero, z1, bI2_s, c_freeUnder hX hk, bI_s, nmI_e, nmI_e, nI_1, frK_k (k0_M (kM1.trans (z2.mono C9_C0)))]
    rfl
  obtain ⟨q4, hq4⟩ := FU_k 4 (by omega)
  obtain ⟨N1, a1, k1⟩ := step N (q4 + 3) 0 0 (by decide) Kl.rf
  obtain ⟨N2, a2, k2⟩ := step N1 (q4 + 2) 1 (0 ||| frK M lv 0 (eatB M lv nf g d (M 64 0) 0) ne) (by decide) k1
  obtain ⟨N3, a3, k3⟩ := step N2 (q4 + 1) 2 (0 ||| frK M lv 0 (eatB M lv nf g d (M 64 0) 0) ne ||| frK M lv 1 (eatB M lv nf g d (M 64 0) 1) ne) (by decide) k2
  have c2 : J_Land_freeByDish_34 ld (nI g) (M 64 0) 0 N = some (frS M lv (eatB M lv nf g d (M 64 0)) ne, N3) := by
    unfold J_Land_freeByDish_34
    rw [hq4, show (H_Land_freeByDish_40 ld (nI g) (M 64 0) 0 (q4 + 4) 0 0 N) = H_Land_freeByDish_40 ld (nI g) (M 64 0) 0 (q4 + 3 + 1) 0 (nI 0) N from rfl, a1, a2, a3]
    show B_Land_freeByDish_40 ld (nI g) (M 64 0) 0 (H_Land_freeByDish_40 ld (nI g) (M 64 0) 0 q4) _ (nI 3) N3 = _
    unfold B_Land_freeByDish_40
    rw [if_pos (by decide), fr3 hL (b := eatB M lv nf g d (M 64 0)) ne (Nat.le_refl _)]
  refine ⟨N3, ?_, y2.trans (k3.mono C9_C0)⟩
  unfold F_Main_freeBehind
  rw [c1, c2, bI2_s]
def mEat (c j : Nat) : Prop := mQ c j ∧ ¬ (c = 401 ∧ j = 63)
theorem mEat_mQ : ∀ c j, mEat c j → mQ c j := fun _ _ h => h.1
theorem mV_mEat : ∀ c j, mV c j → mEat c j := fun c j h => ⟨mV_mQ c j h, by unfold mV at h; omega⟩
/-- the model's guest eats a dish -/
theorem m_eatsDish (h : Lnd ld lv nf nd ng ne M) {g d : Nat} (hg : g < 4) (hd : d < nd) (hday : ∃ day, day < 2 ^ 31 ∧ M 437 35 = nI day) : ∃ M', F_Mod_eatsDish (nI g) (nI d) M = some M' ∧ Eo mEat M M' ∧ ∀ j, j < 3 → bowS M' lv (M' 437) g j 0 = eatB M lv nf g d (M 437 35) j := by
  have h5 := h.nd5
  have h1 := h.l1
  unfold F_Mod_eatsDish
  rw [m_fillsPot h hd, bI_s]
  have f7 : Eo mEat M (fl M 438 0 6 (potD M lv nf d)) := fun c j w => fl_out (by unfold mEat mQ at w; omega)
  have hp7 : ∀ i, i < 6 → fl M 438 0 6 (potD M lv nf d) 438 i = potD M lv nf d i := fun i hi => by rw [fl_in (by omega), Nat.sub_zero]
  have r7 : ∀ k, fl M 438 0 6 (potD M lv nf d) 437 k = M 437 k := fun k => fl_out (by omega)
  generalize fl M 438 0 6 (potD M lv nf d) = N at f7 hp7 r7 ⊢
  rw [show (15 : Int32) = nI 15 from rfl, nI_add, if_neg (nI_in (by omega) (by omega)), nI_clamp (by omega), nmM_e, r7 35]
  have fA : Eo mEat M (uM N 437 (15 + g) (M 437 35)) := f7.u (by unfold mEat mQ; omega)
  have pA : ∀ i, i < 6 → uM N 437 (15 + g) (M 437 35) 438 i = potD M lv nf d i := fun i hi => by rw [uM_diff (by omega)]; exact hp7 i hi
  have rA : uM N 437 (15 + g) (M 437 35) 437 35 = M 437 35 := by rw [uM_diff (by omega)]; exact r7 35
  have rB : uM N 437 (15 + g) (M 437 35) 437 (15 + g) = M 437 35 := uM_same
  generalize uM N 437 (15 + g) (M 437 35) = A at fA pA rA rB ⊢
  have key : ∀ (s k f : Nat) (N : gM), k + s = 3 → Eo mEat M N → (∀ i, i < 6 → N 438 i = potD M lv nf d i) → N 437 35 = M 437 35 → N 437 (15 + g) = M 437 35 → (∀ j, j < k → N 437 (19 + 3 * g + j) = disS M lv nf d none j (M 437 35)) → ∃ N', H_Mod_eatsDish_23 (nI g) (nI d) (f + 1 + s) (nI k) N = some N' ∧ Eo mEat M N' ∧ N' 437 35 = M 437 35 ∧ N' 437 (15 + g) = M 437 35 ∧ (∀ j, j < 3 → N' 437 (19 + 3 * g + j) = disS M lv nf d none j (M 437 35)) := by
    intro s
    induction s with
    | zero =>
      intro k f N hk a1 a2 a3 a4 a5
      obtain rfl : k = 3 := by omega
      refine ⟨N, ?_, a1, a3, a4, a5⟩
      show B_Mod_eatsDish_23 (nI g) (nI d) (H_Mod_eatsDish_23 (nI g) (nI d) f) (nI 3) N = _
      unfold B_Mod_eatsDish_23
      rw [if_pos (by decide)]
    | succ s ih =>
      intro k f N hk a1 a2 a3 a4 a5
      have hN := h.kQ (a1.mono mEat_mQ)
      have mN := mQ_M (a1.mono mEat_mQ)
      have hPot : Pot N lv nf d none := fun i hi => by
        rw [a2 i hi, if_neg (by simp)]
        unfold potD
        rw [mN 417 _ (by decide) (by decide)]
      obtain ⟨X, y1, y2⟩ := hPot.force hN (j := k) (fun f w => by cases w) (by omega)
      rw [disS_k mN, a3] at y1
      have e437 : ∀ i, X 437 i = N 437 i := fun i => y2 437 i (by unfold mV; omega)
      obtain ⟨N', z1, z2⟩ := ih (k + 1) f (uM X 437 (19 + 3 * g + k) (disS M lv nf d none k (M 437 35))) (by omega) ((a1.tr (y2.mono mV_mEat)).u (by unfold mEat mQ; omega)) (fun i hi => by rw [uM_diff (by omega), y2 438 i (by unfold mV; omega)]; exact a2 i hi) (by rw [uM_diff (by omega), e437]; exact a3) (by rw [uM_diff (by omega), e437]; exact a4) (fun j hj => by
        by_cases w : j = k
        · rw [w, uM_same]
        · rw [uM_diff (by omega), e437]; exact a5 j (by omega))
      refine ⟨N', ?_, z2⟩
      rw [← z1]
      show B_Mod_eatsDish_23 (nI g) (nI d) (H_Mod_eatsDish_23 (nI g) (nI d) (f + 1 + s)) (nI k) N = _
      unfold B_Mod_eatsDish_23
      rw [hN.l18, show (5 : Int32) = nI 5 from rfl, show (3 : Int32) = nI 3 from rfl, show (19 : Int32) = nI 19 from rfl, nI_mul, nI_add, nI_mul, nI_add, nI_add, if_neg (by rw [nI_leI (by omega) (by omega)]; omega), if_neg (nI_in (by omega) (by omega)), nI_clamp (by omega), y1, bI2_s, if_neg (nI_in (by omega) (by omega)), nI_clamp (by omega), nmM_e, nmI_e, nI_1]
  obtain ⟨q, hq⟩ := FU_k (1 + 3) (by omega)
  obtain ⟨N', z1, z2, z3, z4, z5⟩ := key 3 0 q A (by omega) fA pA rA rB (fun j hj => absurd hj (Nat.not_lt_zero _))
  refine ⟨N', ?_, z2, fun j hj => ?_⟩
  · rw [hq, ← Nat.add_assoc]; exact z1
  · obtain ⟨day, w1, w2⟩ := hday
    unfold bowS eatB
    rw [z4, if_pos (by rw [w2]; exact nI_pos' w1), z5 j hj, z3, bndS_k (mQ_M (z2.mono mEat_mQ)), Int32.sub_self, Int32.add_zero, Int32.add_zero]
end FB
end PAR44
end MG16x1
section MG16x2
/-! feud, freest, supper, pinch, year -/
section PAR45
theorem kM1_Q {M M' : gM} (k : Kl MS1 M zL M' zL) : Eo mQ M M' := fun c j w => k.m (by
  unfold mQ at w
  simp only [MS1, MS0, Bool.or_eq_false_iff, Bool.and_eq_false_iff, beq_eq_false_iff_ne]
  omega)
theorem kQ_M1 {M M' : gM} (e : Eo mQ M M') : Kl MS1 M zL M' zL := fun c j w => ⟨e c j (fun hq => by
  unfold mQ at hq
  simp only [MS1, MS0, Bool.or_eq_false_iff, Bool.and_eq_false_iff, beq_eq_false_iff_ne] at w
  omega), rfl⟩
section FV
variable {D Q q ld lv nf nd ng ne : Nat} {M M' M1 Mc Mb : gM} {L : gL} {r : Nat → Int32}
theorem St.dayx (hS : St D Q nf 64 r M) (hD : D < 2 ^ 31) : ∃ day, day < 2 ^ 31 ∧ r 35 = nI day := by
  obtain ⟨⟨day, d1, d2, d3, _⟩, _⟩ := hS
  exact ⟨day, by omega, d3⟩
theorem d0_k (k : Kl C0 M zL M' zL) : M' 64 0 = M 64 0 := k.m (C0_M (by decide) (by decide))
/-- feud: both loops over the dishes -/
theorem feud_loop (hL : Lnd ld lv nf nd ng ne M) (hS : St D Q nf 64 r M) (hD : D < 2 ^ 31) (hLb : Lnd ld lv nf nd ng ne Mb) (mb : ∀ c j, 411 ≤ c → c ≤ 432 → Mb c j = M c j) (rb : ∀ k, k < 38 → Mb 436 k = r k) {g e1 e2 : Nat} (hg : g < ng) (he1 : e1 < ne) (he2 : e2 < ne) :
    ∀ (s k f f' : Nat) (N N' : gM) (acc : Int32), k + s = nd → Kl C0 M zL N zL → Eo mQ Mb N' → ∃ v X Y, H_Main_feud_55 ld (nI g) (nI e1) (nI e2) (f + 1 + s) acc (nI k) N = some (v, X) ∧ H_Mod_feud_37 (nI g) (nI e1) (nI e2) (f' + 1 + s) acc (nI k) N' = some (v, Y) := by
  have h4 := hL.ng4
  have h5 := hL.nd5
  have h6 := hL.ne6
  have h1 := hL.l1
  obtain ⟨x1, hx1, -, ex1⟩ := hL.df he1
  obtain ⟨x2, hx2, -, ex2⟩ := hL.df he2
  intro s
  induction s with
  | zero =>
    intro k f f' N N' acc hk kN kN'
    obtain rfl : k = nd := by omega
    have hN := hL.k0 kN
    have hN' := hLb.kQ kN'
    refine ⟨acc, N, N', ?_, ?_⟩
    · show B_Main_feud_55 ld (nI g) (nI e1) (nI e2) (H_Main_feud_55 ld (nI g) (nI e1) (nI e2) f) acc (nI k) N = _
      unfold B_Main_feud_55
      rw [hN.cd, if_pos (by rw [nI_leI (by omega) (by omega)]; omega)]
    · show B_Mod_feud_37 (nI g) (nI e1) (nI e2) (H_Mod_feud_37 (nI g) (nI e1) (nI e2) f') acc (nI k) N' = _
      unfold B_Mod_feud_37
      rw [hN'.l18, if_neg (nI_in (by omega) (by omega)), nI_clamp (by omega), hN'.md, if_pos (by rw [nI_leI (by omega) (by omega)]; omega)]
  | succ s ih =>
    intro k f f' N N' acc hk kN kN'
    have hN := hL.k0 kN
    have hN' := hLb.kQ kN'
    have mN := k0_M kN
    obtain ⟨X, y1, y2⟩ := c_freeBehind hN (g := g) (d := k) hg (by omega)
    have hb : eatB N lv nf g k (N 64 0) = eatB M lv nf g k (r 35) := funext fun j => by rw [eatB_k mN, d0_k kN, hS.d0]
    rw [hb, frS_k mN] at y1
    obtain ⟨Mc, w1, w2, w3, w4⟩ := m_copies hN'
    have kc := kN'.tr w4
    have hLc := hLb.kQ kc
    have rc : ∀ i, i < 38 → Mc 437 i = r i := fun i hi => by rw [w2 i hi, kN' 436 i (by unfold mQ; omega)]; exact rb i hi
    obtain ⟨Y, z1, z0, z3⟩ := m_eatsDish hLc (g := g) (d := k) (by omega) (by omega) (by rw [rc 35 (by omega)]; exact hS.dayx hD)
    have z2 := z0.mono mEat_mQ
    have ky := kc.tr z2
    have hY := hLb.kQ ky
    have mY : ∀ c j, 411 ≤ c → c ≤ 432 → Y c j = M c j := fun c j a b => (mQ_M ky c j a b).trans (mb c j a b)
    have mc : ∀ c j, 411 ≤ c → c ≤ 432 → Mc c j = M c j := fun c j a b => (mQ_M kc c j a b).trans (mb c j a b)
    have bY : ∀ j, j < 3 → bowS Y lv (Y 437) g j 0 = eatB M lv nf g k (r 35) j := fun j hj => by rw [z3 j hj, eatB_k mc, rc 35 (by omega)]
    obtain ⟨Y1, u1, u2⟩ := m_isFree hY (g := g) (e := e1) (by omega) he1
    obtain ⟨Y2, v1, v2⟩ := m_isFree (hY.kV u2) (g := g) (e := e2) (by omega) he2
    rw [mY 422 _ (by decide) (by decide), mY 421 _ (by decide) (by decide), ex1, nI_tn (by omega), bY x1 (by omega)] at u1
    have e437 : ∀ i, i < 38 → Y1 437 i = Y 437 i := fun i hi => u2 437 i (by unfold mV; omega)
    rw [mV_M u2 422 _ (by decide) (by decide), mV_M u2 421 _ (by decide) (by decide), mY 422 _ (by decide) (by decide), mY 421 _ (by decide) (by decide), ex2, nI_tn (by omega), bowS_k (mV_M u2), bowS_r (by omega) (by omega) e437, bY x2 (by omega)] at v1
    have b1 : F_Main_hasBit (frS M lv (eatB M lv nf g k (r 35)) ne) (nI e1) = some (if M 422 (6 * lv + e1) ≤ eatB M lv nf g k (r 35) x1 then 0 else 1) := by
      rw [frS_bit h6 he1, ex1, nI_tn (by omega)]
    have b2 : F_Main_hasBit (frS M lv (eatB M lv nf g k (r 35)) ne) (nI e2) = some (if M 422 (6 * lv + e2) ≤ eatB M lv nf g k (r 35) x2 then 0 else 1) := by
      rw [frS_bit h6 he2, ex2, nI_tn (by omega)]
    generalize (if M 422 (6 * lv + e1) ≤ eatB M lv nf g k (r 35) x1 then (0 : Int32) else 1) = A at u1 b1
    generalize (if M 422 (6 * lv + e2) ≤ eatB M lv nf g k (r 35) x2 then (0 : Int32) else 1) = B at v1 b2
    have c1 : ∀ K, B_Main_feud_55 ld (nI g) (nI e1) (nI e2) K acc (nI k) N = K (if A = B then acc else acc ||| (1 <<< (nI k &&& 31))) (nI (k + 1)) X := fun K => by
      unfold B_Main_feud_55 J_Main_feud_100
      rw [hN.cd, if_neg (by rw [nI_leI (by omega) (by omega)]; omega), y1, bI2_s, b1, bI_s, b2, bI_s, nmI_e, nmI_e, nmI_e, nI_1]
      by_cases w : A = B
      · rw [if_pos w, if_pos w]
      · rw [if_neg w, if_neg w]
    have c2 : ∀ K, B_Mod_feud_37 (nI g) (nI e1) (nI e2) K acc (nI k) N' = K (if A = B then acc else acc ||| (1 <<< (nI k &&& 31))) (nI (k + 1)) Y2 := fun K => by
      unfold B_Mod_feud_37 J_Mod_feud_86
      rw [hN'.l18, if_neg (nI_in (by omega) (by omega)), nI_clamp (by omega), hN'.md, if_neg (by rw [nI_leI (by omega) (by omega)]; omega), w1, bI_s, z1, bI_s, u1, bI2_s, v1, bI2_s, nmI_e, nmI_e, nmI_e, nI_1]
      by_cases w : A = B
      · rw [if_pos w, if_pos w]
      · rw [if_neg w, if_neg w]
    obtain ⟨v, X', Y', t1, t2⟩ := ih (k + 1) f f' X Y2 (if A = B then acc else acc ||| (1 <<< (nI k &&& 31))) (by omega) (kN.trans y2) ((ky.tr (u2.mono mV_mQ)).tr (v2.mono mV_mQ))
    exact ⟨v, X', Y', (c1 _).trans t1, (c2 _).trans t2⟩
theorem v_feud (h : G1 q ld M L) (hq : q < 512) (a b c : Int32) : ∃ r M1 r' M2, F_Main_feud ld a b c M = some (r, M1) ∧ F_Mod_feud a b c M1 = some (r', M2) ∧ G1 (q + 1) ld M2 L ∧ r = r' := by
  obtain ⟨r, M1, e1, -, k1⟩ := tf_Main_feud (p1 := a) (p2 := b) (p3 := c) (M := M) h.1.la
  have g1 := h.1.kC0 k1
  obtain ⟨r', M2, e2, -, k2⟩ := tf_Mod_feud (p0 := a) (p1 := b) (p2 := c) g1.inv
  refine ⟨r, M1, r', M2, e1, e2, h.q2 (g1.kM1 k2) (k1.mono C0_C1) k2, ?_⟩
  obtain ⟨lv, nf, nd, ng, ne, hL, hS⟩ := h.get
  obtain ⟨hL1, m1, _⟩ := cop hL (k1.mono C0_C1)
  have h5 := hL.nd5
  unfold F_Main_feud at e1
  unfold F_Mod_feud at e2
  rw [hL.cg, hL.ce] at e1
  rcases m_isGuest hL1 a with ⟨d1, d2⟩ | ⟨g, hg, rfl, d1, d2⟩
  · rw [d1, bI_s, if_pos rfl] at e1
    rw [d2, bI_s, if_pos rfl] at e2
    exact pair_fin e1 e2 rfl
  rw [d1, bI_s, if_neg (by decide)] at e1
  rw [d2, bI_s, if_neg (by decide)] at e2
  rcases m_isDeed hL1 b with ⟨d1, d2⟩ | ⟨x, hx, rfl, d1, d2⟩
  · rw [d1, bI_s, if_pos rfl] at e1
    rw [d2, bI_s, if_pos rfl] at e2
    exact pair_fin e1 e2 rfl
  rw [d1, bI_s, if_neg (by decide)] at e1
  rw [d2, bI_s, if_neg (by decide)] at e2
  rcases m_isDeed hL1 c with ⟨d1, d2⟩ | ⟨y, hy, rfl, d1, d2⟩
  · rw [d1, bI_s, if_pos rfl] at e1
    rw [d2, bI_s, if_pos rfl] at e2
    exact pair_fin e1 e2 rfl
  rw [d1, bI_s, if_neg (by decide)] at e1
  rw [d2, bI_s, if_neg (by decide)] at e2
  by_cases w : nI x = nI y
  · rw [if_pos w] at e1 e2
    exact pair_fin e1 e2 rfl
  rw [if_neg w] at e1 e2
  obtain ⟨f, hf⟩ := FU_k (1 + nd) (by omega)
  obtain ⟨v, X, Y, u1, u2⟩ := feud_loop hL hS.1 (by omega) hL1 (fun c j p _ => m1 c j (by omega)) (fun k _ => m1 436 k (by omega)) hg hx hy nd 0 f f M M1 0 (Nat.zero_add _) Kl.rf Eo.rf
  have c1 : H_Main_feud_55 ld (nI g) (nI x) (nI y) FU 0 0 M = some (v, X) := by rw [hf, ← Nat.add_assoc]; exact u1
  have c2 : H_Mod_feud_37 (nI g) (nI x) (nI y) FU 0 0 M1 = some (v, Y) := by rw [hf, ← Nat.add_assoc]; exact u2
  rw [c1] at e1
  rw [c2] at e2
  exact pair_fin e1 e2 rfl
/-! the dish that sets free most -/
theorem copies63 (h : Lnd ld lv nf nd ng ne M) {Mc : gM} (w1 : F_Mod_copies M = some Mc) : Mc 401 63 = M 401 63 := by
  have := Option.some.inj (w1.symm.trans (s_copies h.l18 (by have := h.l1; omega)))
  rw [this, uM_diff (by omega), fl_out (by omega)]
def bsD (c : Nat → Int32) : Nat → Int32 × Int32
  | 0 => (-1, -1)
  | n + 1 => if c n ≤ (bsD c n).1 then bsD c n else (c n, nI n)
theorem not_m1 {x : Int32} (h : 0 ≤ x) : ¬ x ≤ -1 := fun w => absurd (Int32.le_trans h w) (by decide)
theorem bsD_in {c : Nat → Int32} (hc : ∀ n, 0 ≤ c n) : ∀ n, ∃ d, d < n + 1 ∧ bsD c (n + 1) = (c d, nI d)
  | 0 => ⟨0, by omega, by
    show (if c 0 ≤ -1 then ((-1 : Int32), (-1 : Int32)) else (c 0, nI 0)) = _
    rw [if_neg (not_m1 (hc 0))]⟩
  | n + 1 => by
    obtain ⟨d, h1, h2⟩ := bsD_in hc n
    show ∃ d, d < n + 1 + 1 ∧ (if c (n + 1) ≤ (bsD c (n + 1)).1 then bsD c (n + 1) else (c (n + 1), nI (n + 1))) = _
    by_cases w : c (n + 1) ≤ (bsD c (n + 1)).1
    · rw [if_pos w]; exact ⟨d, by omega, h2⟩
    · rw [if_neg w]; exact ⟨n + 1, by omega, rfl⟩
/-- how many deeds a dish sets free -/
def cnS (M : gM) (lv nf ne g : Nat) (day : Int32) (d : Nat) : Int32 := bcS (frS M lv (eatB M lv nf g d day) ne)
theorem cnS_0 (h6 : ne ≤ 6) {g d : Nat} {day : Int32} : 0 ≤ cnS M lv nf ne g day d := (frS_cnt h6).2.2
theorem c_behindN (hL : Lnd ld lv nf nd ng ne M) (hS : St D Q nf 64 r M) {N : gM} (kN : Kl C0 M zL N zL) {g d : Nat} (hg : g < ng) (hd : d < nd) : ∃ X, F_Main_freeBehind ld (nI g) (nI d) N = some (frS M lv (eatB M lv nf g d (r 35)) ne, X) ∧ Kl C0 M zL X zL := by
  obtain ⟨X, y1, y2⟩ := c_freeBehind (hL.k0 kN) (g := g) (d := d) hg hd
  have hb : eatB N lv nf g d (N 64 0) = eatB M lv nf g d (r 35) := funext fun j => by rw [eatB_k (k0_M kN), d0_k kN, hS.d0]
  rw [hb, frS_k (k0_M kN)] at y1
  exact ⟨X, y1, kN.trans y2⟩
theorem c_freestDish (hL : Lnd ld lv nf nd ng ne M) (hS : St D Q nf 64 r M) {g : Nat} (hg : g < ng) {N0 : gM} (k0 : Kl C0 M zL N0 zL) : ∃ X, F_Main_freestDish ld (nI g) N0 = some ((bsD (cnS M lv nf ne g (r 35)) nd).2, X) ∧ Kl C0 M zL X zL := by
  have h5 := hL.nd5
  have h6 := hL.ne6
  have key : ∀ (s k f : Nat) (N : gM), k + s = nd → Kl C0 M zL N zL → ∃ X, H_Main_freestDish_7 ld (nI g) (f + 1 + s) (bsD (cnS M lv nf ne g (r 35)) k).1 (bsD (cnS M lv nf ne g (r 35)) k).2 (nI k) N = some ((bsD (cnS M lv nf ne g (r 35)) nd).2, X) ∧ Kl C0 M zL X zL := by
    intro s
    induction s with
    | zero =>
      intro k f N hk kN
      obtain rfl : k = nd := by omega
      refine ⟨N, ?_, kN⟩
      show B_Main_freestDish_7 ld (nI g) (H_Main_freestDish_7 ld (nI g) f) _ _ (nI k) N = _
      unfold B_Main_freestDish_7
      rw [(hL.k0 kN).cd, if_pos (by rw [nI_leI (by omega) (by omega)]; omega)]
    | succ s ih =>
      intro k f N hk kN
      obtain ⟨X, y1, y2⟩ := c_behindN hL hS kN (g := g) (d := k) hg (by omega)
      obtain ⟨X', z1, z2⟩ := ih (k + 1) f X (by omega) y2
      refine ⟨X', ?_, z2⟩
      rw [← z1]
      show B_Main_freestDish_7 ld (nI g) (H_Main_freestDish_7 ld (nI g) (f + 1 + s)) _ _ (nI k) N = _
      unfold B_Main_freestDish_7 J_Main_freestDish_43
      rw [(hL.k0 kN).cd, if_neg (by rw [nI_leI (by omega) (by omega)]; omega), y1, bI2_s, (frS_cnt h6).1, bI_s, nmI_e, nmI_e, nI_1]
      have hu : bsD (cnS M lv nf ne g (r 35)) (k + 1) = if cnS M lv nf ne g (r 35) k ≤ (bsD (cnS M lv nf ne g (r 35)) k).1 then bsD (cnS M lv nf ne g (r 35)) k else (cnS M lv nf ne g (r 35) k, nI k) := rfl
      rw [hu]
      by_cases w : cnS M lv nf ne g (r 35) k ≤ (bsD (cnS M lv nf ne g (r 35)) k).1
      · rw [if_pos (show bcS (frS M lv (eatB M lv nf g k (r 35)) ne) ≤ _ from w), if_pos w]
      · rw [if_neg (show ¬ bcS (frS M lv (eatB M lv nf g k (r 35)) ne) ≤ _ from w), if_neg w]
        rfl
  obtain ⟨f, hf⟩ := FU_k (1 + nd) (by omega)
  unfold F_Main_freestDish
  rw [hf, ← Nat.add_assoc]
  exact key nd 0 f N0 (Nat.zero_add _) k0
theorem m_freestOf (hS : St D Q nf 64 r M) (hD : D < 2 ^ 31) (hLb : Lnd ld lv nf nd ng ne Mb) (mb : ∀ c j, 411 ≤ c → c ≤ 432 → Mb c j = M c j) (rb : ∀ k, k < 38 → Mb 436 k = r k) {g : Nat} (hg : g < ng) {N0 : gM} (k0 : Eo mQ Mb N0) : ∃ Y, F_Mod_freestOf (nI g) N0 = some (if nd = 0 then -2 else (bsD (cnS M lv nf ne g (r 35)) nd).2, Y) ∧ Y 401 63 = (bsD (cnS M lv nf ne g (r 35)) nd).1 ∧ Eo mQ Mb Y := by
  have h5 := hLb.nd5
  have h4 := hLb.ng4
  have h6 := hLb.ne6
  have h1 := hLb.l1
  have key : ∀ (s k f : Nat) (N : gM), k + s = nd → Eo mQ Mb N → N 401 63 = (bsD (cnS M lv nf ne g (r 35)) k).1 → ∃ Y, H_Mod_freestOf_10 (nI g) (f + 1 + s) (if k = 0 then -2 else (bsD (cnS M lv nf ne g (r 35)) k).2) (nI k) N = some (if nd = 0 then -2 else (bsD (cnS M lv nf ne g (r 35)) nd).2, Y) ∧ Y 401 63 = (bsD (cnS M lv nf ne g (r 35)) nd).1 ∧ Eo mQ Mb Y := by
    intro s
    induction s with
    | zero =>
      intro k f N hk kN e63
      obtain rfl : k = nd := by omega
      have hN := hLb.kQ kN
      refine ⟨N, ?_, e63, kN⟩
      show B_Mod_freestOf_10 (nI g) (H_Mod_freestOf_10 (nI g) f) _ (nI k) N = _
      unfold B_Mod_freestOf_10
      rw [hN.l18, if_neg (nI_in (by omega) (by omega)), nI_clamp (by omega), hN.md, if_pos (by rw [nI_leI (by omega) (by omega)]; omega)]
    | succ s ih =>
      intro k f N hk kN e63
      have hN := hLb.kQ kN
      obtain ⟨Mc, w1, w2, w3, w4⟩ := m_copies hN
      have kc := kN.tr w4
      have hLc := hLb.kQ kc
      have rc : ∀ i, i < 38 → Mc 437 i = r i := fun i hi => by rw [w2 i hi, kN 436 i (by unfold mQ; omega)]; exact rb i hi
      have mc : ∀ c j, 411 ≤ c → c ≤ 432 → Mc c j = M c j := fun c j a b => (mQ_M kc c j a b).trans (mb c j a b)
      have c63 : Mc 401 63 = N 401 63 := copies63 hN w1
      obtain ⟨Y, z1, z0, z3⟩ := m_eatsDish hLc (g := g) (d := k) (by omega) (by omega) (by rw [rc 35 (by omega)]; exact hS.dayx hD)
      have z63 : Y 401 63 = Mc 401 63 := z0 401 63 (by unfold mEat; omega)
      have z2 := z0.mono mEat_mQ
      have ky := kc.tr z2
      have hY := hLb.kQ ky
      have mY : ∀ c j, 411 ≤ c → c ≤ 432 → Y c j = M c j := fun c j a b => (mQ_M ky c j a b).trans (mb c j a b)
      have bY : ∀ j, j < 3 → bowS Y lv (Y 437) g j 0 = eatB M lv nf g k (r 35) j := fun j hj => by rw [z3 j hj, eatB_k mc, rc 35 (by omega)]
      obtain ⟨Y1, u1, u2⟩ := m_freeBits hY (g := g) (by omega)
      have hfr : frS Y lv (fun j => bowS Y lv (Y 437) g j 0) ne = frS M lv (eatB M lv nf g k (r 35)) ne := by
        rw [frS_k mY]
        exact frS_b (ne := ne) bY (fun e he => by
          obtain ⟨x, hx, -, ex⟩ := hLb.df he
          exact ⟨x, hx, by rw [← mb 421 _ (by decide) (by decide)]; exact ex⟩) ne (Nat.le_refl _)
      rw [hfr] at u1
      have y63 : Y1 401 63 = (bsD (cnS M lv nf ne g (r 35)) k).1 := by rw [u2 401 63 (by unfold mV; omega), z63, c63, e63]
      have hu : bsD (cnS M lv nf ne g (r 35)) (k + 1) = if cnS M lv nf ne g (r 35) k ≤ (bsD (cnS M lv nf ne g (r 35)) k).1 then bsD (cnS M lv nf ne g (r 35)) k else (cnS M lv nf ne g (r 35) k, nI k) := rfl
      have kY1 := ky.tr (u2.mono mV_mQ)
      by_cases w : cnS M lv nf ne g (r 35) k ≤ (bsD (cnS M lv nf ne g (r 35)) k).1
      · have hk0 : k ≠ 0 := fun z => by subst z; exact absurd w (not_m1 (cnS_0 h6))
        rw [if_pos w] at hu
        obtain ⟨Y', t1, t2⟩ := ih (k + 1) f Y1 (by omega) kY1 (by rw [hu]; exact y63)
        refine ⟨Y', ?_, t2⟩
        rw [← t1, hu, if_neg hk0, if_neg (Nat.succ_ne_zero k)]
        show B_Mod_freestOf_10 (nI g) (H_Mod_freestOf_10 (nI g) (f + 1 + s)) _ (nI k) N = _
        unfold B_Mod_freestOf_10 J_Mod_freestOf_63
        rw [hN.l18, if_neg (nI_in (by omega) (by omega)), nI_clamp (by omega), hN.md, if_neg (by rw [nI_leI (by omega) (by omega)]; omega), w1, bI_s, z1, bI_s, u1, bI2_s, (frS_cnt h6).2.1, bI_s, y63, if_neg (show ¬ (bsD (cnS M lv nf ne g (r 35)) k).1 < bcS (frS M lv (eatB M lv nf g k (r 35)) ne) from Int32.not_lt.mpr w), nmI_e, nI_1]
      · rw [if_neg w] at hu
        obtain ⟨Y', t1, t2⟩ := ih (k + 1) f (uM Y1 401 63 (cnS M lv nf ne g (r 35) k)) (by omega) (kY1.u (by unfold mQ; omega)) (by rw [hu, uM_same])
        refine ⟨Y', ?_, t2⟩
        rw [← t1, hu, if_neg (Nat.succ_ne_zero k)]
        show B_Mod_freestOf_10 (nI g) (H_Mod_freestOf_10 (nI g) (f + 1 + s)) _ (nI k) N = _
        unfold B_Mod_freestOf_10 J_Mod_freestOf_63
        rw [hN.l18, if_neg (nI_in (by omega) (by omega)), nI_clamp (by omega), hN.md, if_neg (by rw [nI_leI (by omega) (by omega)]; omega), w1, bI_s, z1, bI_s, u1, bI2_s, (frS_cnt h6).2.1, bI_s, y63, if_pos (show (bsD (cnS M lv nf ne g (r 35)) k).1 < bcS (frS M lv (eatB M lv nf g k (r 35)) ne) from Int32.not_le.mp w), nmM_e, nmI_e, nI_1]
        rfl
  obtain ⟨f, hf⟩ := FU_k (1 + nd) (by omega)
  unfold F_Mod_freestOf
  rw [nmM_e, hf, ← Nat.add_assoc]
  exact key nd 0 f (uM N0 401 63 (-1)) (Nat.zero_add _) (k0.u (by unfold mQ; omega)) uM_same

theorem v_freest (h : G1 q ld M L) (hq : q < 512) (a b : Int32) : ∃ r M1 r' M2, F_Main_freest ld a b M = some (r, M1) ∧ F_Mod_freest a b M1 = some (r', M2) ∧ G1 (q + 1) ld M2 L ∧ r = r' := by
  obtain ⟨r, M1, e1, -, k1⟩ := tf_Main_freest (p1 := a) (p2 := b) (M := M) h.1.la
  have g1 := h.1.kC0 k1
  obtain ⟨r', M2, e2, -, k2⟩ := tf_Mod_freest (p0 := a) (p1 := b) g1.inv
  refine ⟨r, M1, r', M2, e1, e2, h.q2 (g1.kM1 k2) (k1.mono C0_C1) k2, ?_⟩
  obtain ⟨lv, nf, nd, ng, ne, hL, hS⟩ := h.get
  obtain ⟨hL1, m1, _⟩ := cop hL (k1.mono C0_C1)
  have h5 := hL.nd5
  have h6 := hL.ne6
  unfold F_Main_freest at e1
  unfold F_Mod_freest J_Mod_freest_33 at e2
  rw [hL.cg] at e1
  rcases m_isGuest hL1 a with ⟨d1, d2⟩ | ⟨g, hg, rfl, d1, d2⟩
  · rw [d1, bI_s, if_pos rfl] at e1
    rw [d2, bI_s, if_pos rfl] at e2
    exact pair_fin e1 e2 rfl
  rw [d1, bI_s, if_neg (by decide)] at e1
  rw [d2, bI_s, if_neg (by decide)] at e2
  rcases one_in0 b (n := 1) (by decide) with ⟨d1, d2⟩ | ⟨w, hw, rfl, d1, d2⟩
  · rw [show F_Main_isOne b 2 = some 0 from d1, bI_s, if_pos rfl] at e1
    rw [show F_Mod_in b 0 1 = some 0 from d2, bI_s, if_pos rfl] at e2
    exact pair_fin e1 e2 rfl
  rw [show F_Main_isOne (nI w) 2 = some 1 from d1, bI_s, if_neg (by decide), hL.cd] at e1
  rw [show F_Mod_in (nI w) 0 1 = some 1 from d2, bI_s, if_neg (by decide)] at e2
  obtain ⟨Y, y1, y2, y3⟩ := m_freestOf hS.1 (by omega) hL1 (fun c j p _ => m1 c j (by omega)) (fun k _ => m1 436 k (by omega)) hg Eo.rf
  rw [y1, bI2_s] at e2
  by_cases z : nd = 0
  · rw [if_pos z, if_pos (by decide)] at e2
    rw [z, if_pos (show nI 0 = 0 from rfl)] at e1
    exact pair_fin e1 e2 rfl
  rw [if_neg (nI_ne0 (by omega) (by omega))] at e1
  obtain ⟨X, x1, x2⟩ := c_freestDish hL hS.1 hg Kl.rf
  obtain ⟨d, hd, ed⟩ := bsD_in (c := cnS M lv nf ne g (M 436 35)) (fun n => cnS_0 h6) (nd - 1)
  rw [show nd - 1 + 1 = nd by omega] at ed hd
  rw [ed] at x1 y2 e2
  rw [if_neg z, if_neg (show ¬ nI d < 0 from nI_pos (by omega))] at e2
  rw [x1, bI2_s] at e1
  by_cases w0 : nI w = 0
  · rw [if_pos w0] at e1 e2
    exact pair_fin e1 e2 rfl
  rw [if_neg w0] at e1 e2
  obtain ⟨X2, u1, _⟩ := c_behindN hL hS.1 x2 (g := g) (d := d) hg hd
  rw [u1, bI2_s, (frS_cnt h6).1, bI_s] at e1
  exact pair_fin e1 e2 y2.symm
theorem supper_loop (hL : Lnd ld lv nf nd ng ne M) (hS : St D Q nf 64 r M) (hD : D < 2 ^ 31) (hLb : Lnd ld lv nf nd ng ne Mb) (mb : ∀ c j, 411 ≤ c → c ≤ 432 → Mb c j = M c j) (rb : ∀ k, k < 38 → Mb 436 k = r k) (hz : 0 < nd) :
    ∀ (s k f f' : Nat) (N N' : gM) (acc : Int32), k + s = ng → Kl C0 M zL N zL → Eo mQ Mb N' → ∃ v X Y, H_Main_supper_16 ld (f + 1 + s) acc (nI k) N = some (v, X) ∧ H_Mod_supper_4 (f' + 1 + s) acc (nI k) N' = some (v, Y) := by
  have h4 := hL.ng4
  have h5 := hL.nd5
  have h6 := hL.ne6
  have h1 := hL.l1
  intro s
  induction s with
  | zero =>
    intro k f f' N N' acc hk kN kN'
    obtain rfl : k = ng := by omega
    have hN := hL.k0 kN
    have hN' := hLb.kQ kN'
    refine ⟨acc, N, N', ?_, ?_⟩
    · show B_Main_supper_16 ld (H_Main_supper_16 ld f) acc (nI k) N = _
      unfold B_Main_supper_16
      rw [hN.cg, if_pos (by rw [nI_leI (by omega) (by omega)]; omega)]
    · show B_Mod_supper_4 (H_Mod_supper_4 f') acc (nI k) N' = _
      unfold B_Mod_supper_4
      rw [hN'.l18, if_neg (nI_in (by omega) (by omega)), nI_clamp (by omega), hN'.mg, if_pos (by rw [nI_leI (by omega) (by omega)]; omega)]
  | succ s ih =>
    intro k f f' N N' acc hk kN kN'
    have hN := hL.k0 kN
    have hN' := hLb.kQ kN'
    obtain ⟨Y, y1, y2, y3⟩ := m_freestOf hS hD hLb mb rb (g := k) (by omega) kN'
    obtain ⟨X, x1, x2⟩ := c_freestDish hL hS (g := k) (by omega) kN
    obtain ⟨d, hd, ed⟩ := bsD_in (c := cnS M lv nf ne k (r 35)) (fun n => cnS_0 h6) (nd - 1)
    rw [show nd - 1 + 1 = nd by omega] at ed hd
    rw [ed] at x1 y2
    obtain ⟨X2, u1, u2⟩ := c_behindN hL hS x2 (g := k) (d := d) (by omega) hd
    obtain ⟨v, X', Y', t1, t2⟩ := ih (k + 1) f f' X2 Y (acc + cnS M lv nf ne k (r 35) d) (by omega) u2 y3
    refine ⟨v, X', Y', ?_, ?_⟩
    · rw [← t1]
      show B_Main_supper_16 ld (H_Main_supper_16 ld (f + 1 + s)) acc (nI k) N = _
      unfold B_Main_supper_16
      rw [hN.cg, if_neg (by rw [nI_leI (by omega) (by omega)]; omega), x1, bI2_s, u1, bI2_s, (frS_cnt h6).1, bI_s, nmI_e, nmI_e, nI_1]
      rfl
    · rw [← t2]
      show B_Mod_supper_4 (H_Mod_supper_4 (f' + 1 + s)) acc (nI k) N' = _
      unfold B_Mod_supper_4
      rw [hN'.l18, if_neg (nI_in (by omega) (by omega)), nI_clamp (by omega), hN'.mg, if_neg (by rw [nI_leI (by omega) (by omega)]; omega), if_neg (nI_inc (by omega) (by omega)), hN'.md, if_neg (by rw [show (0 : Int32) = nI 0 from rfl, nI_leI (by omega) (by omega)]; omega), y1, bI2_s, nmI_e, nmI_e, nI_1, y2]
theorem v_supper (h : G1 q ld M L) (hq : q < 512) : ∃ r M1 r' M2, F_Main_supper ld M = some (r, M1) ∧ F_Mod_supper M1 = some (r', M2) ∧ G1 (q + 1) ld M2 L ∧ r = r' := by
  obtain ⟨r, M1, e1, -, k1⟩ := tf_Main_supper (M := M) h.1.la
  have g1 := h.1.kC0 k1
  obtain ⟨r', M2, e2, -, k2⟩ := tf_Mod_supper g1.inv
  refine ⟨r, M1, r', M2, e1, e2, h.q2 (g1.kM1 k2) (k1.mono C0_C1) k2, ?_⟩
  obtain ⟨lv, nf, nd, ng, ne, hL, hS⟩ := h.get
  obtain ⟨hL1, m1, _⟩ := cop hL (k1.mono C0_C1)
  have h5 := hL.nd5
  have h4 := hL.ng4
  have h1 := hL.l1
  unfold F_Main_supper at e1
  unfold F_Mod_supper at e2
  rw [hL.cd] at e1
  by_cases z : nd = 0
  · rw [z, if_pos (show nI 0 = 0 from rfl)] at e1
    obtain ⟨f, hf⟩ := FU_k 1 (by omega)
    rw [hf] at e2
    have e3 : B_Mod_supper_4 (H_Mod_supper_4 f) 0 (nI 0) M1 = some (r', M2) := e2
    unfold B_Mod_supper_4 at e3
    rw [hL1.l18, if_neg (nI_in (by omega) (by omega)), nI_clamp (by omega), hL1.mg] at e3
    by_cases w : nI ng ≤ nI 0
    · rw [if_pos w] at e3
      exact pair_fin e1 e3 rfl
    · rw [if_neg w, if_neg (nI_inc (by omega) (by omega)), hL1.md, z, if_pos (show nI 0 ≤ 0 by decide)] at e3
      exact pair_fin e1 e3 rfl
  rw [if_neg (nI_ne0 (by omega) (by omega))] at e1
  obtain ⟨f, hf⟩ := FU_k (1 + ng) (by omega)
  obtain ⟨v, X, Y, u1, u2⟩ := supper_loop hL hS.1 (by omega) hL1 (fun c j p _ => m1 c j (by omega)) (fun k _ => m1 436 k (by omega)) (by omega) ng 0 f f M M1 0 (Nat.zero_add _) Kl.rf Eo.rf
  have c1 : H_Main_supper_16 ld FU 0 0 M = some (v, X) := by rw [hf, ← Nat.add_assoc]; exact u1
  have c2 : H_Mod_supper_4 FU 0 0 M1 = some (v, Y) := by rw [hf, ← Nat.add_assoc]; exact u2
  rw [c1] at e1
  rw [c2] at e2
  exact pair_fin e1 e2 rfl
end FV
end PAR45
end MG16x2
section MG16x3
/-! pinch, year -/
section PAR46
section TW
variable {D Q q ld lv nf nd ng ne : Nat} {M M' M1 Mc Mb : gM} {L : gL} {r : Nat → Int32}
theorem disS_r {d j : Nat} {more : Option Nat} {day : Int32} : ∃ y, y ≤ 99 ∧ disS M lv nf d more j day = nI y := by
  unfold disS
  match more with
  | none =>
    obtain ⟨y, _, h2, h3⟩ := hb_r (x := lawS M lv 0 (v9 (sumS M lv nf d j) (M 416 (5 * lv + d)) (nI j) (manS M lv nf d) day 0 0 0 0) (sumS M lv nf d j)) (a := 0) (b := 99) (by decide) (by decide)
    exact ⟨y, h2, h3⟩
  | some f =>
    obtain ⟨y, _, h2, h3⟩ := hb_r (x := lawS M lv 0 (v9 (sumS M lv nf d j + M 414 (3 * (6 * lv + f) + j)) (M 416 (5 * lv + d)) (nI j) (manS M lv nf d + 1) day 0 0 0 0) (sumS M lv nf d j + M 414 (3 * (6 * lv + f) + j))) (a := 0) (b := 99) (by decide) (by decide)
    exact ⟨y, h2, h3⟩
def abS (a b : Int32) : Int32 := if 0 ≤ a - b then a - b else 0 - (a - b)
theorem neg_all : ∀ k, k < 100 → 0 < k → ¬ 0 ≤ (0 : Int32) - nI k := by decide +kernel
/-- how far apart two forces are -/
theorem abS_e {a b : Int32} {x y : Nat} (hx : x ≤ 99) (hy : y ≤ 99) (ea : a = nI x) (eb : b = nI y) : (∃ z, z ≤ 99 ∧ abS a b = nI z) ∧ F_Mod_off b a = some (abS a b) := by
  subst ea; subst eb
  unfold abS F_Mod_off
  by_cases w : y ≤ x
  · have e : nI x - nI y = nI (x - y) := nI_sub w
    rw [e, if_pos (nI_pos' (by omega))]
    refine ⟨⟨x - y, by omega, rfl⟩, ?_⟩
    by_cases w2 : nI x ≤ nI y
    · rw [nI_leI (by omega) (by omega)] at w2
      rw [if_pos (by rw [nI_leI (by omega) (by omega)]; exact w2), show x = y by omega, Int32.sub_self, Nat.sub_self]; rfl
    · rw [if_neg w2]
  · have e1 : nI y - nI x = nI (y - x) := nI_sub (by omega)
    have e : nI x - nI y = 0 - nI (y - x) := by rw [← e1, Int32.zero_sub, Int32.neg_sub]
    have e2 : (0 : Int32) - (nI x - nI y) = nI (y - x) := by rw [e, Int32.zero_sub, Int32.zero_sub, Int32.neg_neg]
    rw [if_neg (by rw [e]; exact neg_all (y - x) (by omega) (by omega)), e2]
    exact ⟨⟨y - x, by omega, rfl⟩, by rw [if_pos (by rw [nI_leI (by omega) (by omega)]; omega), e1]⟩
def chJ (M : gM) (lv nf d f : Nat) (day : Int32) (j : Nat) : Int32 := abS (disS M lv nf d (some f) j day) (disS M lv nf d none j day)
/-- by how much one more of a food changes a dish -/
def chS (M : gM) (lv nf d f : Nat) (day : Int32) : Int32 := 0 + chJ M lv nf d f day 0 + chJ M lv nf d f day 1 + chJ M lv nf d f day 2
theorem chJ_r {d f j : Nat} {day : Int32} : (∃ z, z ≤ 99 ∧ chJ M lv nf d f day j = nI z) ∧ F_Mod_off (disS M lv nf d none j day) (disS M lv nf d (some f) j day) = some (chJ M lv nf d f day j) := by
  obtain ⟨x, hx, ex⟩ := disS_r (M := M) (lv := lv) (nf := nf) (d := d) (j := j) (more := some f) (day := day)
  obtain ⟨y, hy, ey⟩ := disS_r (M := M) (lv := lv) (nf := nf) (d := d) (j := j) (more := none) (day := day)
  exact abS_e hx hy ex ey
theorem chS_0 {d f : Nat} {day : Int32} : 0 ≤ chS M lv nf d f day := by
  obtain ⟨⟨a, ha, ea⟩, _⟩ := chJ_r (M := M) (lv := lv) (nf := nf) (d := d) (f := f) (j := 0) (day := day)
  obtain ⟨⟨b, hb, eb⟩, _⟩ := chJ_r (M := M) (lv := lv) (nf := nf) (d := d) (f := f) (j := 1) (day := day)
  obtain ⟨⟨c, hc, ec⟩, _⟩ := chJ_r (M := M) (lv := lv) (nf := nf) (d := d) (f := f) (j := 2) (day := day)
  unfold chS
  rw [ea, eb, ec, Int32.zero_add, nI_add, nI_add]
  exact nI_pos' (by omega)
theorem c_changeBy (hL : Lnd ld lv nf nd ng ne M) (hS : St D Q nf 64 r M) {d f : Nat} (hd : d < nd) (hf : f < nf) {N0 : gM} (k0 : Kl C0 M zL N0 zL) : ∃ X, F_Main_changeBy ld (nI d) (nI f) N0 = some (chS M lv nf d f (r 35), X) ∧ Kl C0 M zL X zL := by
  have step : ∀ (N : gM) (g k : Nat) (acc : Int32), k < 3 → Kl C0 M zL N zL → ∃ N', H_Main_changeBy_5 ld (nI d) (nI f) (g + 1) acc (nI k) N = H_Main_changeBy_5 ld (nI d) (nI f) g (acc + chJ M lv nf d f (r 35) k) (nI (k + 1)) N' ∧ Kl C0 M zL N' zL := fun N g k acc hk kN => by
    have hN := hL.k0 kN
    obtain ⟨X, y1, y2⟩ := c_dishForce hN (d := d) (j := k) (more := some f) (day := r 35) hd hk (fun x w => by cases w; exact hf)
    obtain ⟨X2, z1, z2⟩ := c_dishForce (hN.k0 y2) (d := d) (j := k) (more := none) (day := r 35) hd hk (fun x w => by cases w)
    rw [disS_k (k0_M kN)] at y1
    rw [disS_k (k0_M (kN.trans y2))] at z1
    refine ⟨X2, ?_, (kN.trans y2).trans z2⟩
    show B_Main_changeBy_5 ld (nI d) (nI f) (H_Main_changeBy_5 ld (nI d) (nI f) g) acc (nI k) N = _
    unfold B_Main_changeBy_5
    rw [show (3 : Int32) = nI 3 from rfl, if_neg (by rw [nI_leI (by omega) (by omega)]; omega), d0_k kN, hS.d0, show F_Land_dishForce ld (nI d) (nI f) (nI k) (r 35) N = _ from y1, bI2_s, d0_k (kN.trans y2), hS.d0, show F_Land_dishForce ld (nI d) (-2) (nI k) (r 35) X = _ from z1, bI2_s, nmI_e, nmI_e, nI_1]
    rfl
  unfold F_Main_changeBy
  obtain ⟨q4, hq4⟩ := FU_k 4 (by omega)
  obtain ⟨N1, a1, k1⟩ := step N0 (q4 + 3) 0 0 (by decide) k0
  obtain ⟨N2, a2, k2⟩ := step N1 (q4 + 2) 1 (0 + chJ M lv nf d f (r 35) 0) (by decide) k1
  obtain ⟨N3, a3, k3⟩ := step N2 (q4 + 1) 2 (0 + chJ M lv nf d f (r 35) 0 + chJ M lv nf d f (r 35) 1) (by decide) k2
  refine ⟨N3, ?_, k3⟩
  rw [hq4, show (H_Main_changeBy_5 ld (nI d) (nI f) (q4 + 4) 0 0 N0) = H_Main_changeBy_5 ld (nI d) (nI f) (q4 + 3 + 1) 0 (nI 0) N0 from rfl, a1, a2, a3]
  show B_Main_changeBy_5 ld (nI d) (nI f) (H_Main_changeBy_5 ld (nI d) (nI f) q4) _ (nI 3) N3 = _
  unfold B_Main_changeBy_5
  rw [if_pos (by decide)]
  rfl
/-- the model: the three forces, without and with one more -/
def mP8 (c j : Nat) : Prop := mV c j ∨ c = 438
theorem mP8_Q {A B : gM} (e : Eo mP8 A B) : Eo mQ A B := e.mono (fun c j w => by unfold mP8 mV at w; unfold mQ; omega)
theorem mV_P8 {A B : gM} (e : Eo mV A B) : Eo mP8 A B := e.mono (fun c j w => Or.inl w)
theorem potD_k {B : gM} {d : Nat} (e : ∀ c j, 411 ≤ c → c ≤ 432 → B c j = M c j) (i : Nat) : potD B lv nf d i = potD M lv nf d i := by
  unfold potD; rw [e 417 _ (by decide) (by decide)]
theorem m_chA (hLb : Lnd ld lv nf nd ng ne Mb) (mb : ∀ c j, 411 ≤ c → c ≤ 432 → Mb c j = M c j) (rb : Mb 437 35 = r 35) {d k : Nat} (hd : d < nd) (hk : k < 3) {N : gM} (kN : Eo mP8 Mb N) : ∃ A X, F_Mod_fillsPot (nI d) N = some A ∧ F_Mod_forceBy (nI k) (M 416 (5 * lv + d)) A = some (disS M lv nf d none k (r 35), X) ∧ Eo mP8 Mb X ∧ ∀ i, i < 6 → X 438 i = potD M lv nf d i := by
  have h6 := hLb.nf6
  have hN := hLb.kQ (mP8_Q kN)
  have r35 : N 437 35 = r 35 := (kN 437 35 (by unfold mP8 mV; omega)).trans rb
  have fA : Eo mP8 Mb (fl N 438 0 6 (potD N lv nf d)) := fun c j w => by rw [fl_out (by unfold mP8 at w; omega)]; exact kN c j w
  have mN : ∀ c j, 411 ≤ c → c ≤ 432 → N c j = M c j := fun c j a b => (mQ_M (mP8_Q kN) c j a b).trans (mb c j a b)
  have pA : ∀ i, i < 6 → fl N 438 0 6 (potD N lv nf d) 438 i = potD M lv nf d i := fun i hi => by rw [fl_in (by omega), Nat.sub_zero, potD_k mN]
  have rA : fl N 438 0 6 (potD N lv nf d) 437 35 = r 35 := by rw [fl_out (by omega)]; exact r35
  have pot : F_Mod_fillsPot (nI d) N = some (fl N 438 0 6 (potD N lv nf d)) := m_fillsPot hN hd
  generalize fl N 438 0 6 (potD N lv nf d) = A at fA pA rA pot
  have hA := hLb.kQ (mP8_Q fA)
  have mA : ∀ c j, 411 ≤ c → c ≤ 432 → A c j = M c j := fun c j a b => (mQ_M (mP8_Q fA) c j a b).trans (mb c j a b)
  have hPot : Pot A lv nf d none := fun i hi => by rw [pA i hi, if_neg (fun z => nomatch z), potD_k mA]
  obtain ⟨X, y1, y2⟩ := hPot.force hA (j := k) (fun f w => nomatch w) hk
  rw [disS_k mA, rA, mA 416 _ (by decide) (by decide)] at y1
  exact ⟨A, X, pot, y1, fA.tr (mV_P8 y2), fun i hi => (y2 438 i (by unfold mV; omega)).trans (pA i hi)⟩
theorem m_chB (hLb : Lnd ld lv nf nd ng ne Mb) (mb : ∀ c j, 411 ≤ c → c ≤ 432 → Mb c j = M c j) (rb : Mb 437 35 = r 35) {d f k : Nat} (hf : f < nf) (hk : k < 3) {X : gM} (kX : Eo mP8 Mb X) (pX : ∀ i, i < 6 → X 438 i = potD M lv nf d i) : ∃ X2, F_Mod_forceBy (nI k) (M 416 (5 * lv + d)) (uM X 438 f (X 438 f + 1)) = some (disS M lv nf d (some f) k (r 35), X2) ∧ Eo mP8 Mb X2 := by
  have h6 := hLb.nf6
  have fB : Eo mP8 Mb (uM X 438 f (X 438 f + 1)) := kX.u (Or.inr rfl)
  have pB : ∀ i, i < 6 → uM X 438 f (X 438 f + 1) 438 i = if some f = some i then potD M lv nf d i + 1 else potD M lv nf d i := fun i hi => by
    by_cases w : f = i
    · rw [w, uM_same, if_pos rfl, pX i hi]
    · rw [uM_diff (by omega), if_neg (fun z => w (Option.some.inj z)), pX i hi]
  have rB : uM X 438 f (X 438 f + 1) 437 35 = r 35 := by rw [uM_diff (by omega), kX 437 35 (by unfold mP8 mV; omega)]; exact rb
  generalize uM X 438 f (X 438 f + 1) = B at fB pB rB ⊢
  have hB := hLb.kQ (mP8_Q fB)
  have mB : ∀ c j, 411 ≤ c → c ≤ 432 → B c j = M c j := fun c j a b => (mQ_M (mP8_Q fB) c j a b).trans (mb c j a b)
  have hPotB : Pot B lv nf d (some f) := fun i hi => by rw [pB i hi, potD_k mB i]
  obtain ⟨X2, z1, z2⟩ := hPotB.force hB (j := k) (fun x w => Option.some.inj w ▸ hf) hk
  rw [disS_k mB, rB, mB 416 _ (by decide) (by decide)] at z1
  exact ⟨X2, z1, fB.tr (mV_P8 z2)⟩
theorem m_chS (hLb : Lnd ld lv nf nd ng ne Mb) (mb : ∀ c j, 411 ≤ c → c ≤ 432 → Mb c j = M c j) (rb : Mb 437 35 = r 35) {d f : Nat} (hd : d < nd) (hf : f < nf) {w v4 v5 : Int32} {K : Int32 → Int32 → Int32 → gM → Option (Int32 × gM)} {N : gM} {g k : Nat} {acc : Int32} (hk : k < 3) (kN : Eo mP8 Mb N) : ∃ N', H_Mod_pinch_66 K (nI d) w (M 416 (5 * lv + d)) v4 v5 (nI f) (g + 1) acc (nI k) N = H_Mod_pinch_66 K (nI d) w (M 416 (5 * lv + d)) v4 v5 (nI f) g (acc + chJ M lv nf d f (r 35) k) (nI (k + 1)) N' ∧ Eo mP8 Mb N' := by
  have h6 := hLb.nf6
  obtain ⟨A, X, y0, y1, y2, y3⟩ := m_chA (nf := nf) hLb mb rb hd hk kN
  obtain ⟨X2, z1, z2⟩ := m_chB hLb mb rb (d := d) hf hk y2 y3
  have e3 : ¬ (3 : Int32) ≤ nI k := by rw [show (3 : Int32) = nI 3 from rfl, nI_leI (by omega) (by omega)]; omega
  have eg : ¬ (nI f < 0 ∨ 6 ≤ (nI f).toNatClampNeg) := nI_in (by omega) (by omega)
  have ec : (nI f).toNatClampNeg = f := nI_clamp (by omega)
  refine ⟨X2, ?_, z2⟩
  show B_Mod_pinch_66 K (nI d) w (M 416 (5 * lv + d)) v4 v5 (nI f) (H_Mod_pinch_66 K (nI d) w (M 416 (5 * lv + d)) v4 v5 (nI f) g) acc (nI k) N = _
  generalize H_Mod_pinch_66 K (nI d) w (M 416 (5 * lv + d)) v4 v5 (nI f) g = H
  unfold B_Mod_pinch_66
  rw [if_neg e3, y0, bI_s, y1, bI2_s, if_neg eg, if_neg eg, ec, nmM_e, z1, bI2_s, chJ_r.2, bI_s, nmI_e, nmI_e, nI_1]
def chP (M : gM) (lv nf d f : Nat) (day : Int32) : Nat → Int32
  | 0 => 0
  | k + 1 => chP M lv nf d f day k + chJ M lv nf d f day k
theorem chP_3 {d f : Nat} {day : Int32} : chP M lv nf d f day 3 = chS M lv nf d f day := rfl
theorem m_chK (hLb : Lnd ld lv nf nd ng ne Mb) (mb : ∀ c j, 411 ≤ c → c ≤ 432 → Mb c j = M c j) (rb : Mb 437 35 = r 35) {d f : Nat} (hd : d < nd) (hf : f < nf) {w v4 v5 : Int32} {K : Int32 → Int32 → Int32 → gM → Option (Int32 × gM)} : ∀ (s k g : Nat) (N : gM), k + s = 3 → Eo mP8 Mb N → ∃ X, H_Mod_pinch_66 K (nI d) w (M 416 (5 * lv + d)) v4 v5 (nI f) (g + 1 + s) (chP M lv nf d f (r 35) k) (nI k) N = J_Mod_pinch_120 K (nI d) w (M 416 (5 * lv + d)) v4 v5 (nI f) (chP M lv nf d f (r 35) 3) X ∧ Eo mP8 Mb X := by
  intro s
  induction s with
  | zero =>
    intro k g N hk kN
    obtain rfl : k = 3 := by omega
    refine ⟨N, ?_, kN⟩
    generalize chP M lv nf d f (r 35) 3 = acc
    show B_Mod_pinch_66 K (nI d) w (M 416 (5 * lv + d)) v4 v5 (nI f) (H_Mod_pinch_66 K (nI d) w (M 416 (5 * lv + d)) v4 v5 (nI f) g) acc (nI 3) N = _
    generalize H_Mod_pinch_66 K (nI d) w (M 416 (5 * lv + d)) v4 v5 (nI f) g = H
    unfold B_Mod_pinch_66
    rw [if_pos (by decide)]
  | succ s ih =>
    intro k g N hk kN
    obtain ⟨N1, a1, k1⟩ := m_chS (nf := nf) hLb mb rb hd hf (w := w) (v4 := v4) (v5 := v5) (K := K) (g := g + 1 + s) (k := k) (acc := chP M lv nf d f (r 35) k) (by omega) kN
    obtain ⟨X, b1, b2⟩ := ih (k + 1) g N1 (by omega) k1
    exact ⟨X, a1.trans b1, b2⟩
theorem m_change (hLb : Lnd ld lv nf nd ng ne Mb) (mb : ∀ c j, 411 ≤ c → c ≤ 432 → Mb c j = M c j) (rb : Mb 437 35 = r 35) {d f : Nat} (hd : d < nd) (hf : f < nf) {w v4 v5 : Int32} {K : Int32 → Int32 → Int32 → gM → Option (Int32 × gM)} {N0 : gM} (k0 : Eo mP8 Mb N0) : ∃ X, H_Mod_pinch_66 K (nI d) w (M 416 (5 * lv + d)) v4 v5 (nI f) FU 0 0 N0 = J_Mod_pinch_120 K (nI d) w (M 416 (5 * lv + d)) v4 v5 (nI f) (chS M lv nf d f (r 35)) X ∧ Eo mP8 Mb X := by
  obtain ⟨q4, hq4⟩ := FU_k (1 + 3) (by omega)
  obtain ⟨X, b1, b2⟩ := m_chK hLb mb rb hd hf (w := w) (v4 := v4) (v5 := v5) (K := K) 3 0 q4 N0 (by omega) k0
  rw [chP_3] at b1
  refine ⟨X, ?_, b2⟩
  rw [hq4, ← Nat.add_assoc]
  exact b1
theorem pinch_loop (hL : Lnd ld lv nf nd ng ne M) (hS : St D Q nf 64 r M) (hLb : Lnd ld lv nf nd ng ne Mb) (mb : ∀ c j, 411 ≤ c → c ≤ 432 → Mb c j = M c j) (rb : Mb 437 35 = r 35) {d : Nat} (hd : d < nd) {w : Int32} :
    ∀ (s k f f' : Nat) (N N' : gM) (best food food' : Int32), k + s = nf → Kl C0 M zL N zL → Eo mP8 Mb N' → ((k = 0 ∧ best = -1) ∨ (0 < k ∧ food = food')) → ∃ v X Y, H_Main_pinch_32 ld (nI d) w (f + 1 + s) best food (nI k) N = some (v, X) ∧ H_Mod_pinch_46 (nI d) w (M 416 (5 * lv + d)) (f' + 1 + s) food' best (nI k) N' = some (v, Y) := by
  have h6 := hL.nf6
  have h1 := hL.l1
  have h0 := hL.some_ (by omega)
  intro s
  induction s with
  | zero =>
    intro k f f' N N' best food food' hk kN kN' hi
    obtain rfl : k = nf := by omega
    have hN := hL.k0 kN
    have hN' := hLb.kQ (mP8_Q kN')
    obtain rfl : food = food' := by
      rcases hi with ⟨z, _⟩ | ⟨_, z⟩
      · omega
      · exact z
    refine ⟨if w = 0 then food else best, N, N', ?_, ?_⟩
    · show B_Main_pinch_32 ld (nI d) w (H_Main_pinch_32 ld (nI d) w f) best food (nI k) N = _
      unfold B_Main_pinch_32 J_Main_pinch_72
      rw [hN.cf, if_pos (by rw [nI_leI (by omega) (by omega)]; omega)]
      by_cases w0 : w = 0
      · rw [if_pos w0, if_pos w0]
      · rw [if_neg w0, if_neg w0]
    · show B_Mod_pinch_46 (nI d) w (M 416 (5 * lv + d)) (H_Mod_pinch_46 (nI d) w (M 416 (5 * lv + d)) f') food best (nI k) N' = _
      unfold B_Mod_pinch_46 J_Mod_pinch_144
      rw [hN'.l18, if_neg (nI_in (by omega) (by omega)), nI_clamp (by omega), hN'.mf, if_pos (by rw [nI_leI (by omega) (by omega)]; omega)]
      by_cases w0 : w = 0
      · rw [if_pos w0, if_pos w0]
      · rw [if_neg w0, if_neg w0]
  | succ s ih =>
    intro k f f' N N' best food food' hk kN kN' hi
    have hN := hL.k0 kN
    have hN' := hLb.kQ (mP8_Q kN')
    obtain ⟨X, x1, x2⟩ := c_changeBy hL hS hd (f := k) (by omega) kN
    obtain ⟨Y, y1, y2⟩ := m_change hLb mb rb hd (f := k) (by omega) (w := w) (v4 := food') (v5 := best) (K := H_Mod_pinch_46 (nI d) w (M 416 (5 * lv + d)) (f' + 1 + s)) kN'
    have c1 : H_Main_pinch_32 ld (nI d) w (f + 1 + (s + 1)) best food (nI k) N = (if chS M lv nf d k (r 35) ≤ best then H_Main_pinch_32 ld (nI d) w (f + 1 + s) best food (nI (k + 1)) X else H_Main_pinch_32 ld (nI d) w (f + 1 + s) (chS M lv nf d k (r 35)) (nI k) (nI (k + 1)) X) := by
      show B_Main_pinch_32 ld (nI d) w (H_Main_pinch_32 ld (nI d) w (f + 1 + s)) best food (nI k) N = _
      unfold B_Main_pinch_32 J_Main_pinch_66
      rw [hN.cf, if_neg (by rw [nI_leI (by omega) (by omega)]; omega), x1, bI2_s, nmI_e, nmI_e, nI_1]
    have c2 : H_Mod_pinch_46 (nI d) w (M 416 (5 * lv + d)) (f' + 1 + (s + 1)) food' best (nI k) N' = (if best < chS M lv nf d k (r 35) then H_Mod_pinch_46 (nI d) w (M 416 (5 * lv + d)) (f' + 1 + s) (nI k) (chS M lv nf d k (r 35)) (nI (k + 1)) Y else H_Mod_pinch_46 (nI d) w (M 416 (5 * lv + d)) (f' + 1 + s) food' best (nI (k + 1)) Y) := by
      show B_Mod_pinch_46 (nI d) w (M 416 (5 * lv + d)) (H_Mod_pinch_46 (nI d) w (M 416 (5 * lv + d)) (f' + 1 + s)) food' best (nI k) N' = _
      unfold B_Mod_pinch_46
      rw [hN'.l18, if_neg (nI_in (by omega) (by omega)), nI_clamp (by omega), hN'.mf, if_neg (by rw [nI_leI (by omega) (by omega)]; omega), y1]
      unfold J_Mod_pinch_120 J_Mod_pinch_138
      rw [nmI_e, nmI_e, nI_1]
    rw [c1, c2]
    by_cases z : chS M lv nf d k (r 35) ≤ best
    · rw [if_pos z, if_neg (Int32.not_lt.mpr z)]
      refine ih (k + 1) f f' X Y best food food' (by omega) x2 y2 (Or.inr ⟨by omega, ?_⟩)
      rcases hi with ⟨_, e⟩ | ⟨_, e⟩
      · rw [e] at z; exact absurd z (not_m1 chS_0)
      · exact e
    · rw [if_neg z, if_pos (Int32.not_le.mp z)]
      exact ih (k + 1) f f' X Y (chS M lv nf d k (r 35)) (nI k) (nI k) (by omega) x2 y2 (Or.inr ⟨by omega, rfl⟩)
theorem v_pinch (h : G1 q ld M L) (hq : q < 512) (a b : Int32) : ∃ r M1 r' M2, F_Main_pinch ld a b M = some (r, M1) ∧ F_Mod_pinch a b M1 = some (r', M2) ∧ G1 (q + 1) ld M2 L ∧ r = r' := by
  obtain ⟨r, M1, e1, -, k1⟩ := tf_Main_pinch (p1 := a) (p2 := b) (M := M) h.1.la
  have g1 := h.1.kC0 k1
  obtain ⟨r', M2, e2, -, k2⟩ := tf_Mod_pinch (p0 := a) (p1 := b) g1.inv
  refine ⟨r, M1, r', M2, e1, e2, h.q2 (g1.kM1 k2) (k1.mono C0_C1) k2, ?_⟩
  obtain ⟨lv, nf, nd, ng, ne, hL, hS⟩ := h.get
  obtain ⟨hL1, m1, Mc, x1, x2, x3, hLc, mc⟩ := cop hL (k1.mono C0_C1)
  have h5 := hL.nd5
  have h6 := hL.nf6
  have h1 := hL.l1
  unfold F_Main_pinch at e1
  unfold F_Mod_pinch at e2
  rw [hL.cd] at e1
  rcases m_isDish hL1 a with ⟨d1, d2⟩ | ⟨d, hd, rfl, d1, d2⟩
  · rw [d1, bI_s, if_pos rfl] at e1
    rw [d2, bI_s, if_pos rfl] at e2
    exact pair_fin e1 e2 rfl
  rw [d1, bI_s, if_neg (by decide)] at e1
  rw [d2, bI_s, if_neg (by decide)] at e2
  rcases one_in0 b (n := 1) (by decide) with ⟨d1, d2⟩ | ⟨w, hw, rfl, d1, d2⟩
  · rw [show F_Main_isOne b 2 = some 0 from d1, bI_s, if_pos rfl] at e1
    rw [show F_Mod_in b 0 1 = some 0 from d2, bI_s, if_pos rfl] at e2
    exact pair_fin e1 e2 rfl
  rw [show F_Main_isOne (nI w) 2 = some 1 from d1, bI_s, if_neg (by decide)] at e1
  rw [show F_Mod_in (nI w) 0 1 = some 1 from d2, bI_s, if_neg (by decide), x1, bI_s, hLc.l18, show (5 : Int32) = nI 5 from rfl, nI_mul, nI_add, if_neg (nI_in (by omega) (by omega)), nI_clamp (by omega), nmI_e, mc 416 _ (by decide) (by decide)] at e2
  obtain ⟨f, hf⟩ := FU_k (1 + nf) (by omega)
  obtain ⟨v, X, Y, u1, u2⟩ := pinch_loop hL hS.1 hLc mc (x2 35 (by omega)) hd (w := nI w) nf 0 f f M Mc (-1) (-1) 0 (Nat.zero_add _) Kl.rf Eo.rf (Or.inl ⟨rfl, rfl⟩)
  have c1 : H_Main_pinch_32 ld (nI d) (nI w) FU (-1) (-1) 0 M = some (v, X) := by rw [hf, ← Nat.add_assoc]; exact u1
  have c2 : H_Mod_pinch_46 (nI d) (nI w) (M 416 (5 * lv + d)) FU 0 (-1) 0 Mc = some (v, Y) := by rw [hf, ← Nat.add_assoc]; exact u2
  rw [c1] at e1
  rw [c2] at e2
  exact pair_fin e1 e2 rfl
/-! year -/
theorem year_loop (hL : Lnd ld lv nf nd ng ne M) (hS : St D Q nf 64 r M) (hIb : Inv Mb) (hLb : Lnd ld lv nf nd ng ne Mb) (mb : ∀ c j, 411 ≤ c → c ≤ 432 → Mb c j = M c j) (rb : ∀ k, k < 38 → Mb 436 k = r k) {d j n : Nat} {lim : Int32} (hd : d < nd) (hj : j < 3) (hn : n ≤ 20) (hin : inB M lv d r nf = true) :
    ∀ (s k f f' : Nat) (N N' : gM) (acc : Int32), k + s = n → Kl C0 M zL N zL → Eo mQ Mb N' → ∃ v X Y, H_Main_year_70 ld (nI d) (nI j) lim (nI n) (f + 1 + s) acc (nI k) N = some (v, X) ∧ H_Mod_year_61 (nI d) (nI j) lim (nI n) (f' + 1 + s) acc (nI k) N' = some (v, Y) := by
  have h6 := hL.nf6
  have h5 := hL.nd5
  have h0 := hL.some_ (by omega)
  intro s
  induction s with
  | zero =>
    intro k f f' N N' acc hk kN kN'
    obtain rfl : k = n := by omega
    refine ⟨acc, N, N', ?_, ?_⟩
    · show B_Main_year_70 ld (nI d) (nI j) lim (nI k) (H_Main_year_70 ld (nI d) (nI j) lim (nI k) f) acc (nI k) N = _
      unfold B_Main_year_70
      rw [if_pos (by rw [nI_leI (by omega) (by omega)]; omega)]
    · show B_Mod_year_61 (nI d) (nI j) lim (nI k) (H_Mod_year_61 (nI d) (nI j) lim (nI k) f') acc (nI k) N' = _
      unfold B_Mod_year_61
      rw [if_pos (by rw [nI_leI (by omega) (by omega)]; omega)]
  | succ s ih =>
    intro k f f' N N' acc hk kN kN'
    have hN := hL.k0 kN
    have hN' := hLb.kQ kN'
    have mN := k0_M kN
    have hSN := hS.k0 st64 kN
    obtain ⟨X1, y1, y2⟩ := c_slipInto hN hSN st64 (d := d) (seed := M 423 lv + nI k) hd (by rw [inB_k mN]; exact hin)
    rw [slS_k mN] at y1
    have hsl : ∀ x, slS M lv nf (M 423 lv + nI k) r d = some x → x < nf := fun x w => (slS_lt h0 h6 w).1
    obtain ⟨X2, z1, z2⟩ := c_dishForce (hN.k0 y2) (d := d) (j := j) (more := slS M lv nf (M 423 lv + nI k) r d) (day := r 35) hd hj hsl
    rw [disS_k (k0_M (kN.trans y2))] at z1
    have e64 : X1 64 0 = r 35 := (hSN.k0 st64 y2).d0
    have esd : N ld 4 = M 423 lv := by rw [hN.sd, mN 423 _ (by decide) (by decide)]
    -- the model
    obtain ⟨Mc, w1, w2, w3, w4⟩ := m_copies hN'
    have kc := kN'.tr w4
    have mc : ∀ c j, 411 ≤ c → c ≤ 432 → Mc c j = M c j := fun c j a b => (mQ_M kc c j a b).trans (mb c j a b)
    have rc : ∀ i, i < 38 → Mc 437 i = r i := fun i hi => by rw [w2 i hi, kN' 436 i (by unfold mQ; omega)]; exact rb i hi
    have s54 : Mc 401 54 = M 423 lv := by rw [w3, mQ_M kN' 423 _ (by decide) (by decide), mb 423 _ (by decide) (by decide)]
    have k2 : Eo mQ Mb (uM Mc 401 54 (Mc 401 54 + nI k)) := kc.u (by unfold mQ; omega)
    have t54 : uM Mc 401 54 (Mc 401 54 + nI k) 401 54 = M 423 lv + nI k := by rw [uM_same, s54]
    have r2 : ∀ i, i < 38 → uM Mc 401 54 (Mc 401 54 + nI k) 437 i = r i := fun i hi => by rw [uM_diff (by omega)]; exact rc i hi
    generalize hN2 : uM Mc 401 54 (Mc 401 54 + nI k) = N2 at k2 t54 r2
    have m2 : ∀ c j, 411 ≤ c → c ≤ 432 → N2 c j = M c j := fun c j a b => (mQ_M k2 c j a b).trans (mb c j a b)
    obtain ⟨Y, v1, v2, v3⟩ := m_cooks (hIb.keep inv_MS1 (kQ_M1 k2)) (hLb.kQ k2) hd
    rw [t54, slS_k m2, slS_r h0 h6 r2] at v1 v2
    have v12 : Y 437 (12 + j) = disS M lv nf d (slS M lv nf (M 423 lv + nI k) r d) j (r 35) := by
      rw [v2 (12 + j) (by omega), ckR_k m2, ckR_r r2 _ (by omega)]
      unfold ckR
      rw [if_neg (by omega), if_neg (by omega), if_neg (by omega), if_pos (by omega), show 12 + j - 12 = j by omega]
    have c1 : H_Main_year_70 ld (nI d) (nI j) lim (nI n) (f + 1 + (s + 1)) acc (nI k) N = (if disS M lv nf d (slS M lv nf (M 423 lv + nI k) r d) j (r 35) < lim then H_Main_year_70 ld (nI d) (nI j) lim (nI n) (f + 1 + s) acc (nI (k + 1)) X2 else H_Main_year_70 ld (nI d) (nI j) lim (nI n) (f + 1 + s) (acc + 1) (nI (k + 1)) X2) := by
      show B_Main_year_70 ld (nI d) (nI j) lim (nI n) (H_Main_year_70 ld (nI d) (nI j) lim (nI n) (f + 1 + s)) acc (nI k) N = _
      unfold B_Main_year_70 J_Main_year_126
      rw [if_neg (by rw [nI_leI (by omega) (by omega)]; omega), esd, y1, bI2_s, e64, z1, bI2_s, nmI_e, nmI_e, nmI_e, nI_1]
    have c2 : H_Mod_year_61 (nI d) (nI j) lim (nI n) (f' + 1 + (s + 1)) acc (nI k) N' = (if disS M lv nf d (slS M lv nf (M 423 lv + nI k) r d) j (r 35) < lim then H_Mod_year_61 (nI d) (nI j) lim (nI n) (f' + 1 + s) acc (nI (k + 1)) Y else H_Mod_year_61 (nI d) (nI j) lim (nI n) (f' + 1 + s) (acc + 1) (nI (k + 1)) Y) := by
      show B_Mod_year_61 (nI d) (nI j) lim (nI n) (H_Mod_year_61 (nI d) (nI j) lim (nI n) (f' + 1 + s)) acc (nI k) N' = _
      unfold B_Mod_year_61 J_Mod_year_105
      rw [if_neg (by rw [nI_leI (by omega) (by omega)]; omega), w1, bI_s, nmM_e, hN2, v1, bI2_s, show (12 : Int32) = nI 12 from rfl, nI_add, if_neg (nI_in (by omega) (by omega)), nI_clamp (by omega), v12, nmI_e, nmI_e, nmI_e, nI_1]
    rw [c1, c2]
    have kY := k2.tr (kM1_Q v3)
    have kX := (kN.trans y2).trans z2
    by_cases z : disS M lv nf d (slS M lv nf (M 423 lv + nI k) r d) j (r 35) < lim
    · rw [if_pos z, if_pos z]
      exact ih (k + 1) f f' X2 Y acc (by omega) kX kY
    · rw [if_neg z, if_neg z]
      exact ih (k + 1) f f' X2 Y (acc + 1) (by omega) kX kY
theorem v_year (h : G1 q ld M L) (hq : q < 512) (a b c d : Int32) : ∃ r M1 r' M2, F_Main_year ld a b c d M = some (r, M1) ∧ F_Mod_year a b c d M1 = some (r', M2) ∧ G1 (q + 1) ld M2 L ∧ r = r' := by
  obtain ⟨r, M1, e1, -, k1⟩ := tf_Main_year (p1 := a) (p2 := b) (p3 := c) (p4 := d) (M := M) h.1.la
  have g1 := h.1.kC0 k1
  obtain ⟨r', M2, e2, -, k2⟩ := tf_Mod_year (p0 := a) (p1 := b) (p2 := c) (p3 := d) g1.inv
  refine ⟨r, M1, r', M2, e1, e2, h.q2 (g1.kM1 k2) (k1.mono C0_C1) k2, ?_⟩
  obtain ⟨lv, nf, nd, ng, ne, hL, hS⟩ := h.get
  obtain ⟨hL1, m1, _⟩ := cop hL (k1.mono C0_C1)
  obtain ⟨Mc, x1, x2', x3, x4⟩ := m_copies hL1
  have x2 : ∀ k, k < 38 → Mc 437 k = M 436 k := fun k hk => by rw [x2' k hk, m1 436 k (by omega)]
  have mc : ∀ c j, 411 ≤ c → c ≤ 432 → Mc c j = M c j := fun c j p q => (mQ_M x4 c j p q).trans (m1 c j (by omega))
  have h6 := hL.nf6
  unfold F_Main_year at e1
  unfold F_Mod_year at e2
  rw [hL.cd] at e1
  rcases m_isDish hL1 a with ⟨d1, d2⟩ | ⟨x, hx, rfl, d1, d2⟩
  · rw [d1, bI_s, if_pos rfl] at e1
    rw [d2, bI_s, if_pos rfl] at e2
    exact pair_fin e1 e2 rfl
  rw [d1, bI_s, if_neg (by decide)] at e1
  rw [d2, bI_s, if_neg (by decide)] at e2
  rcases one_in0 b (n := 2) (by decide) with ⟨d1, d2⟩ | ⟨j, hj, rfl, d1, d2⟩
  · rw [show F_Main_isOne b 3 = some 0 from d1, bI_s, if_pos rfl] at e1
    rw [show F_Mod_in b 0 2 = some 0 from d2, bI_s, if_pos rfl] at e2
    exact pair_fin e1 e2 rfl
  rw [show F_Main_isOne (nI j) 3 = some 1 from d1, bI_s, if_neg (by decide)] at e1
  rw [show F_Mod_in (nI j) 0 2 = some 1 from d2, bI_s, if_neg (by decide)] at e2
  rcases one_in0 c (n := 99) (by decide) with ⟨d1, d2⟩ | ⟨l, hl, rfl, d1, d2⟩
  · rw [show F_Main_isOne c 100 = some 0 from d1, bI_s, if_pos rfl] at e1
    rw [show F_Mod_in c 0 99 = some 0 from d2, bI_s, if_pos rfl] at e2
    exact pair_fin e1 e2 rfl
  rw [show F_Main_isOne (nI l) 100 = some 1 from d1, bI_s, if_neg (by decide)] at e1
  rw [show F_Mod_in (nI l) 0 99 = some 1 from d2, bI_s, if_neg (by decide)] at e2
  rcases in_cases d (a := 1) (b := 20) (by decide) (by decide) with ⟨w1, w2⟩ | ⟨n, hn1, hn, rfl, w1⟩
  · rw [show F_Mod_in d 1 20 = some 0 from w1, bI_s, if_pos rfl] at e2
    by_cases z : d < 1
    · rw [if_pos z] at e1
      exact pair_fin e1 e2 rfl
    · rw [if_neg z, if_neg (fun z2 => by
        obtain ⟨k, hk, rfl⟩ := nI_of (fun z3 => z (Int32.lt_trans z3 (by decide)))
        rw [show (1 : Int32) = nI 1 from rfl, nI_ltI (by omega) (by omega)] at z
        rw [show (20 : Int32) = nI 20 from rfl, nI_leI (by omega) (by omega)] at z2
        exact w2 ⟨k, by omega, z2, rfl⟩)] at e1
      exact pair_fin e1 e2 rfl
  rw [show F_Mod_in (nI n) 1 20 = some 1 from w1, bI_s, if_neg (by decide), x1, bI_s, m_isInStore (hL1.kQ x4) hx, bI2_s, inB_k mc, inB_r x2 nf h6] at e2
  rw [if_neg (by rw [show (1 : Int32) = nI 1 from rfl, nI_ltI (by omega) (by omega)]; omega), if_pos (by rw [show (20 : Int32) = nI 20 from rfl, nI_leI (by omega) (by omega)]; exact hn), c_inStore hL hS.1 hx, bI_s] at e1
  by_cases z : inB M lv x (M 436) nf = true
  rotate_left
  · rw [if_neg z, if_pos rfl] at e1 e2
    exact pair_fin e1 e2 rfl
  rw [if_pos z, if_neg (by decide)] at e1 e2
  have f2 : Eo mQ Mc (fl Mc 438 0 6 (potD Mc lv nf x)) := fun c j w => fl_out (by unfold mQ at w; omega)
  generalize fl Mc 438 0 6 (potD Mc lv nf x) = Mb at f2 e2
  have kb := x4.tr f2
  obtain ⟨f, hf⟩ := FU_k (1 + n) (by omega)
  obtain ⟨v, X, Y, u1, u2⟩ := year_loop hL hS.1 (g1.inv.keep inv_MS1 (kQ_M1 kb)) (hL1.kQ kb) (fun c j p q => (mQ_M kb c j p q).trans (m1 c j (by omega))) (fun k hk => by rw [kb 436 k (by unfold mQ; omega), m1 436 k (by omega)]) hx (by omega) hn z (lim := nI l) (j := j) n 0 f f M Mb 0 (Nat.zero_add _) Kl.rf Eo.rf
  have c1 : H_Main_year_70 ld (nI x) (nI j) (nI l) (nI n) FU 0 0 M = some (v, X) := by rw [hf, ← Nat.add_assoc]; exact u1
  have c2 : H_Mod_year_61 (nI x) (nI j) (nI l) (nI n) FU 0 0 Mb = some (v, Y) := by rw [hf, ← Nat.add_assoc]; exact u2
  rw [c1] at e1
  rw [c2] at e2
  exact pair_fin e1 e2 rfl
end TW
end PAR46
end MG16x3
section MG16x4
/-! the ways a dish may lie about: as it is, one more, one less -/
section PAR47
def wF (v : Nat) : Nat := if v ≤ 6 then v - 1 else v - 7
def wD (v : Nat) : Int32 := if v = 0 then 0 else if v ≤ 6 then 1 else -1
def wOk (M : gM) (lv nf d v : Nat) : Bool := decide (v = 0 ∨ (wF v < nf ∧ (v ≤ 6 ∨ (M 417 (6 * (5 * lv + d) + wF v) ≠ 0 ∧ 2 ≤ manS M lv nf d))))
def wMan (M : gM) (lv nf d v : Nat) : Int32 := manS M lv nf d + wD v
def wSum (M : gM) (lv nf d v j : Nat) : Int32 := sumS M lv nf d j + (if v = 0 then 0 else wD v * M 414 (3 * (6 * lv + wF v) + j))
theorem way_n : ∀ n, n < 65 → nI n / 13 = nI (n / 13) ∧ nI n - nI n / 13 * 13 = nI (n % 13) := by decide +kernel
theorem way_v : ∀ v, v < 13 → 0 < v → (nI v - 1) - (nI v - 1) / 6 * 6 = nI (wF v) ∧ wF v < 6 ∧ ((6 : Int32) < nI v ↔ 6 < v) ∧ ¬ nI v = 0 := by decide +kernel
section WY
variable {D Q q ld lv nf nd ng ne : Nat} {M M' M1 Mc Mb : gM} {L : gL} {r : Nat → Int32}
theorem man_in (h : Lnd ld lv nf nd ng ne M) {d : Nat} (hd : d < nd) : ∃ m, 1 ≤ m ∧ m ≤ 6 ∧ manS M lv nf d = nI m := by
  have h6 := h.nf6
  obtain ⟨_, A, hA, h1, h2⟩ := h.2.2.2.2.1.2.1.1 d hd
  refine ⟨A 0 + A 1 + A 2 + A 3 + A 4 + A 5, h1, h2, ?_⟩
  have e1 : sm (fun f => M 417 (6 * (5 * lv + d) + f)) (nf + (6 - nf)) = sm (fun f => M 417 (6 * (5 * lv + d) + f)) nf := sm_z (6 - nf) (fun k a b => by
    obtain ⟨_, z1, z2⟩ := hA k (by omega)
    show M 417 (6 * (5 * lv + d) + k) = 0
    rw [z1, show A k = 0 by omega]; rfl)
  rw [show nf + (6 - nf) = 6 by omega] at e1
  unfold manS
  rw [← e1]
  show (0 : Int32) + M 417 (6 * (5 * lv + d) + 0) + M 417 (6 * (5 * lv + d) + 1) + M 417 (6 * (5 * lv + d) + 2) + M 417 (6 * (5 * lv + d) + 3) + M 417 (6 * (5 * lv + d) + 4) + M 417 (6 * (5 * lv + d) + 5) = _
  rw [(hA 0 (by decide)).2.1, (hA 1 (by decide)).2.1, (hA 2 (by decide)).2.1, (hA 3 (by decide)).2.1, (hA 4 (by decide)).2.1, (hA 5 (by decide)).2.1, Int32.zero_add, nI_add, nI_add, nI_add, nI_add, nI_add]
theorem m_isFoodN (h : Lnd ld lv nf nd ng ne M) {f : Nat} (hf : f < 6) : F_Mod_isFood (nI f) M = some (if f < nf then 1 else 0) := by
  have h6 := h.nf6
  have h1 := h.l1
  unfold F_Mod_isFood
  rw [h.l18, if_neg (nI_in (by omega) (by omega)), nI_clamp (by omega), h.mf, one_in_eq _ (by omega)]
  unfold F_Main_isOne
  rw [if_neg (nI_pos (by omega))]
  by_cases w : f < nf
  · rw [if_neg (by rw [nI_leI (by omega) (by omega)]; omega), if_pos w, bI_s, if_pos (Or.inr rfl)]
  · rw [if_pos (by rw [nI_leI (by omega) (by omega)]; omega), if_neg w, bI_s, if_pos (Or.inl rfl)]
theorem wOk_f {d v : Nat} (h : ¬ (v = 0 ∨ (wF v < nf ∧ (v ≤ 6 ∨ (M 417 (6 * (5 * lv + d) + wF v) ≠ 0 ∧ 2 ≤ manS M lv nf d))))) : wOk M lv nf d v = false := decide_eq_false h
theorem wOk_t {d v : Nat} (h : v = 0 ∨ (wF v < nf ∧ (v ≤ 6 ∨ (M 417 (6 * (5 * lv + d) + wF v) ≠ 0 ∧ 2 ≤ manS M lv nf d)))) : wOk M lv nf d v = true := decide_eq_true h
/-- the model fills the pot with a way -/
theorem m_fillsWay (h : Lnd ld lv nf nd ng ne M) {d v : Nat} (hd : d < nd) (hv : v < 13) : ∃ A, F_Mod_fillsWay (nI (13 * d + v)) M = some (if wOk M lv nf d v = true then 1 else 0, A) ∧ (∀ c j, c ≠ 438 → A c j = M c j) ∧ (wOk M lv nf d v = true → ∀ i, i < 6 → A 438 i = if v ≠ 0 ∧ i = wF v then potD M lv nf d i + wD v else potD M lv nf d i) := by
  have h6 := h.nf6
  have h5 := h.nd5
  obtain ⟨n1, n2⟩ := way_n (13 * d + v) (by omega)
  rw [n1, show (13 * d + v) / 13 = d by omega, show (13 * d + v) % 13 = v by omega] at n2
  rw [show (13 * d + v) / 13 = d by omega] at n1
  unfold F_Mod_fillsWay
  rw [n1, m_fillsPot h hd, bI_s, nmI_e, n2]
  have f1 : ∀ c j, c ≠ 438 → fl M 438 0 6 (potD M lv nf d) c j = M c j := fun c j w => fl_out (by omega)
  have p1 : ∀ i, i < 6 → fl M 438 0 6 (potD M lv nf d) 438 i = potD M lv nf d i := fun i hi => by rw [fl_in (by omega), Nat.sub_zero]
  generalize fl M 438 0 6 (potD M lv nf d) = N at f1 p1 ⊢
  have hN : Lnd ld lv nf nd ng ne N := h.kQ (fun c j w => f1 c j (by unfold mQ at w; omega))
  by_cases v0 : v = 0
  · rw [v0, if_pos (show nI 0 = 0 from rfl), wOk_t (Or.inl rfl), if_pos rfl]
    exact ⟨N, rfl, f1, fun _ i hi => by rw [if_neg (fun z => z.1 rfl)]; exact p1 i hi⟩
  obtain ⟨t1, t2, t3, t4⟩ := way_v v hv (by omega)
  rw [if_neg t4, nmI_e, t1, m_isFoodN hN t2, bI_s]
  by_cases wf : wF v < nf
  rotate_left
  · rw [if_neg wf, if_pos rfl, wOk_f (fun z => by omega), if_neg (by decide)]
    exact ⟨N, rfl, f1, fun z => nomatch z⟩
  rw [if_pos wf, if_neg (by decide)]
  have gd : ¬ (nI (wF v) < 0 ∨ 6 ≤ (nI (wF v)).toNatClampNeg) := nI_in (by omega) (by omega)
  have gc : (nI (wF v)).toNatClampNeg = wF v := nI_clamp (by omega)
  have pw : N 438 (wF v) = M 417 (6 * (5 * lv + d) + wF v) := by
    rw [p1 _ t2]; unfold potD; rw [if_pos wf]
  by_cases v6 : v ≤ 6
  · rw [if_neg (fun z => by rw [t3] at z; omega), if_neg gd, if_neg gd, gc, nmM_e, wOk_t (Or.inr ⟨wf, Or.inl v6⟩), if_pos rfl]
    refine ⟨_, rfl, fun c j w => by rw [uM_diff (by omega)]; exact f1 c j w, fun _ i hi => ?_⟩
    by_cases wi : i = wF v
    · rw [if_pos ⟨v0, wi⟩, wi, uM_same, p1 _ t2]
      unfold wD
      rw [if_neg v0, if_pos v6]
    · rw [if_neg (fun z => wi z.2), uM_diff (by omega)]; exact p1 i hi
  rw [if_pos (by rw [t3]; omega), if_neg gd, gc, pw]
  by_cases w0 : M 417 (6 * (5 * lv + d) + wF v) = 0
  · rw [if_pos w0, wOk_f (fun z => by
      rcases z with z | ⟨_, z | ⟨z, _⟩⟩
      · omega
      · omega
      · exact z w0), if_neg (by decide)]
    exact ⟨N, rfl, f1, fun z => nomatch z⟩
  have hm : F_Mod_potMany N = some (manS M lv nf d) := by
    have pN : ∀ f, f < 6 → N 438 f = potD N lv nf d f := fun f hf => by
      rw [p1 f hf]; unfold potD; rw [f1 417 _ (by decide)]
    rw [m_potMany, potD_man pN h6, manS_k (fun c j a b => f1 c j (by omega))]
  rw [if_neg w0, hm, bI_s]
  by_cases w2 : 2 ≤ manS M lv nf d
  · have gd2 : ¬ (nI (wF v) < 0 ∨ 6 ≤ wF v) := not_or.mpr ⟨nI_pos (by omega), by omega⟩
    rw [if_pos w2, if_neg gd2, if_neg gd2, nmM_e, wOk_t (Or.inr ⟨wf, Or.inr ⟨w0, w2⟩⟩), if_pos rfl]
    refine ⟨_, rfl, fun c j w => by rw [uM_diff (by omega)]; exact f1 c j w, fun _ i hi => ?_⟩
    by_cases wi : i = wF v
    · rw [if_pos ⟨v0, wi⟩, wi, uM_same]
      unfold potD wD
      rw [if_pos wf, if_neg v0, if_neg v6, Int32.sub_eq_add_neg]
    · rw [if_neg (fun z => wi z.2), uM_diff (by omega)]; exact p1 i hi
  · rw [if_neg w2, wOk_f (fun z => by
      rcases z with z | ⟨_, z | ⟨_, z⟩⟩
      · omega
      · omega
      · exact w2 z), if_neg (by decide)]
    exact ⟨N, rfl, f1, fun z => nomatch z⟩
/-- the force of a way -/
def wFo (M : gM) (lv nf d v : Nat) (kind heat day : Int32) : Int32 := potS M lv kind (wSum M lv nf d v kind.toInt.toNat) heat (wMan M lv nf d v) day
theorem m_wayForce (h : Lnd ld lv nf nd ng ne M) {d v j : Nat} {heat : Int32} (hv : v < 13) (hw : wOk M lv nf d v = true) (hp : ∀ i, i < 6 → M 438 i = if v ≠ 0 ∧ i = wF v then potD M lv nf d i + wD v else potD M lv nf d i) (hj : j < 3) : ∃ M', F_Mod_forceBy (nI j) heat M = some (wFo M lv nf d v (nI j) heat (M 437 35), M') ∧ Eo mV M M' := by
  have h6 := h.nf6
  obtain ⟨M', e1, e2⟩ := m_forceBy h (j := j) (heat := heat) hj
  refine ⟨M', ?_, e2⟩
  rw [e1]
  unfold wFo
  rw [nI_tn (by omega)]
  have e3 : sm (potD M lv nf d) (nf + (6 - nf)) = sm (potD M lv nf d) nf := sm_z (6 - nf) (fun k a b => by unfold potD; rw [if_neg (by omega)])
  rw [show nf + (6 - nf) = 6 by omega] at e3
  have e4 : sm (potD M lv nf d) 6 = manS M lv nf d := by
    rw [e3]
    unfold manS
    exact sm_c nf (fun k hk => by unfold potD; rw [if_pos hk])
  have e5 : sm (fun f => potD M lv nf d f * M 414 (3 * (6 * lv + f) + j)) nf = sumS M lv nf d j := by
    unfold sumS
    exact sm_c nf (fun k hk => by unfold potD; rw [if_pos hk])
  by_cases v0 : v = 0
  · have p0 : ∀ i, i < 6 → M 438 i = potD M lv nf d i := fun i hi => by rw [hp i hi, if_neg (fun z => z.1 v0)]
    have a1 : sm (M 438) 6 = wMan M lv nf d v := by
      rw [sm_c 6 p0, e4]
      unfold wMan wD
      rw [if_pos v0, Int32.add_zero]
    have a2 : sm (fun f => M 438 f * M 414 (3 * (6 * lv + f) + j)) nf = wSum M lv nf d v j := by
      rw [sm_c nf (g' := fun f => potD M lv nf d f * M 414 (3 * (6 * lv + f) + j)) (fun k hk => by rw [p0 k (by omega)]), e5]
      unfold wSum
      rw [if_pos v0, Int32.add_zero]
    rw [a1, a2]
  · obtain ⟨t1, t2, t3, t4⟩ := way_v v hv (by omega)
    have wf : wF v < nf := by
      have := of_decide_eq_true hw
      rcases this with z | ⟨z, _⟩
      · exact absurd z v0
      · exact z
    have a1 : sm (M 438) 6 = wMan M lv nf d v := by
      rw [sm_c 6 (g' := fun i => if i = wF v then potD M lv nf d i + wD v else potD M lv nf d i) (fun k hk => by
        rw [hp k hk]
        by_cases w : k = wF v
        · rw [if_pos ⟨v0, w⟩, if_pos w]
        · rw [if_neg (fun z => w z.2), if_neg w])]
      rw [sm_u (g := potD M lv nf d) (x := wF v) (e := wD v) (by rw [if_pos rfl]) (fun k hk => by rw [if_neg hk]) 6, if_pos t2, e4]
      rfl
    have a2 : sm (fun f => M 438 f * M 414 (3 * (6 * lv + f) + j)) nf = wSum M lv nf d v j := by
      rw [sm_c nf (g' := fun f => if f = wF v then potD M lv nf d f * M 414 (3 * (6 * lv + f) + j) + wD v * M 414 (3 * (6 * lv + wF v) + j) else potD M lv nf d f * M 414 (3 * (6 * lv + f) + j)) (fun k hk => by
        rw [hp k (by omega)]
        by_cases w : k = wF v
        · rw [if_pos ⟨v0, w⟩, if_pos w, Int32.add_mul, w]
        · rw [if_neg (fun z => w z.2), if_neg w])]
      rw [sm_u (g := fun f => potD M lv nf d f * M 414 (3 * (6 * lv + f) + j)) (x := wF v) (e := wD v * M 414 (3 * (6 * lv + wF v) + j)) (by rw [if_pos rfl]) (fun k hk => by rw [if_neg hk]) nf, if_pos wf, e5]
      unfold wSum
      rw [if_neg v0]
    rw [a1, a2]
end WY
end PAR47
end MG16x4
section MG16x5
/-! the class: a way's row, and whether it is as known -/
section PAR48
section TO
variable {D Q q ld lv nf nd ng ne : Nat} {M M' M1 Mc Mb : gM} {L : gL} {r : Nat → Int32}
theorem Lnd.kRow (h : Lnd ld lv nf nd ng ne M) (e : ∀ x y, ¬ ((387 ≤ x ∧ x ≤ 389) ∨ (x = 383 ∧ y = 7)) → M' x y = M x y) : Lnd ld lv nf nd ng ne M' := h.keep (fun c j q => e c j (by have := gv_num q; omega))
theorem wSum_k (e : ∀ c j, 411 ≤ c → c ≤ 432 → M' c j = M c j) {d v j : Nat} : wSum M' lv nf d v j = wSum M lv nf d v j := by
  unfold wSum; rw [sumS_k e, e 414 _ (by decide) (by decide)]
theorem wMan_k (e : ∀ c j, 411 ≤ c → c ≤ 432 → M' c j = M c j) {d v : Nat} : wMan M' lv nf d v = wMan M lv nf d v := by
  unfold wMan; rw [manS_k e]
theorem wFo_k (e : ∀ c j, 411 ≤ c → c ≤ 432 → M' c j = M c j) {d v : Nat} {a b c : Int32} : wFo M' lv nf d v a b c = wFo M lv nf d v a b c := by
  unfold wFo; rw [potS_k e, wSum_k e, wMan_k e]
theorem wOk_k (e : ∀ c j, 411 ≤ c → c ≤ 432 → M' c j = M c j) {d v : Nat} : wOk M' lv nf d v = wOk M lv nf d v := by
  unfold wOk; rw [manS_k e, e 417 _ (by decide) (by decide)]
/-- the sums of a way into its row -/
theorem c_laySums (hL : Lnd ld lv nf nd ng ne M) {d v c : Nat} {v5 : Int32} (hd : d < nd) (hv : v < 13) (hc : c ≤ 64) (wf : v ≠ 0 → wF v < nf ∧ v5 = nI (wF v)) : ∀ (s k f : Nat) (N : gM), k + s = 3 → (∀ x y, ¬ ((387 ≤ x ∧ x ≤ 389) ∨ (x = 383 ∧ y = 7)) → N x y = M x y) → N 383 7 = nI c → (∀ j, j < k → N 389 (3 * c + j) = wSum M lv nf d v j) →
    ∃ X, H_Told_lay_115 ld (nI d) (wD v) v5 (f + 1 + s) (nI k) N = some (1, X) ∧ (∀ x y, ¬ (x = 389 ∧ 3 * c + k ≤ y ∧ y < 3 * c + 3) → X x y = N x y) ∧ (∀ j, j < 3 → X 389 (3 * c + j) = wSum M lv nf d v j) := by
  intro s
  induction s with
  | zero =>
    intro k f N hk eN ec e
    obtain rfl : k = 3 := by omega
    refine ⟨N, ?_, fun _ _ _ => rfl, e⟩
    show B_Told_lay_115 ld (nI d) (wD v) v5 (H_Told_lay_115 ld (nI d) (wD v) v5 f) (nI 3) N = _
    generalize H_Told_lay_115 ld (nI d) (wD v) v5 f = H
    unfold B_Told_lay_115
    rw [if_pos (by decide)]
  | succ s ih =>
    intro k f N hk eN ec e
    have hN := hL.kRow eN
    have mN : ∀ c j, 411 ≤ c → c ≤ 432 → N c j = M c j := fun x y a b => eN x y (by omega)
    obtain ⟨X, z1, z2, z3⟩ := ih (k + 1) f (uM N 389 (3 * c + k) (wSum M lv nf d v k)) (by omega) (fun x y w => by rw [uM_diff (by omega)]; exact eN x y w) (by rw [uM_diff (by omega)]; exact ec) (fun j hj => by
      by_cases w : j = k
      · rw [w, uM_same]
      · rw [uM_diff (by omega)]; exact e j (by omega))
    refine ⟨X, ?_, fun x y w => by rw [z2 x y (by omega), uM_diff (by omega)], z3⟩
    rw [← z1]
    show B_Told_lay_115 ld (nI d) (wD v) v5 (H_Told_lay_115 ld (nI d) (wD v) v5 (f + 1 + s)) (nI k) N = _
    generalize H_Told_lay_115 ld (nI d) (wD v) v5 (f + 1 + s) = H
    unfold B_Told_lay_115 J_Told_lay_141
    have e3 : ¬ (3 : Int32) ≤ nI k := by rw [show (3 : Int32) = nI 3 from rfl, nI_leI (by omega) (by omega)]; omega
    have es : F_Land_sumOf ld (nI d) (nI k) N = some (sumS M lv nf d k) := by rw [c_sumOf hN hd (by omega), sumS_k mN]
    have ei : ∀ x : Int32, x = nI c → x * 3 + nI k = nI (3 * c + k) := fun x w => by
      rw [w, show (3 : Int32) = nI 3 from rfl, nI_mul, nI_add, Nat.mul_comm]
    rw [if_neg e3]
    by_cases v0 : v = 0
    · have d0 : wD v = 0 := by unfold wD; rw [if_pos v0]
      rw [if_pos d0, es, bI_s, ei _ ec, s_put (by omega) (by decide), bI_s, nmI_e, nI_1]
      unfold wSum
      rw [if_pos v0]
    · obtain ⟨w1, w2⟩ := wf v0
      have d0 : ¬ wD v = 0 := by
        unfold wD
        rw [if_neg v0]
        by_cases v6 : v ≤ 6
        · rw [if_pos v6]; decide
        · rw [if_neg v6]; decide
      rw [if_neg d0, w2, c_brought hN w1 (by omega), mN 414 _ (by decide) (by decide), bI_s, es, bI_s, ei _ ec, s_put (by omega) (by decide), bI_s, nmI_e, nI_1]
      unfold wSum
      rw [if_neg v0]
end TO
end PAR48
end MG16x5
section MG16x6
/-! a way laid, and held against what is known: both halves -/
section PAR49
theorem way_c : ∀ v, v < 13 → 0 < v → (v ≤ 6 → nI v - 1 = nI (wF v)) ∧ (6 < v → (nI v - 1) - 6 = nI (wF v)) := by decide +kernel
theorem man_2 : ∀ m, m < 7 → 1 ≤ m → ((2 : Int32) ≤ nI m ↔ (1 : Int32) ≤ nI m + -1) ∧ (1 : Int32) ≤ nI m + 0 ∧ (1 : Int32) ≤ nI m + 1 := by decide +kernel
def kP (M : gM) (lv nf d v : Nat) (day : Int32) (i : Nat) : Bool := decide (wFo M lv nf d v (M 441 i) (M 442 i) day = M 443 i)
def allK (p : Nat → Bool) : Nat → Nat → Bool
  | 0, _ => true
  | s + 1, i => p i && allK p s (i + 1)
section KN
variable {D Q q ld lv nf nd ng ne : Nat} {M M' M1 Mc Mb : gM} {L : gL} {r : Nat → Int32}
theorem c_layT (hL : Lnd ld lv nf nd ng ne M) {d v c : Nat} {v5 : Int32} (hd : d < nd) (hv : v < 13) (hc : c ≤ 64) (ec : M 383 7 = nI c) (wf : v ≠ 0 → wF v < nf ∧ v5 = nI (wF v)) (h1 : 1 ≤ wMan M lv nf d v) : ∃ X, J_Told_lay_79 ld (nI d) (wD v) v5 (wMan M lv nf d v) M = some (1, X) ∧ (∀ x y, ¬ (387 ≤ x ∧ x ≤ 389) → X x y = M x y) ∧ (∀ y, y < c → X 387 y = M 387 y ∧ X 388 y = M 388 y) ∧ (∀ y, y < 3 * c → X 389 y = M 389 y) ∧ X 387 c = nI d ∧ X 388 c = wMan M lv nf d v ∧ ∀ j, j < 3 → X 389 (3 * c + j) = wSum M lv nf d v j := by
  obtain ⟨g, hg⟩ := FU_k (1 + 3) (by omega)
  obtain ⟨X, z1, z2, z3⟩ := c_laySums hL hd hv hc wf 3 0 g (uM (uM M 387 c (nI d)) 388 c (wMan M lv nf d v)) (by omega) (fun x y w => by rw [uM_diff (by omega), uM_diff (by omega)]) (by rw [uM_diff (by omega), uM_diff (by omega)]; exact ec) (fun j hj => absurd hj (Nat.not_lt_zero _))
  have c1 : H_Told_lay_115 ld (nI d) (wD v) v5 FU 0 (uM (uM M 387 c (nI d)) 388 c (wMan M lv nf d v)) = some (1, X) := by rw [hg, ← Nat.add_assoc]; exact z1
  have e7 : uM M 387 c (nI d) 383 7 = nI c := by rw [uM_diff (by omega)]; exact ec
  refine ⟨X, ?_, fun x y w => ?_, fun y hy => ⟨?_, ?_⟩, fun y hy => ?_, ?_, ?_, z3⟩
  · unfold J_Told_lay_79
    rw [if_pos h1, ec, s_put (by omega) (by decide), bI_s, e7, s_put (by omega) (by decide), bI_s]
    exact c1
  · rw [z2 x y (by omega), uM_diff (by omega), uM_diff (by omega)]
  · rw [z2 387 y (by omega), uM_diff (by omega), uM_diff (by omega)]
  · rw [z2 388 y (by omega), uM_diff (by omega), uM_diff (by omega)]
  · rw [z2 389 y (by omega), uM_diff (by omega), uM_diff (by omega)]
  · rw [z2 387 c (by omega), uM_diff (by omega), uM_same]
  · rw [z2 388 c (by omega), uM_same]
theorem c_lay (hL : Lnd ld lv nf nd ng ne M) {d v c : Nat} (hd : d < nd) (hv : v < 13) (hc : c ≤ 64) (ec : M 383 7 = nI c) : ∃ X, F_Told_lay ld (nI d) (nI v) M = some (if wOk M lv nf d v = true then 1 else 0, X) ∧ (∀ x y, ¬ (387 ≤ x ∧ x ≤ 389) → X x y = M x y) ∧ (∀ y, y < c → X 387 y = M 387 y ∧ X 388 y = M 388 y) ∧ (∀ y, y < 3 * c → X 389 y = M 389 y) ∧ (wOk M lv nf d v = true → X 387 c = nI d ∧ X 388 c = wMan M lv nf d v ∧ ∀ j, j < 3 → X 389 (3 * c + j) = wSum M lv nf d v j) := by
  have h6 := hL.nf6
  obtain ⟨m, hm1, hm6, em⟩ := man_in hL hd
  obtain ⟨b1, b2, b3⟩ := man_2 m (by omega) hm1
  have no : F_Told_lay ld (nI d) (nI v) M = some (0, M) → wOk M lv nf d v = false → ∃ X, F_Told_lay ld (nI d) (nI v) M = some (if wOk M lv nf d v = true then 1 else 0, X) ∧ (∀ x y, ¬ (387 ≤ x ∧ x ≤ 389) → X x y = M x y) ∧ (∀ y, y < c → X 387 y = M 387 y ∧ X 388 y = M 388 y) ∧ (∀ y, y < 3 * c → X 389 y = M 389 y) ∧ (wOk M lv nf d v = true → X 387 c = nI d ∧ X 388 c = wMan M lv nf d v ∧ ∀ j, j < 3 → X 389 (3 * c + j) = wSum M lv nf d v j) := fun e w => ⟨M, by rw [e, w]; rfl, fun _ _ _ => rfl, fun _ _ => ⟨rfl, rfl⟩, fun _ _ => rfl, fun z => by rw [w] at z; cases z⟩
  have yes : ∀ v5, F_Told_lay ld (nI d) (nI v) M = J_Told_lay_79 ld (nI d) (wD v) v5 (wMan M lv nf d v) M → wOk M lv nf d v = true → (v ≠ 0 → wF v < nf ∧ v5 = nI (wF v)) → 1 ≤ wMan M lv nf d v → ∃ X, F_Told_lay ld (nI d) (nI v) M = some (if wOk M lv nf d v = true then 1 else 0, X) ∧ (∀ x y, ¬ (387 ≤ x ∧ x ≤ 389) → X x y = M x y) ∧ (∀ y, y < c → X 387 y = M 387 y ∧ X 388 y = M 388 y) ∧ (∀ y, y < 3 * c → X 389 y = M 389 y) ∧ (wOk M lv nf d v = true → X 387 c = nI d ∧ X 388 c = wMan M lv nf d v ∧ ∀ j, j < 3 → X 389 (3 * c + j) = wSum M lv nf d v j) := fun v5 e w wf h1 => by
    obtain ⟨X, z1, z2, z3, z4, z5⟩ := c_layT hL hd hv hc ec wf h1
    exact ⟨X, by rw [e, z1, w]; rfl, z2, z3, z4, fun _ => z5⟩
  by_cases v0 : v = 0
  · have d0 : wD v = 0 := by unfold wD; rw [if_pos v0]
    refine yes ((nI v - 1) - 6) ?_ (wOk_t (Or.inl v0)) (fun z => absurd v0 z) (by unfold wMan; rw [d0, em]; exact b2)
    unfold F_Told_lay J_Told_lay_19 J_Told_lay_38 J_Told_lay_64 wMan
    rw [d0, if_pos (show nI v = 0 by rw [v0]; rfl), if_pos (show (0 : Int32) ≤ 0 by decide), c_manyIn hL hd, bI_s, nmI_e, if_pos rfl, if_pos (show (0 : Int32) ≤ 0 by decide)]
  obtain ⟨t1, t2, t3, t4⟩ := way_v v hv (by omega)
  obtain ⟨c1, c2⟩ := way_c v hv (by omega)
  by_cases v6 : v ≤ 6
  · have d1 : wD v = 1 := by unfold wD; rw [if_neg v0, if_pos v6]
    have e0 : F_Told_lay ld (nI d) (nI v) M = (if nI nf ≤ nI (wF v) then some (0, M) else J_Told_lay_79 ld (nI d) (wD v) (nI (wF v)) (wMan M lv nf d v) M) := by
      unfold F_Told_lay J_Told_lay_19 J_Told_lay_38 J_Told_lay_64 wMan
      rw [d1, if_neg t4, if_neg (fun z => by rw [t3] at z; omega), if_neg (show ¬ (1 : Int32) ≤ 0 by decide), c_manyIn hL hd, bI_s, nmI_e, if_neg (show ¬ (1 : Int32) = 0 by decide), hL.cf, c1 v6, if_pos (show (0 : Int32) ≤ 1 by decide)]
    by_cases wf : wF v < nf
    · exact yes (nI (wF v)) (by rw [e0, if_neg (by rw [nI_leI (by omega) (by omega)]; omega)]) (wOk_t (Or.inr ⟨wf, Or.inl v6⟩)) (fun _ => ⟨wf, rfl⟩) (by unfold wMan; rw [d1, em]; exact b3)
    · exact no (by rw [e0, if_pos (by rw [nI_leI (by omega) (by omega)]; omega)]) (wOk_f (fun z => by omega))
  · have d1 : wD v = -1 := by unfold wD; rw [if_neg v0, if_neg v6]
    have e0 : F_Told_lay ld (nI d) (nI v) M = (if nI nf ≤ nI (wF v) then some (0, M) else bI (F_Land_inDish ld (nI d) (nI (wF v)) M) (fun r24 => if r24 = 0 then some (0, M) else J_Told_lay_79 ld (nI d) (wD v) (nI (wF v)) (wMan M lv nf d v) M)) := by
      unfold F_Told_lay J_Told_lay_19 J_Told_lay_38 J_Told_lay_64 wMan
      rw [d1, if_neg t4, if_pos (by rw [t3]; omega), if_pos (show (-1 : Int32) ≤ 0 by decide), c_manyIn hL hd, bI_s, nmI_e, if_neg (show ¬ (-1 : Int32) = 0 by decide), hL.cf, c2 (by omega), if_neg (show ¬ (0 : Int32) ≤ -1 by decide)]
    by_cases wf : wF v < nf
    rotate_left
    · exact no (by rw [e0, if_pos (by rw [nI_leI (by omega) (by omega)]; omega)]) (wOk_f (fun z => by omega))
    rw [if_neg (by rw [nI_leI (by omega) (by omega)]; omega), c_inDish hL hd t2, bI_s] at e0
    by_cases w0 : M 417 (6 * (5 * lv + d) + wF v) = 0
    · exact no (by rw [e0, if_pos w0]) (wOk_f (fun z => by
        rcases z with z | ⟨_, z | ⟨z, _⟩⟩
        · omega
        · omega
        · exact z w0))
    rw [if_neg w0] at e0
    by_cases w2 : 2 ≤ manS M lv nf d
    · exact yes (nI (wF v)) e0 (wOk_t (Or.inr ⟨wf, Or.inr ⟨w0, w2⟩⟩)) (fun _ => ⟨wf, rfl⟩) (by unfold wMan; rw [d1, em]; rw [em] at w2; exact b1.mp w2)
    · refine no ?_ (wOk_f (fun z => by
        rcases z with z | ⟨_, z | ⟨_, z⟩⟩
        · omega
        · omega
        · exact w2 z))
      rw [e0]
      unfold J_Told_lay_79 wMan
      rw [d1, em, if_neg (fun z => w2 (by rw [em]; exact b1.mpr z))]
/-- the class holds a row against what is known -/
theorem c_known (hL : Lnd ld lv nf nd ng ne M) (hT : Td M) {d v c k : Nat} {day : Int32} (hc : c ≤ 64) (ec : M 383 7 = nI c) (hk : ∃ n, n ≤ 20 ∧ M 383 3 = nI n ∧ k ≤ n) (e8 : M 388 c = wMan M lv nf d v) (e9 : ∀ j, j < 3 → M 389 (3 * c + j) = wSum M lv nf d v j) :
    ∀ (s i f : Nat) (N : gM), i + s = k → Kl C0 M zL N zL → ∃ X, H_Told_isAsKnown_3 ld day (nI k) (f + 1 + s) (nI i) N = some (if allK (kP M lv nf d v day) s i = true then 1 else 0, X) ∧ Kl C0 M zL X zL := by
  obtain ⟨n, hn, en, hkn⟩ := hk
  obtain ⟨n', hn', en', _, ht⟩ := hT
  have nn : n' = n := by
    have := en'.symm.trans en
    have := congrArg (fun x : Int32 => x.toInt.toNat) this
    simpa [nI_tn (show n' < 2 ^ 31 by omega), nI_tn (show n < 2 ^ 31 by omega)] using this
  intro s
  induction s with
  | zero =>
    intro i f N hi kN
    obtain rfl : i = k := by omega
    refine ⟨N, ?_, kN⟩
    show B_Told_isAsKnown_3 ld day (nI i) (H_Told_isAsKnown_3 ld day (nI i) f) (nI i) N = _
    unfold B_Told_isAsKnown_3
    rw [if_pos (by rw [nI_leI (by omega) (by omega)]; omega)]
    rfl
  | succ s ih =>
    intro i f N hi kN
    have hN := hL.k0 kN
    obtain ⟨a, b, w, ha, hb, hw, a1, a2, b1, b2, w1, w2⟩ := ht i (by omega)
    have fr : ∀ x y, 64 ≤ x → x ≠ 390 → N x y = M x y := fun x y p q => kN.m (C0_M p q)
    obtain ⟨X, y1, y2⟩ := c_potForce hN (kind := nI a) (sum := wSum M lv nf d v a) (heat := nI b) (many := wMan M lv nf d v) (day := day)
    have fX : ∀ x y, 64 ≤ x → x ≠ 390 → X x y = N x y := fun x y p q => y2.m (C0_M p q)
    have ef : F_Told_forceOf ld day (N 383 7) (nI a) (nI b) N = some (potS M lv (nI a) (wSum M lv nf d v a) (nI b) (wMan M lv nf d v) day, X) := by
      unfold F_Told_forceOf
      rw [fr 383 7 (by decide) (by decide), ec, show (3 : Int32) = nI 3 from rfl, nI_mul, nI_add, s_at (by omega) (by decide), bI_s, s_at (by omega) (by decide), bI_s, fr 389 _ (by decide) (by decide), Nat.mul_comm c 3, e9 a (by omega), fr 388 _ (by decide) (by decide), e8, y1, bI2_s, potS_k (k0_M kN)]
    have hp : kP M lv nf d v day i = decide (potS M lv (nI a) (wSum M lv nf d v a) (nI b) (wMan M lv nf d v) day = nI w) := by
      unfold kP wFo
      rw [a2, b2, w2, nI_tn (by omega)]
    have e0 : H_Told_isAsKnown_3 ld day (nI k) (f + 1 + (s + 1)) (nI i) N = (if potS M lv (nI a) (wSum M lv nf d v a) (nI b) (wMan M lv nf d v) day = nI w then H_Told_isAsKnown_3 ld day (nI k) (f + 1 + s) (nI (i + 1)) X else some (0, X)) := by
      show B_Told_isAsKnown_3 ld day (nI k) (H_Told_isAsKnown_3 ld day (nI k) (f + 1 + s)) (nI i) N = _
      unfold B_Told_isAsKnown_3
      rw [if_neg (by rw [nI_leI (by omega) (by omega)]; omega), s_at (by omega) (by decide), bI_s, s_at (by omega) (by decide), bI_s, fr 384 _ (by decide) (by decide), fr 385 _ (by decide) (by decide), a1, b1, ef, bI2_s, s_at (by omega) (by decide), bI_s, fX 386 _ (by decide) (by decide), fr 386 _ (by decide) (by decide), w1, nmI_e, nI_1]
    rw [e0]
    show ∃ X_1, _ = some (if (kP M lv nf d v day i && allK (kP M lv nf d v day) s (i + 1)) = true then 1 else 0, X_1) ∧ _
    rw [hp]
    by_cases z : potS M lv (nI a) (wSum M lv nf d v a) (nI b) (wMan M lv nf d v) day = nI w
    · rw [if_pos z, decide_eq_true z, Bool.true_and]
      exact ih (i + 1) f X (by omega) (kN.trans y2)
    · rw [if_neg z, decide_eq_false z, Bool.false_and]
      exact ⟨X, rfl, kN.trans y2⟩
/-- the model holds its pot against what is known -/
theorem m_known (hL : Lnd ld lv nf nd ng ne M) (hT : Td M) {d v k : Nat} {day : Int32} (hv : v < 13) (hk : ∃ n, n ≤ 20 ∧ M 401 64 = nI n ∧ k ≤ n) (hw : wOk M lv nf d v = true) (hp : ∀ i, i < 6 → M 438 i = if v ≠ 0 ∧ i = wF v then potD M lv nf d i + wD v else potD M lv nf d i) (e35 : M 437 35 = day) :
    ∀ (s i f : Nat) (N : gM), i + s = k → Eo mV M N → ∃ X, H_Mod_isAsKnown_2 (nI k) (f + 1 + s) (nI i) N = some (if allK (kP M lv nf d v day) s i = true then 1 else 0, X) ∧ Eo mV M X := by
  obtain ⟨n, hn, en, hkn⟩ := hk
  obtain ⟨n', hn', _, en', ht⟩ := hT
  have nn : n' = n := by
    have := en'.symm.trans en
    have := congrArg (fun x : Int32 => x.toInt.toNat) this
    simpa [nI_tn (show n' < 2 ^ 31 by omega), nI_tn (show n < 2 ^ 31 by omega)] using this
  intro s
  induction s with
  | zero =>
    intro i f N hi kN
    obtain rfl : i = k := by omega
    refine ⟨N, ?_, kN⟩
    show B_Mod_isAsKnown_2 (nI i) (H_Mod_isAsKnown_2 (nI i) f) (nI i) N = _
    unfold B_Mod_isAsKnown_2
    rw [if_pos (by rw [nI_leI (by omega) (by omega)]; omega)]
    rfl
  | succ s ih =>
    intro i f N hi kN
    have hN := hL.kV kN
    have mN := mV_M kN
    obtain ⟨a, b, w, ha, hb, hw', a1, a2, b1, b2, w1, w2⟩ := ht i (by omega)
    have fr : ∀ x y, x ≠ 434 → x ≠ 435 → x ≠ 401 → N x y = M x y := fun x y p q p2 => kN x y (by unfold mV; omega)
    obtain ⟨X, y1, y2⟩ := m_wayForce hN (d := d) (v := v) (j := a) (heat := nI b) hv (by rw [wOk_k mN]; exact hw) (fun i hi => by rw [fr 438 i (by decide) (by decide) (by decide), hp i hi, potD_k mN]) (by omega)
    have fX : ∀ x y, x ≠ 434 → x ≠ 435 → x ≠ 401 → X x y = N x y := fun x y p q p2 => y2 x y (by unfold mV; omega)
    rw [wFo_k mN, fr 437 35 (by decide) (by decide) (by decide), e35] at y1
    have hpp : kP M lv nf d v day i = decide (wFo M lv nf d v (nI a) (nI b) day = nI w) := by
      unfold kP
      rw [a2, b2, w2]
    have gi : ¬ (nI i < 0 ∨ 20 ≤ (nI i).toNatClampNeg) := nI_in (by omega) (by omega)
    have gc : (nI i).toNatClampNeg = i := nI_clamp (by omega)
    have e0 : H_Mod_isAsKnown_2 (nI k) (f + 1 + (s + 1)) (nI i) N = (if wFo M lv nf d v (nI a) (nI b) day = nI w then H_Mod_isAsKnown_2 (nI k) (f + 1 + s) (nI (i + 1)) X else some (0, X)) := by
      show B_Mod_isAsKnown_2 (nI k) (H_Mod_isAsKnown_2 (nI k) (f + 1 + s)) (nI i) N = _
      unfold B_Mod_isAsKnown_2
      rw [if_neg (by rw [nI_leI (by omega) (by omega)]; omega), if_neg gi, if_neg gi, gc, fr 441 _ (by decide) (by decide) (by decide), fr 442 _ (by decide) (by decide) (by decide), a2, b2, y1, bI2_s, if_neg (not_or.mpr ⟨nI_pos (by omega), by omega⟩), fX 443 _ (by decide) (by decide) (by decide), fr 443 _ (by decide) (by decide) (by decide), w2, nmI_e, nI_1]
    rw [e0]
    show ∃ X_1, _ = some (if (kP M lv nf d v day i && allK (kP M lv nf d v day) s (i + 1)) = true then 1 else 0, X_1) ∧ _
    rw [hpp]
    by_cases z : wFo M lv nf d v (nI a) (nI b) day = nI w
    · rw [if_pos z, decide_eq_true z, Bool.true_and]
      exact ih (i + 1) f X (by omega) (kN.tr y2)
    · rw [if_neg z, decide_eq_false z, Bool.false_and]
      exact ⟨X, rfl, kN.tr y2⟩
end KN
end PAR49
end MG16x6
section MG16x7
/-! the ways kept: both halves; blame -/
section PAR50
def wK (M : gM) (lv nf k : Nat) (day : Int32) (n : Nat) : Bool := wOk M lv nf (n / 13) (n % 13) && allK (kP M lv nf (n / 13) (n % 13) day) k 0
def wl (W : Nat → Bool) : Nat → List Nat
  | 0 => []
  | n + 1 => if W n = true then wl W n ++ [n] else wl W n
theorem wl_len (W : Nat → Bool) : ∀ n, (wl W n).length ≤ n
  | 0 => Nat.le_refl _
  | n + 1 => by
    have := wl_len W n
    show (if W n = true then wl W n ++ [n] else wl W n).length ≤ n + 1
    by_cases w : W n = true
    · rw [if_pos w, List.length_append]; simp only [List.length_cons, List.length_nil]; omega
    · rw [if_neg w]; omega
def gF (x y : Nat) : Prop := C0 x y = true ∨ (387 ≤ x ∧ x ≤ 389) ∨ (x = 383 ∧ y = 7)
/-- the rows of the ways kept -/
def Rw (M : gM) (lv nf : Nat) (l : List Nat) (N : gM) : Prop := N 383 7 = nI l.length ∧ ∀ i, i < l.length → N 387 i = nI (l.getD i 0 / 13) ∧ N 388 i = wMan M lv nf (l.getD i 0 / 13) (l.getD i 0 % 13) ∧ ∀ j, j < 3 → N 389 (3 * i + j) = wSum M lv nf (l.getD i 0 / 13) (l.getD i 0 % 13) j
section BL
variable {D Q q ld lv nf nd ng ne : Nat} {M M' M1 Mc Mb : gM} {L : gL} {r : Nat → Int32}
theorem gF_n {x y : Nat} (h1 : 64 ≤ x) (h2 : x ≠ 390) (h3 : ¬ (387 ≤ x ∧ x ≤ 389)) (h4 : ¬ (x = 383 ∧ y = 7)) : ¬ gF x y := fun h => by
  rcases h with h | h | h
  · rw [C0_M h1 h2] at h; cases h
  · exact h3 h
  · exact h4 h
theorem Lnd.kG (h : Lnd ld lv nf nd ng ne M) (e : Eo gF M M') : Lnd ld lv nf nd ng ne M' := h.keep (fun c j q => e c j (fun w => by
  rcases w with w | w
  · rw [gv_C0 q] at w; cases w
  · have := gv_num q; omega))
theorem Td.kG (h : Td M) (e : Eo gF M M') : Td M' := h.keep2 (e 383 3 (gF_n (by decide) (by decide) (by omega) (by omega))) (e 401 64 (gF_n (by decide) (by decide) (by omega) (by omega))) (fun c j w => e c j (gF_n (by omega) (by omega) (by omega) (by omega)))
theorem gF_M (e : Eo gF M M') : ∀ c j, 411 ≤ c → c ≤ 432 → M' c j = M c j := fun c j a b => e c j (gF_n (by omega) (by omega) (by omega) (by omega))
theorem allK_c {p p' : Nat → Bool} : ∀ s i, (∀ x, i ≤ x → x < i + s → p x = p' x) → allK p s i = allK p' s i
  | 0, _, _ => rfl
  | s + 1, i, h => by
    unfold allK
    rw [h i (Nat.le_refl _) (by omega), allK_c s (i + 1) (fun x a b => h x (by omega) (by omega))]
theorem kP_k (e : ∀ c j, 411 ≤ c → c ≤ 432 → M' c j = M c j) (e4 : ∀ c j, 441 ≤ c → c ≤ 443 → M' c j = M c j) {d v : Nat} {day : Int32} : kP M' lv nf d v day = kP M lv nf d v day := funext fun i => by
  unfold kP
  rw [wFo_k e, e4 441 i (by decide) (by decide), e4 442 i (by decide) (by decide), e4 443 i (by decide) (by decide)]
theorem Rw.c0 {l : List Nat} {N N' : gM} (h : Rw M lv nf l N) (k : Kl C0 N zL N' zL) : Rw M lv nf l N' := by
  have f : ∀ x y, 64 ≤ x → x ≠ 390 → N' x y = N x y := fun x y a b => k.m (C0_M a b)
  refine ⟨(f 383 7 (by decide) (by decide)).trans h.1, fun i hi => ?_⟩
  rw [f 387 i (by decide) (by decide), f 388 i (by decide) (by decide)]
  exact ⟨(h.2 i hi).1, (h.2 i hi).2.1, fun j hj => by rw [f 389 _ (by decide) (by decide)]; exact (h.2 i hi).2.2 j hj⟩
/-- one way, by the class -/
theorem c_wayStep (hL : Lnd ld lv nf nd ng ne M) (hT : Td M) {k : Nat} {day : Int32} (hk : ∃ n, n ≤ 20 ∧ M 383 3 = nI n ∧ k ≤ n) {d v : Nat} (hd : d < nd) (hv : v < 13) {l : List Nat} (hl : l.length ≤ 64) {N : gM} (eN : Eo gF M N) (hR : Rw M lv nf l N) {τ : Type} (J : gM → Option τ) :
    ∃ X, bI2 (F_Told_lay ld (nI d) (nI v) N) (fun r6 M7 => if r6 = 0 then J M7 else bI2 (F_Told_isAsKnown ld day (nI k) M7) (fun r11 M12 => if r11 = 0 then J M12 else nmM (uM M12 383 7 ((M12 383 7) + 1)) (fun M14 => J M14))) = J X ∧ Eo gF M X ∧ Rw M lv nf (if wK M lv nf k day (13 * d + v) = true then l ++ [13 * d + v] else l) X := by
  have h5 := hL.nd5
  have hN := hL.kG eN
  have mN := gF_M eN
  have e13 : (13 * d + v) / 13 = d ∧ (13 * d + v) % 13 = v := by omega
  obtain ⟨X, y1, y2, y3, y4, y5⟩ := c_lay hN hd hv hl hR.1
  rw [wOk_k mN] at y1 y5
  have eX : Eo gF M X := eN.tr (fun x y w => y2 x y (fun z => w (Or.inr (Or.inl z))))
  have hRX : Rw M lv nf l X := by
    refine ⟨(y2 383 7 (by omega)).trans hR.1, fun i hi => ?_⟩
    rw [(y3 i hi).1, (y3 i hi).2]
    exact ⟨(hR.2 i hi).1, (hR.2 i hi).2.1, fun j hj => by rw [y4 _ (by omega)]; exact (hR.2 i hi).2.2 j hj⟩
  have hWu : wK M lv nf k day (13 * d + v) = (wOk M lv nf d v && allK (kP M lv nf d v day) k 0) := by
    unfold wK; rw [e13.1, e13.2]
  by_cases w : wOk M lv nf d v = true
  rotate_left
  · have w' : wOk M lv nf d v = false := by simpa using w
    refine ⟨X, ?_, eX, ?_⟩
    · rw [y1, bI2_s, if_neg w, if_pos rfl]
    · rw [hWu, w', Bool.false_and, if_neg (by decide)]; exact hRX
  obtain ⟨z1, z2, z3⟩ := y5 w
  rw [wMan_k mN] at z2
  have hX := hL.kG eX
  have mX := gF_M eX
  have m4 : ∀ c j, 441 ≤ c → c ≤ 443 → X c j = M c j := fun c j a b => eX c j (gF_n (by omega) (by omega) (by omega) (by omega))
  obtain ⟨g, hg⟩ := FU_k (1 + k) (by obtain ⟨n, a, _, b⟩ := hk; omega)
  obtain ⟨Y, u1, u2⟩ := c_known hX (hT.kG eX) (d := d) (v := v) (c := l.length) (k := k) (day := day) hl hRX.1 (by
    obtain ⟨n, a, b, c⟩ := hk
    exact ⟨n, a, (eX 383 3 (gF_n (by decide) (by decide) (by omega) (by omega))).trans b, c⟩) (by rw [wMan_k mX]; exact z2) (fun j hj => by rw [z3 j hj, wSum_k mN, wSum_k mX]) k 0 g X (Nat.zero_add _) Kl.rf
  rw [kP_k mX m4] at u1
  have c1 : F_Told_isAsKnown ld day (nI k) X = some (if allK (kP M lv nf d v day) k 0 = true then 1 else 0, Y) := by
    unfold F_Told_isAsKnown
    rw [hg, ← Nat.add_assoc]
    exact u1
  have eY : Eo gF M Y := eX.tr (fun x y z => by
    have : C0 x y = false := by
      cases q : C0 x y with
      | false => rfl
      | true => exact absurd (Or.inl q) z
    exact u2.m this)
  have hRY := hRX.c0 u2
  by_cases w2 : allK (kP M lv nf d v day) k 0 = true
  rotate_left
  · have w' : allK (kP M lv nf d v day) k 0 = false := by simpa using w2
    refine ⟨Y, ?_, eY, ?_⟩
    · rw [y1, bI2_s, if_pos w, if_neg (by decide), c1, bI2_s, if_neg w2, if_pos rfl]
    · rw [hWu, w', Bool.and_false, if_neg (by decide)]; exact hRY
  refine ⟨uM Y 383 7 (nI (l.length + 1)), ?_, eY.u (Or.inr (Or.inr ⟨rfl, rfl⟩)), ?_⟩
  · rw [y1, bI2_s, if_pos w, if_neg (by decide), c1, bI2_s, if_pos w2, if_neg (by decide), nmM_e, hRY.1, nI_1]
  · rw [hWu, w, w2, if_pos (by decide)]
    have f : ∀ x y, 64 ≤ x → x ≠ 390 → Y x y = X x y := fun x y a b => u2.m (C0_M a b)
    refine ⟨by rw [uM_same, List.length_append]; rfl, fun i hi => ?_⟩
    rw [List.length_append] at hi
    simp only [List.length_cons, List.length_nil] at hi
    rw [uM_diff (by omega), uM_diff (by omega)]
    by_cases wi : i < l.length
    · have eg : (l ++ [13 * d + v]).getD i 0 = l.getD i 0 := by
        simp only [List.getD_eq_getElem?_getD, List.getElem?_append_left wi]
      rw [eg]
      exact ⟨(hRY.2 i wi).1, (hRY.2 i wi).2.1, fun j hj => by rw [uM_diff (by omega)]; exact (hRY.2 i wi).2.2 j hj⟩
    · obtain rfl : i = l.length := by omega
      have eg : (l ++ [13 * d + v]).getD l.length 0 = 13 * d + v := by
        simp only [List.getD_eq_getElem?_getD, List.getElem?_append_right (Nat.le_refl _), Nat.sub_self]
        rfl
      rw [eg, e13.1, e13.2, f 387 _ (by decide) (by decide), f 388 _ (by decide) (by decide)]
      exact ⟨z1, z2, fun j hj => by rw [uM_diff (by omega), f 389 _ (by decide) (by decide), z3 j hj, wSum_k mN]⟩
end BL
end PAR50
end MG16x7
section MG16x8
/-! the ways gathered; blame and sure -/
section PAR51
section SU
variable {D Q q ld lv nf nd ng ne : Nat} {M M' M1 Mc Mb : gM} {L : gL} {r : Nat → Int32}
theorem c_gather (hL : Lnd ld lv nf nd ng ne M) (hT : Td M) {k : Nat} {day : Int32} (hk : ∃ n, n ≤ 20 ∧ M 383 3 = nI n ∧ k ≤ n) : ∃ X, F_Told_gather ld day (nI k) M = some X ∧ Eo gF M X ∧ Rw M lv nf (wl (wK M lv nf k day) (13 * nd)) X := by
  have h5 := hL.nd5
  have inner : ∀ (d : Nat) (K8 : Int32 → gM → Option gM), d < nd → ∀ (s v f : Nat) (N : gM), v + s = 13 → Eo gF M N → Rw M lv nf (wl (wK M lv nf k day) (13 * d + v)) N → ∃ X, H_Told_gather_20 ld K8 day (nI k) (nI d) (f + 1 + s) (nI v) N = J_Told_gather_65 ld K8 day (nI k) (nI d) X ∧ Eo gF M X ∧ Rw M lv nf (wl (wK M lv nf k day) (13 * (d + 1))) X := by
    intro d K8 hd s
    induction s with
    | zero =>
      intro v f N hv eN hR
      obtain rfl : v = 13 := by omega
      refine ⟨N, ?_, eN, hR⟩
      show B_Told_gather_20 ld K8 day (nI k) (nI d) (H_Told_gather_20 ld K8 day (nI k) (nI d) f) (nI 13) N = _
      generalize H_Told_gather_20 ld K8 day (nI k) (nI d) f = H
      unfold B_Told_gather_20
      rw [if_pos (by decide)]
    | succ s ih =>
      intro v f N hv eN hR
      have ln := wl_len (wK M lv nf k day) (13 * d + v)
      obtain ⟨X, y1, y2, y3⟩ := c_wayStep hL hT (day := day) hk hd (v := v) (by omega) (by omega) eN hR (fun M14 => J_Told_gather_59 ld K8 (H_Told_gather_20 ld K8 day (nI k) (nI d) (f + 1 + s)) day (nI k) (nI d) (nI v) M14)
      obtain ⟨X', z1, z2⟩ := ih (v + 1) f X (by omega) y2 y3
      refine ⟨X', ?_, z2⟩
      rw [← z1]
      show B_Told_gather_20 ld K8 day (nI k) (nI d) (H_Told_gather_20 ld K8 day (nI k) (nI d) (f + 1 + s)) (nI v) N = _
      generalize H_Told_gather_20 ld K8 day (nI k) (nI d) (f + 1 + s) = H at y1 ⊢
      unfold B_Told_gather_20
      rw [if_neg (by rw [show (13 : Int32) = nI 13 from rfl, nI_leI (by omega) (by omega)]; omega)]
      refine y1.trans ?_
      unfold J_Told_gather_59
      rw [nmI_e, nI_1]
  have outer : ∀ (s d f : Nat) (N : gM), d + s = nd → Eo gF M N → Rw M lv nf (wl (wK M lv nf k day) (13 * d)) N → ∃ X, H_Told_gather_8 ld day (nI k) (f + 1 + s) (nI d) N = some X ∧ Eo gF M X ∧ Rw M lv nf (wl (wK M lv nf k day) (13 * nd)) X := by
    intro s
    induction s with
    | zero =>
      intro d f N hd eN hR
      obtain rfl : d = nd := by omega
      refine ⟨N, ?_, eN, hR⟩
      show B_Told_gather_8 ld day (nI k) (H_Told_gather_8 ld day (nI k) f) (nI d) N = _
      unfold B_Told_gather_8
      rw [(hL.kG eN).cd, if_pos (by rw [nI_leI (by omega) (by omega)]; omega)]
    | succ s ih =>
      intro d f N hd eN hR
      obtain ⟨g, hg⟩ := FU_k (1 + 13) (by omega)
      obtain ⟨X, y1, y2, y3⟩ := inner d (H_Told_gather_8 ld day (nI k) (f + 1 + s)) (by omega) 13 0 g N (by omega) eN hR
      obtain ⟨X', z1, z2⟩ := ih (d + 1) f X (by omega) y2 y3
      refine ⟨X', ?_, z2⟩
      rw [← z1]
      show B_Told_gather_8 ld day (nI k) (H_Told_gather_8 ld day (nI k) (f + 1 + s)) (nI d) N = _
      have c1 : H_Told_gather_20 ld (H_Told_gather_8 ld day (nI k) (f + 1 + s)) day (nI k) (nI d) FU 0 N = J_Told_gather_65 ld (H_Told_gather_8 ld day (nI k) (f + 1 + s)) day (nI k) (nI d) X := by
        rw [hg, ← Nat.add_assoc]; exact y1
      generalize H_Told_gather_8 ld day (nI k) (f + 1 + s) = H at c1 ⊢
      unfold B_Told_gather_8
      rw [(hL.kG eN).cd, if_neg (by rw [nI_leI (by omega) (by omega)]; omega), c1]
      unfold J_Told_gather_65
      rw [nmI_e, nI_1]
  unfold F_Told_gather
  rw [nmM_e]
  obtain ⟨g, hg⟩ := FU_k (1 + nd) (by omega)
  rw [hg, ← Nat.add_assoc]
  exact outer nd 0 g (uM M 383 7 0) (Nat.zero_add _) (Eo.rf.u (Or.inr (Or.inr ⟨rfl, rfl⟩))) ⟨uM_same, fun i hi => absurd hi (Nat.not_lt_zero _)⟩
/-- one way, by the model -/
theorem m_isWay (hL : Lnd ld lv nf nd ng ne M) (hT : Td M) {k : Nat} {day : Int32} (hk : ∃ n, n ≤ 20 ∧ M 401 64 = nI n ∧ k ≤ n) (e35 : M 437 35 = day) {n : Nat} (hn : n < 13 * nd) {N : gM} (eN : Eo mP8 M N) : ∃ X, F_Mod_isWay (nI n) (nI k) N = some (if wK M lv nf k day n = true then 1 else 0, X) ∧ Eo mP8 M X := by
  have h5 := hL.nd5
  have hN := hL.kQ (mP8_Q eN)
  have mN : ∀ c j, 411 ≤ c → c ≤ 432 → N c j = M c j := mQ_M (mP8_Q eN)
  obtain ⟨A, a1, a2, a3⟩ := m_fillsWay hN (d := n / 13) (v := n % 13) (by omega) (by omega)
  rw [show 13 * (n / 13) + n % 13 = n by omega, wOk_k mN] at a1
  rw [wOk_k mN] at a3
  have eA : Eo mP8 M A := fun c j w => by rw [a2 c j (fun z => w (Or.inr z))]; exact eN c j w
  unfold F_Mod_isWay wK
  rw [a1, bI2_s]
  by_cases w : wOk M lv nf (n / 13) (n % 13) = true
  rotate_left
  · have w' : wOk M lv nf (n / 13) (n % 13) = false := by simpa using w
    rw [if_neg w, if_pos rfl, w', Bool.false_and, if_neg (by decide)]
    exact ⟨A, rfl, eA⟩
  rw [if_pos w, if_neg (by decide), w, Bool.true_and]
  have hA := hL.kQ (mP8_Q eA)
  have mA : ∀ c j, 411 ≤ c → c ≤ 432 → A c j = M c j := mQ_M (mP8_Q eA)
  have fr : ∀ x y, x ≠ 434 → x ≠ 435 → x ≠ 438 → ¬ (x = 401 ∧ y = 51) → A x y = M x y := fun x y p1 p2 p3 p4 => eA x y (by unfold mP8 mV; omega)
  have m4 : ∀ c j, 441 ≤ c → c ≤ 443 → A c j = M c j := fun c j a b => fr c j (by omega) (by omega) (by omega) (by omega)
  have hTA : Td A := hT.keep2 (fr 383 3 (by decide) (by decide) (by decide) (by decide)) (fr 401 64 (by decide) (by decide) (by decide) (by decide)) (fun c j w => fr c j (by omega) (by omega) (by omega) (by omega))
  obtain ⟨g, hg⟩ := FU_k (1 + k) (by obtain ⟨n, a, _, b⟩ := hk; omega)
  obtain ⟨Y, u1, u2⟩ := m_known hA hTA (d := n / 13) (v := n % 13) (k := k) (day := day) (by omega) (by
    obtain ⟨n, a, b, c⟩ := hk
    exact ⟨n, a, (fr 401 64 (by decide) (by decide) (by decide) (by decide)).trans b, c⟩) (by rw [wOk_k mA]; exact w) (fun i hi => by rw [a3 w i hi, potD_k mN, potD_k mA]) (by rw [fr 437 35 (by decide) (by decide) (by decide) (by decide)]; exact e35) k 0 g A (Nat.zero_add _) Eo.rf
  rw [kP_k mA m4] at u1
  have c1 : F_Mod_isAsKnown (nI k) A = some (if allK (kP M lv nf (n / 13) (n % 13) day) k 0 = true then 1 else 0, Y) := by
    unfold F_Mod_isAsKnown
    rw [hg, ← Nat.add_assoc]
    exact u1
  refine ⟨Y, ?_, eA.tr (mV_P8 u2)⟩
  rw [c1, bI2_s]
  by_cases w2 : allK (kP M lv nf (n / 13) (n % 13) day) k 0 = true
  · rw [if_pos w2, if_neg (by decide)]
  · rw [if_neg w2, if_pos rfl]
theorem m_blame (hL : Lnd ld lv nf nd ng ne M) (hT : Td M) {k : Nat} {day : Int32} (hk : ∃ n, n ≤ 20 ∧ M 401 64 = nI n ∧ k ≤ n) (e35 : M 437 35 = day) : ∀ (s n f : Nat) (N : gM), n + s = 13 * nd → Eo mP8 M N → ∃ X, H_Mod_blame_22 (nI k) (f + 1 + s) (nI (wl (wK M lv nf k day) n).length) (nI n) N = some (nI (wl (wK M lv nf k day) (13 * nd)).length, X) := by
  have h5 := hL.nd5
  have h1 := hL.l1
  intro s
  induction s with
  | zero =>
    intro n f N hn eN
    obtain rfl : n = 13 * nd := by omega
    have hN := hL.kQ (mP8_Q eN)
    refine ⟨N, ?_⟩
    show B_Mod_blame_22 (nI k) (H_Mod_blame_22 (nI k) f) _ (nI (13 * nd)) N = _
    unfold B_Mod_blame_22
    rw [hN.l18, if_neg (nI_in (by omega) (by omega)), nI_clamp (by omega), hN.md, show (13 : Int32) = nI 13 from rfl, nI_mul, if_pos (by rw [nI_leI (by omega) (by omega)]; omega)]
  | succ s ih =>
    intro n f N hn eN
    have hN := hL.kQ (mP8_Q eN)
    obtain ⟨X, y1, y2⟩ := m_isWay hL hT hk e35 (n := n) (by omega) eN
    obtain ⟨X', z1⟩ := ih (n + 1) f X (by omega) y2
    refine ⟨X', ?_⟩
    rw [← z1]
    show B_Mod_blame_22 (nI k) (H_Mod_blame_22 (nI k) (f + 1 + s)) _ (nI n) N = _
    generalize H_Mod_blame_22 (nI k) (f + 1 + s) = H
    unfold B_Mod_blame_22 J_Mod_blame_50
    rw [hN.l18, if_neg (nI_in (by omega) (by omega)), nI_clamp (by omega), hN.md, show (13 : Int32) = nI 13 from rfl, nI_mul, if_neg (by rw [nI_leI (by omega) (by omega)]; omega), y1, bI2_s, nmI_e, nmI_e, nmI_e, nI_1]
    show _ = H (nI (if wK M lv nf k day n = true then wl (wK M lv nf k day) n ++ [n] else wl (wK M lv nf k day) n).length) (nI (n + 1)) X
    by_cases w : wK M lv nf k day n = true
    · rw [if_pos w, if_neg (by decide), if_pos w, nI_1, List.length_append]
      rfl
    · rw [if_neg w, if_pos rfl, if_neg w]
theorem v_blame (h : G1 q ld M L) (hq : q < 512) (a : Int32) : ∃ r M1 r' M2, F_Main_blame ld a M = some (r, M1) ∧ F_Mod_blame a M1 = some (r', M2) ∧ G1 (q + 1) ld M2 L ∧ r = r' := by
  obtain ⟨r, M1, e1, -, k1⟩ := tf_Main_blame (p1 := a) (M := M) h.1.la
  have g1 := h.1.kC1 k1
  obtain ⟨r', M2, e2, -, k2⟩ := tf_Mod_blame (p0 := a) g1.inv
  refine ⟨r, M1, r', M2, e1, e2, h.q2 (g1.kM1 k2) k1 k2, ?_⟩
  obtain ⟨lv, nf, nd, ng, ne, hL, hS⟩ := h.get
  obtain ⟨hL1, m1, Mc, x1, x2, x3, hLc, mc⟩ := cop hL k1
  have hT : Td M := h.1.2.2.2.2.2.2.2.1
  have hT1 : Td M1 := g1.2.2.2.2.2.2.2.1
  obtain ⟨n, t1, t2, t3, t4⟩ := id hT
  have h5 := hL.nd5
  unfold F_Main_blame at e1
  unfold F_Mod_blame at e2
  rw [t2, nI_1] at e1
  rw [m1 401 64 (by decide), t3] at e2
  rcases one_in0 a (n := n) (by omega) with ⟨d1, d2⟩ | ⟨k, hk, rfl, d1, d2⟩
  · rw [d1, bI_s, if_pos rfl] at e1
    rw [d2, bI_s, if_pos rfl] at e2
    exact pair_fin e1 e2 rfl
  obtain ⟨X, y1, y2, y3⟩ := c_gather hL hT (day := M 436 35) ⟨n, t1, t2, hk⟩
  rw [d1, bI_s, if_neg (by decide), hS.1.d0, y1, bI_s, y3.1] at e1
  rw [d2, bI_s, if_neg (by decide), x1, bI_s] at e2
  obtain ⟨Mq, w1, w2, w3, w4⟩ := m_copies hL1
  have eMq : Mq = Mc := Option.some.inj (w1.symm.trans x1)
  rw [eMq] at w4
  have hTc : Td Mc := hT1.keep2 (w4 383 3 (by unfold mQ; omega)) (w4 401 64 (by unfold mQ; omega)) (fun c j w => w4 c j (by unfold mQ; omega))
  have c64 : Mc 401 64 = nI n := by rw [w4 401 64 (by unfold mQ; omega), m1 401 64 (by decide), t3]
  obtain ⟨f, hf⟩ := FU_k (1 + 13 * nd) (by omega)
  obtain ⟨Y, z1⟩ := m_blame hLc hTc (k := k) (day := M 436 35) ⟨n, t1, c64, hk⟩ (x2 35 (by omega)) (13 * nd) 0 f Mc (Nat.zero_add _) Eo.rf
  have c2 : H_Mod_blame_22 (nI k) FU 0 0 Mc = some (nI (wl (wK Mc lv nf k (M 436 35)) (13 * nd)).length, Y) := by rw [hf, ← Nat.add_assoc]; exact z1
  rw [c2] at e2
  have hW : wK Mc lv nf k (M 436 35) = wK M lv nf k (M 436 35) := funext fun n => by
    unfold wK
    rw [wOk_k mc, kP_k mc (fun c j a b => by rw [w4 c j (by unfold mQ; omega), m1 c j (by omega)])]
  rw [hW] at e2
  exact pair_fin e1 e2 rfl
end SU
end PAR51
end MG16x8
section MG16x9
/-! sure: the only dish among the ways kept -/
section PAR52
def sureS : List Nat → Int32
  | [] => -2
  | x :: t => if t.all (fun y => y / 13 == x / 13) = true then nI (x / 13) else -2
section SR
variable {D Q q ld lv nf nd ng ne : Nat} {M M' M1 Mc Mb : gM} {L : gL} {r : Nat → Int32}
theorem wl_pre (W : Nat → Bool) (n : Nat) : ∀ m, ∃ t, wl W (n + m) = wl W n ++ t
  | 0 => ⟨[], by rw [List.append_nil]; rfl⟩
  | m + 1 => by
    obtain ⟨t, e⟩ := wl_pre W n m
    show ∃ t, (if W (n + m) = true then wl W (n + m) ++ [n + m] else wl W (n + m)) = _
    by_cases w : W (n + m) = true
    · rw [if_pos w, e]; exact ⟨t ++ [n + m], by rw [List.append_assoc]⟩
    · rw [if_neg w, e]; exact ⟨t, rfl⟩
theorem wl_lt (W : Nat → Bool) : ∀ n x, x ∈ wl W n → x < n
  | 0, x, h => by cases h
  | n + 1, x, h => by
    have h' : x ∈ (if W n = true then wl W n ++ [n] else wl W n) := h
    by_cases w : W n = true
    · rw [if_pos w, List.mem_append] at h'
      rcases h' with h' | h'
      · have := wl_lt W n x h'; omega
      · rw [List.mem_singleton] at h'; omega
    · rw [if_neg w] at h'
      have := wl_lt W n x h'; omega
theorem c_only {l : List Nat} {N : gM} (hR : Rw M lv nf l N) (hl : l.length ≤ 65) (hx : ∀ x, x ∈ l → x < 65) : F_Told_onlyDish N = some (sureS l) := by
  unfold F_Told_onlyDish
  match l, hR, hl, hx with
  | [], hR, _, _ =>
    obtain ⟨g, hg⟩ := FU_k 1 (by omega)
    rw [hg]
    show B_Told_onlyDish_2 N (H_Told_onlyDish_2 N g) 1 = _
    unfold B_Told_onlyDish_2 J_Told_onlyDish_38
    rw [hR.1, if_pos (by decide), if_pos (by decide)]
    rfl
  | x :: t, hR, hl, hx =>
    have hx0 : x < 65 := hx x (List.mem_cons_self ..)
    have key : ∀ (rest p : List Nat) (f : Nat), t = p ++ rest → H_Told_onlyDish_2 N (f + 1 + rest.length) (nI (p.length + 1)) = some (if rest.all (fun y => y / 13 == x / 13) = true then nI (x / 13) else -2) := by
      intro rest
      induction rest with
      | nil =>
        intro p f ht
        have e1 : p.length = t.length := by rw [ht, List.append_nil]
        show B_Told_onlyDish_2 N (H_Told_onlyDish_2 N f) (nI (p.length + 1)) = _
        unfold B_Told_onlyDish_2 J_Told_onlyDish_38
        have hl2 : t.length + 1 ≤ 65 := hl
        rw [hR.1, if_pos (by rw [List.length_cons, nI_leI (by omega) (by omega)]; omega), if_neg (by rw [List.length_cons, show (0 : Int32) = nI 0 from rfl, nI_leI (by omega) (by omega)]; omega), show F_Main_at 387 65 0 N = some (N 387 0) from s_at (i := 0) (by decide) (by decide), bI_s, (hR.2 0 (by rw [List.length_cons]; omega)).1]
        rfl
      | cons y rest ih =>
        intro p f ht
        have hl2 : t.length + 1 ≤ 65 := hl
        have e1 : t.length = p.length + (rest.length + 1) := by rw [ht, List.length_append, List.length_cons]
        have eg : (x :: t).getD (p.length + 1) 0 = y := by
          rw [ht]
          simp only [List.getD_eq_getElem?_getD, List.getElem?_cons_succ, List.getElem?_append_right (Nat.le_refl _), Nat.sub_self, List.getElem?_cons_zero]
          rfl
        have hy : y < 65 := hx y (List.mem_cons_of_mem _ (by rw [ht]; exact List.mem_append_right _ (List.mem_cons_self ..)))
        have r1 : N 387 (p.length + 1) = nI (y / 13) := by rw [(hR.2 (p.length + 1) (by rw [List.length_cons]; omega)).1, eg]
        have r0 : N 387 0 = nI (x / 13) := (hR.2 0 (by rw [List.length_cons]; omega)).1
        have hn := ih (p ++ [y]) f (by rw [ht, List.append_assoc]; rfl)
        rw [List.length_append] at hn
        show B_Told_onlyDish_2 N (H_Told_onlyDish_2 N (f + 1 + rest.length)) (nI (p.length + 1)) = _
        unfold B_Told_onlyDish_2
        rw [hR.1, if_neg (by rw [List.length_cons, nI_leI (by omega) (by omega)]; omega), s_at (by omega) (by decide), bI_s, show F_Main_at 387 65 0 N = some (N 387 0) from s_at (i := 0) (by decide) (by decide), bI_s, r1, r0, nmI_e, nI_1, List.all_cons]
        by_cases w : y / 13 = x / 13
        · rw [if_pos (by rw [w]), show (y / 13 == x / 13) = true by rw [w]; exact beq_self_eq_true _, Bool.true_and]
          exact hn
        · rw [if_neg (fun z => w ((nI_eq (by omega) (by omega)).mp z)), show (y / 13 == x / 13) = false from beq_eq_false_iff_ne.mpr w, Bool.false_and, if_neg (by decide)]
    obtain ⟨g, hg⟩ := FU_k (1 + t.length) (by have : t.length + 1 ≤ 65 := hl; omega)
    rw [hg, ← Nat.add_assoc]
    exact key t [] g rfl
/-- what the model has found so far -/
def Sf (l : List Nat) (v : Int32) : Prop := (l = [] ∧ v = -1) ∨ ∃ x t, l = x :: t ∧ t.all (fun y => y / 13 == x / 13) = true ∧ x < 65 ∧ v = nI (x / 13)
theorem m_sure (hL : Lnd ld lv nf nd ng ne M) (hT : Td M) {k : Nat} {day : Int32} (hk : ∃ n, n ≤ 20 ∧ M 401 64 = nI n ∧ k ≤ n) (e35 : M 437 35 = day) : ∀ (s n f : Nat) (N : gM) (v : Int32), n + s = 13 * nd → Eo mP8 M N → Sf (wl (wK M lv nf k day) n) v → ∃ X, H_Mod_sure_22 (nI k) (f + 1 + s) v (nI n) N = some (sureS (wl (wK M lv nf k day) (13 * nd)), X) := by
  have h5 := hL.nd5
  have h1 := hL.l1
  intro s
  induction s with
  | zero =>
    intro n f N v hn eN hv
    obtain rfl : n = 13 * nd := by omega
    have hN := hL.kQ (mP8_Q eN)
    refine ⟨N, ?_⟩
    show B_Mod_sure_22 (nI k) (H_Mod_sure_22 (nI k) f) v (nI (13 * nd)) N = _
    unfold B_Mod_sure_22 J_Mod_sure_76
    rw [hN.l18, if_neg (nI_in (by omega) (by omega)), nI_clamp (by omega), hN.md, show (13 : Int32) = nI 13 from rfl, nI_mul, if_pos (by rw [nI_leI (by omega) (by omega)]; omega)]
    rcases hv with ⟨e, ev⟩ | ⟨x, t, e, ha, hx, ev⟩
    · rw [e, ev, if_neg (by decide)]; rfl
    · rw [e, ev, if_pos (nI_pos' (by omega))]
      show _ = some ((if t.all (fun y => y / 13 == x / 13) = true then nI (x / 13) else -2), N)
      rw [if_pos ha]
  | succ s ih =>
    intro n f N v hn eN hv
    have hN := hL.kQ (mP8_Q eN)
    obtain ⟨X, y1, y2⟩ := m_isWay hL hT hk e35 (n := n) (by omega) eN
    obtain ⟨n1, -⟩ := way_n n (by omega)
    have e0 : H_Mod_sure_22 (nI k) (f + 1 + (s + 1)) v (nI n) N = (if wK M lv nf k day n = true then (if v < 0 then H_Mod_sure_22 (nI k) (f + 1 + s) (nI (n / 13)) (nI (n + 1)) X else if v = nI (n / 13) then H_Mod_sure_22 (nI k) (f + 1 + s) (nI (n / 13)) (nI (n + 1)) X else some (-2, X)) else H_Mod_sure_22 (nI k) (f + 1 + s) v (nI (n + 1)) X) := by
      show B_Mod_sure_22 (nI k) (H_Mod_sure_22 (nI k) (f + 1 + s)) v (nI n) N = _
      generalize H_Mod_sure_22 (nI k) (f + 1 + s) = H
      unfold B_Mod_sure_22 J_Mod_sure_65 J_Mod_sure_70
      rw [hN.l18, if_neg (nI_in (by omega) (by omega)), nI_clamp (by omega), hN.md, show (13 : Int32) * nI nd = nI (13 * nd) from nI_mul .., if_neg (by rw [nI_leI (by omega) (by omega)]; omega), y1, bI2_s, n1, nmI_e, nmI_e, nmI_e, nI_1]
      by_cases w : wK M lv nf k day n = true
      · rw [if_pos w, if_neg (by decide), if_pos w]
      · rw [if_neg w, if_pos rfl, if_neg w]
    rw [e0]
    have hu : wl (wK M lv nf k day) (n + 1) = if wK M lv nf k day n = true then wl (wK M lv nf k day) n ++ [n] else wl (wK M lv nf k day) n := rfl
    by_cases w : wK M lv nf k day n = true
    rotate_left
    · rw [if_neg w] at hu ⊢
      exact ih (n + 1) f X v (by omega) y2 (by rw [hu]; exact hv)
    rw [if_pos w] at hu ⊢
    rcases hv with ⟨e, ev⟩ | ⟨x, t, e, ha, hx, ev⟩
    · rw [ev, if_pos (by decide)]
      exact ih (n + 1) f X (nI (n / 13)) (by omega) y2 (Or.inr ⟨n, [], by rw [hu, e]; rfl, rfl, by omega, rfl⟩)
    · rw [if_neg (by rw [ev]; exact nI_pos (by omega))]
      by_cases z : x / 13 = n / 13
      · rw [ev, if_pos (by rw [z])]
        refine ih (n + 1) f X (nI (n / 13)) (by omega) y2 (Or.inr ⟨x, t ++ [n], by rw [hu, e]; rfl, ?_, hx, by rw [z]⟩)
        rw [List.all_append, ha, List.all_cons, show (n / 13 == x / 13) = true by rw [z]; exact beq_self_eq_true _]
        rfl
      · rw [if_neg (by rw [ev]; exact fun q => z ((nI_eq (by omega) (by omega)).mp q))]
        refine ⟨X, ?_⟩
        obtain ⟨u, eu⟩ := wl_pre (wK M lv nf k day) (n + 1) s
        rw [show n + 1 + s = 13 * nd by omega, hu, e] at eu
        rw [eu]
        show _ = some ((if ((t ++ [n]) ++ u).all (fun y => y / 13 == x / 13) = true then nI (x / 13) else -2), X)
        rw [List.all_append, List.all_append, List.all_cons, show (n / 13 == x / 13) = false from beq_eq_false_iff_ne.mpr (fun q => z q.symm), Bool.false_and, Bool.and_false, Bool.false_and, if_neg (by decide)]
theorem v_sure (h : G1 q ld M L) (hq : q < 512) (a : Int32) : ∃ r M1 r' M2, F_Main_sure ld a M = some (r, M1) ∧ F_Mod_sure a M1 = some (r', M2) ∧ G1 (q + 1) ld M2 L ∧ r = r' := by
  obtain ⟨r, M1, e1, -, k1⟩ := tf_Main_sure (p1 := a) (M := M) h.1.la
  have g1 := h.1.kC1 k1
  obtain ⟨r', M2, e2, -, k2⟩ := tf_Mod_sure (p0 := a) g1.inv
  refine ⟨r, M1, r', M2, e1, e2, h.q2 (g1.kM1 k2) k1 k2, ?_⟩
  obtain ⟨lv, nf, nd, ng, ne, hL, hS⟩ := h.get
  obtain ⟨hL1, m1, Mc, x1, x2, x3, hLc, mc⟩ := cop hL k1
  have hT : Td M := h.1.2.2.2.2.2.2.2.1
  have hT1 : Td M1 := g1.2.2.2.2.2.2.2.1
  obtain ⟨n, t1, t2, t3, t4⟩ := id hT
  have h5 := hL.nd5
  unfold F_Main_sure at e1
  unfold F_Mod_sure at e2
  rw [t2, nI_1] at e1
  rw [m1 401 64 (by decide), t3] at e2
  rcases one_in0 a (n := n) (by omega) with ⟨d1, d2⟩ | ⟨k, hk, rfl, d1, d2⟩
  · rw [d1, bI_s, if_pos rfl] at e1
    rw [d2, bI_s, if_pos rfl] at e2
    exact pair_fin e1 e2 rfl
  obtain ⟨X, y1, y2, y3⟩ := c_gather hL hT (day := M 436 35) ⟨n, t1, t2, hk⟩
  have ln := wl_len (wK M lv nf k (M 436 35)) (13 * nd)
  have c0 := c_only y3 (by omega) (fun x hx => by have := wl_lt _ _ x hx; omega)
  rw [d1, bI_s, if_neg (by decide), hS.1.d0, y1, bI_s, c0, bI_s] at e1
  rw [d2, bI_s, if_neg (by decide), x1, bI_s] at e2
  obtain ⟨Mq, w1, w2, w3, w4⟩ := m_copies hL1
  have eMq : Mq = Mc := Option.some.inj (w1.symm.trans x1)
  rw [eMq] at w4
  have hTc : Td Mc := hT1.keep2 (w4 383 3 (by unfold mQ; omega)) (w4 401 64 (by unfold mQ; omega)) (fun c j w => w4 c j (by unfold mQ; omega))
  have c64 : Mc 401 64 = nI n := by rw [w4 401 64 (by unfold mQ; omega), m1 401 64 (by decide), t3]
  obtain ⟨f, hf⟩ := FU_k (1 + 13 * nd) (by omega)
  obtain ⟨Y, z1⟩ := m_sure hLc hTc (k := k) (day := M 436 35) ⟨n, t1, c64, hk⟩ (x2 35 (by omega)) (13 * nd) 0 f Mc (-1) (Nat.zero_add _) Eo.rf (Or.inl ⟨rfl, rfl⟩)
  have c2 : H_Mod_sure_22 (nI k) FU (-1) 0 Mc = some (sureS (wl (wK Mc lv nf k (M 436 35)) (13 * nd)), Y) := by rw [hf, ← Nat.add_assoc]; exact z1
  rw [c2] at e2
  have hW : wK Mc lv nf k (M 436 35) = wK M lv nf k (M 436 35) := funext fun n => by
    unfold wK
    rw [wOk_k mc, kP_k mc (fun c j a b => by rw [w4 c j (by unfold mQ; omega), m1 c j (by omega)])]
  rw [hW] at e2
  exact pair_fin e1 e2 rfl
end SR
end PAR52
end MG16x9
