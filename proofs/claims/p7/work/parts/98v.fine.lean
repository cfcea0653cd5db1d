/-! frames of the forces, finer -/
section PAR43
def C9 (c j : Nat) : Bool := C0 c j && !(c == 37 || c == 63)
theorem C9_C0 : ∀ c j, C9 c j = true → C0 c j = true := fun c j h => by
  unfold C9 at h
  exact ((Bool.and_eq_true _ _).mp h).1
theorem C9_Lw_3 {x : Nat} (h : isLw x) (j : Nat) : C9 (x + 3) j = true := by
  unfold C9
  rw [C0_Lw_3 h j, (by decide +kernel : ∀ x ∈ lLw, (x + 3 == 37 || x + 3 == 63) = false) x h]
  rfl
theorem C9_25 {x j : Nat} (h : isLa x) : C9 (x + 25) j = false := by
  unfold C9
  rw [(by decide +kernel : ∀ x ∈ lLa, (x + 25 == 37 || x + 25 == 63) = true) x h, Bool.not_true, Bool.and_false]
theorem tz_let {W j : Nat} {x : Int32} {M : gM} (hj : j < 9) (hC : C9 (W + 2) j = true) : ∃ M' , F_Law_let W (nI j) x M = some M' ∧ Kl C9 M zL M' zL := ⟨_, let_e hj, Kl.wM Kl.rf hC rfl⟩
set_option maxHeartbeats 4000000 in
set_option maxRecDepth 20000 in
theorem tz_Law_value {Wl0 : Nat} {M : gM} (hWl0 : isLw Wl0) : ∃ r M', F_Law_value Wl0 M = some (r, M') ∧ True ∧ Kl C9 M zL M' zL := by
  refine Ok.x2 (A := fun (r : Int32) (M' : gM) => True ∧ Kl C9 M zL M' zL) ?_
  unfold F_Law_value
  have LP81 : ∀ (f78 : Nat) (v82 : Int32) (v83 : Int32) (v84 : Int32) (M85 : gM), Kl C9 M zL M85 zL → ¬ v84 < 0 → ((400 : Int32).toInt - v84.toInt).toNat < f78 → Ok (H_Law_value_6 Wl0 f78 v82 v83 v84 M85) (fun q => True ∧ Kl C9 M zL q.2 zL) := by
    intro f78
    induction f78 with
    | zero => intro v82 v83 v84 M85 _ _ hm80; exact absurd hm80 (Nat.not_lt_zero _)
    | succ f78 ih79 =>
      intro v82 v83 v84 M85 k86 n87 hm80
      show Ok (B_Law_value_6 Wl0 (H_Law_value_6 Wl0 f78) v82 v83 v84 M85) _
      unfold B_Law_value_6
      refine Ok.ite (fun h88 => ?_) (fun h88 => ?_)
      · unfold J_Law_value_232
        refine Ok.c1 (tf_Main_at (by decide)) (fun r89 _ => ?_)
        exact ⟨_, rfl, trivial, k86⟩
      · refine Ok.ite (fun h90 => ?_) (fun h90 => ?_)
        · unfold J_Law_value_232
          refine Ok.c1 (tf_Main_at (by decide)) (fun r91 _ => ?_)
          exact ⟨_, rfl, trivial, k86⟩
        · refine Ok.ite (fun h92 => ?_) (fun h92 => ?_)
          · unfold J_Law_value_232
            refine Ok.c1 (tf_Main_at (by decide)) (fun r93 _ => ?_)
            exact ⟨_, rfl, trivial, k86⟩
          · refine Ok.ite (fun h94 => ?_) (fun h94 => ?_)
            · unfold J_Law_value_232
              refine Ok.c1 (tf_Main_at (by decide)) (fun r95 _ => ?_)
              exact ⟨_, rfl, trivial, k86⟩
            · refine Ok.gd (vin_of h90 h94 (by decide)) ?_
              refine Ok.nmI (fun x96 ex96 => ?_)
              refine Ok.nmI (fun x97 ex97 => ?_)
              refine Ok.ite (fun h98 => ?_) (fun h98 => ?_)
              · unfold J_Law_value_53
                unfold J_Law_value_232
                refine Ok.c1 (tf_Main_at (by decide)) (fun r99 _ => ?_)
                exact ⟨_, rfl, trivial, k86⟩
              · refine Ok.ite (fun h100 => ?_) (fun h100 => ?_)
                · refine Ok.ite (fun h101 => ?_) (fun h101 => ?_)
                  · exact ⟨_, rfl, trivial, k86⟩
                  · refine Ok.ite (fun h102 => ?_) (fun h102 => ?_)
                    · refine Ok.gd (vin_s2 h101 h102) ?_
                      refine Ok.nmI (fun x103 ex103 => ?_)
                      refine Ok.gd (vin_s1 h101 h102) ?_
                      refine Ok.nmI (fun x104 ex104 => ?_)
                      refine Ok.nmI (fun x105 ex105 => ?_)
                      refine Ok.ite (fun h106 => ?_) (fun h106 => ?_)
                      · refine Ok.ite (fun h107 => ?_) (fun h107 => ?_)
                        · refine Ok.c1 (tf_Main_at (by decide)) (fun r108 _ => ?_)
                          unfold J_Law_value_185
                          unfold J_Law_value_226
                          refine Ok.nmI (fun x109 ex109 => ?_)
                          exact ih79 x105 r108 x109 M85 k86 (nn_up (y := (400 : Int32)) h88 ex109 n87) (md_up h88 ex109 hm80)
                        · unfold J_Law_value_185
                          unfold J_Law_value_226
                          refine Ok.nmI (fun x110 ex110 => ?_)
                          exact ih79 x105 (x97 + 1) x110 M85 k86 (nn_up (y := (400 : Int32)) h88 ex110 n87) (md_up h88 ex110 hm80)
                      · refine Ok.ite (fun h111 => ?_) (fun h111 => ?_)
                        · refine Ok.ite (fun h112 => ?_) (fun h112 => ?_)
                          · exact ⟨_, rfl, trivial, k86⟩
                          · unfold J_Law_value_204
                            refine Ok.c1 (tf_Law_reckon ) (fun r113 _ => ?_)
                            refine Ok.gd (by rw [ex105]; exact vin_a2 h101 h102) ?_
                            refine Ok.nmM (fun M114 eM114 => ?_)
                            refine Ok.nmI (fun x115 ex115 => ?_)
                            unfold J_Law_value_226
                            refine Ok.nmI (fun x116 ex116 => ?_)
                            exact ih79 x115 x97 x116 M114 (Kl.wM k86 (C9_Lw_3 hWl0 _) eM114) (nn_up (y := (400 : Int32)) h88 ex116 n87) (md_up h88 ex116 hm80)
                        · unfold J_Law_value_204
                          refine Ok.c1 (tf_Law_reckon ) (fun r117 _ => ?_)
                          refine Ok.gd (by rw [ex105]; exact vin_a2 h101 h102) ?_
                          refine Ok.nmM (fun M118 eM118 => ?_)
                          refine Ok.nmI (fun x119 ex119 => ?_)
                          unfold J_Law_value_226
                          refine Ok.nmI (fun x120 ex120 => ?_)
                          exact ih79 x119 x97 x120 M118 (Kl.wM k86 (C9_Lw_3 hWl0 _) eM118) (nn_up (y := (400 : Int32)) h88 ex120 n87) (md_up h88 ex120 hm80)
                    · exact ⟨_, rfl, trivial, k86⟩
                · refine Ok.ite (fun h121 => ?_) (fun h121 => ?_)
                  · exact ⟨_, rfl, trivial, k86⟩
                  · refine Ok.ite (fun h122 => ?_) (fun h122 => ?_)
                    · refine Ok.ite (fun h123 => ?_) (fun h123 => ?_)
                      · refine Ok.c1 (tf_Main_at (by decide)) (fun r124 _ => ?_)
                        unfold J_Law_value_110
                        refine Ok.gd (vin_of h121 (fun q => i_nl q h122) (by decide)) ?_
                        refine Ok.nmM (fun M125 eM125 => ?_)
                        refine Ok.nmI (fun x126 ex126 => ?_)
                        unfold J_Law_value_226
                        refine Ok.nmI (fun x127 ex127 => ?_)
                        exact ih79 x126 x97 x127 M125 (Kl.wM k86 (C9_Lw_3 hWl0 _) eM125) (nn_up (y := (400 : Int32)) h88 ex127 n87) (md_up h88 ex127 hm80)
                      · unfold J_Law_value_110
                        refine Ok.gd (vin_of h121 (fun q => i_nl q h122) (by decide)) ?_
                        refine Ok.nmM (fun M128 eM128 => ?_)
                        refine Ok.nmI (fun x129 ex129 => ?_)
                        unfold J_Law_value_226
                        refine Ok.nmI (fun x130 ex130 => ?_)
                        exact ih79 x129 x97 x130 M128 (Kl.wM k86 (C9_Lw_3 hWl0 _) eM128) (nn_up (y := (400 : Int32)) h88 ex130 n87) (md_up h88 ex130 hm80)
                    · exact ⟨_, rfl, trivial, k86⟩
  exact LP81 _ 0 0 0 M Kl.rf (by decide) fu_up
set_option maxHeartbeats 4000000 in
set_option maxRecDepth 20000 in
theorem tz_Land_potForce {Ld0 : Nat} {p1 : Int32} {p2 : Int32} {p3 : Int32} {p4 : Int32} {p5 : Int32} {M : gM} (hLd0 : isLa Ld0) : ∃ r M', F_Land_potForce Ld0 p1 p2 p3 p4 p5 M = some (r, M') ∧ True ∧ Kl C9 M zL M' zL := by
  refine Ok.x2 (A := fun (r : Int32) (M' : gM) => True ∧ Kl C9 M zL M' zL) ?_
  unfold F_Land_potForce
  refine Ok.c1 (tf_Law_isTold (isLw_9 hLd0)) (fun r345 hbr345 => ?_)
  refine Ok.ite (fun h346 => ?_) (fun h346 => ?_)
  · refine Ok.c1 (tf_Main_within ) (fun r347 _ => ?_)
    exact ⟨_, rfl, trivial, Kl.rf⟩
  · refine Ok.c1 (tz_let (W := Ld0 + 9) (j := 0) (by decide) ((by decide +kernel : ∀ x ∈ lLa, C9 (x + 9 + 2) 0 = true) _ hLd0)) (fun M348 k349 => ?_)
    refine Ok.c1 (tz_let (W := Ld0 + 9) (j := 1) (by decide) ((by decide +kernel : ∀ x ∈ lLa, C9 (x + 9 + 2) 1 = true) _ hLd0)) (fun M350 k351 => ?_)
    refine Ok.c1 (tz_let (W := Ld0 + 9) (j := 2) (by decide) ((by decide +kernel : ∀ x ∈ lLa, C9 (x + 9 + 2) 2 = true) _ hLd0)) (fun M352 k353 => ?_)
    refine Ok.c1 (tz_let (W := Ld0 + 9) (j := 3) (by decide) ((by decide +kernel : ∀ x ∈ lLa, C9 (x + 9 + 2) 3 = true) _ hLd0)) (fun M354 k355 => ?_)
    refine Ok.c1 (tz_let (W := Ld0 + 9) (j := 4) (by decide) ((by decide +kernel : ∀ x ∈ lLa, C9 (x + 9 + 2) 4 = true) _ hLd0)) (fun M356 k357 => ?_)
    refine Ok.c2 (tz_Law_value (isLw_9 hLd0)) (fun r358 M359 ⟨_, k360⟩ => ?_)
    refine Ok.c1 (tf_Main_within ) (fun r361 _ => ?_)
    exact ⟨_, rfl, trivial, (Kl.trans (Kl.trans (Kl.trans (Kl.trans (Kl.trans (Kl.trans Kl.rf k349) k351) k353) k355) k357) k360)⟩
set_option maxHeartbeats 4000000 in
set_option maxRecDepth 20000 in
theorem tz_Land_dishForce {Ld0 : Nat} {p1 : Int32} {p2 : Int32} {p3 : Int32} {p4 : Int32} {M : gM} (hLd0 : isLa Ld0) : ∃ r M', F_Land_dishForce Ld0 p1 p2 p3 p4 M = some (r, M') ∧ True ∧ Kl C9 M zL M' zL := by
  refine Ok.x2 (A := fun (r : Int32) (M' : gM) => True ∧ Kl C9 M zL M' zL) ?_
  unfold F_Land_dishForce
  refine Ok.c1 (tf_Land_sumOf hLd0) (fun r464 _ => ?_)
  refine Ok.c1 (tf_Land_manyIn hLd0) (fun r465 _ => ?_)
  refine Ok.ite (fun h466 => ?_) (fun h466 => ?_)
  · unfold J_Land_dishForce_33
    refine Ok.c1 (tf_Main_at (by decide)) (fun r467 _ => ?_)
    refine Ok.c2 (tz_Land_potForce hLd0) (fun r468 M469 ⟨_, k470⟩ => ?_)
    exact ⟨_, rfl, trivial, (Kl.trans Kl.rf k470)⟩
  · refine Ok.c1 (tf_Land_broughtBy hLd0) (fun r471 _ => ?_)
    refine Ok.nmI (fun x472 ex472 => ?_)
    refine Ok.nmI (fun x473 ex473 => ?_)
    unfold J_Land_dishForce_33
    refine Ok.c1 (tf_Main_at (by decide)) (fun r474 _ => ?_)
    refine Ok.c2 (tz_Land_potForce hLd0) (fun r475 M476 ⟨_, k477⟩ => ?_)
    exact ⟨_, rfl, trivial, (Kl.trans Kl.rf k477)⟩
set_option maxHeartbeats 4000000 in
set_option maxRecDepth 20000 in
theorem tz_Land_boundBy {Ld0 : Nat} {p1 : Int32} {p2 : Int32} {p3 : Int32} {p4 : Int32} {p5 : Int32} {M : gM} (hLd0 : isLa Ld0) : ∃ r M', F_Land_boundBy Ld0 p1 p2 p3 p4 p5 M = some (r, M') ∧ True ∧ Kl C9 M zL M' zL := by
  refine Ok.x2 (A := fun (r : Int32) (M' : gM) => True ∧ Kl C9 M zL M' zL) ?_
  unfold F_Land_boundBy
  refine Ok.c1 (tf_Law_isTold (isLw_13 hLd0)) (fun r301 hbr301 => ?_)
  refine Ok.ite (fun h302 => ?_) (fun h302 => ?_)
  · refine Ok.c1 (tf_Main_within ) (fun r303 _ => ?_)
    exact ⟨_, rfl, trivial, Kl.rf⟩
  · refine Ok.c1 (tz_let (W := Ld0 + 13) (j := 0) (by decide) ((by decide +kernel : ∀ x ∈ lLa, C9 (x + 13 + 2) 0 = true) _ hLd0)) (fun M304 k305 => ?_)
    refine Ok.c1 (tz_let (W := Ld0 + 13) (j := 2) (by decide) ((by decide +kernel : ∀ x ∈ lLa, C9 (x + 13 + 2) 2 = true) _ hLd0)) (fun M306 k307 => ?_)
    refine Ok.c1 (tf_Main_at (by decide)) (fun r308 _ => ?_)
    refine Ok.c1 (tz_let (W := Ld0 + 13) (j := 5) (by decide) ((by decide +kernel : ∀ x ∈ lLa, C9 (x + 13 + 2) 5 = true) _ hLd0)) (fun M309 k310 => ?_)
    refine Ok.c1 (tz_let (W := Ld0 + 13) (j := 6) (by decide) ((by decide +kernel : ∀ x ∈ lLa, C9 (x + 13 + 2) 6 = true) _ hLd0)) (fun M311 k312 => ?_)
    refine Ok.c1 (tz_let (W := Ld0 + 13) (j := 4) (by decide) ((by decide +kernel : ∀ x ∈ lLa, C9 (x + 13 + 2) 4 = true) _ hLd0)) (fun M313 k314 => ?_)
    refine Ok.c2 (tz_Law_value (isLw_13 hLd0)) (fun r315 M316 ⟨_, k317⟩ => ?_)
    refine Ok.c1 (tf_Main_within ) (fun r318 _ => ?_)
    exact ⟨_, rfl, trivial, (Kl.trans (Kl.trans (Kl.trans (Kl.trans (Kl.trans (Kl.trans Kl.rf k305) k307) k310) k312) k314) k317)⟩
end PAR43
