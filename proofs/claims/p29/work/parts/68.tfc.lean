set_option maxHeartbeats 4000000 in
set_option maxRecDepth 20000 in
theorem tf_Main_at {a1 N1 : Nat} {p2 : Int32} {M : gM} (hN1 : N1 < 2 ^ 31) : ∃ r, F_Main_at a1 N1 p2 M = some r ∧ True := by
  show Ok _ _
  unfold F_Main_at
  refine Ok.ite (fun h1 => ?_) (fun h1 => ?_)
  · exact ⟨_, rfl, trivial⟩
  · refine Ok.ite (fun h2 => ?_) (fun h2 => ?_)
    · exact ⟨_, rfl, trivial⟩
    · refine Ok.gd (vin_of h1 h2 hN1) ?_
      exact ⟨_, rfl, trivial⟩
set_option maxHeartbeats 4000000 in
set_option maxRecDepth 20000 in
theorem tf_Main_copyRow {a1 N1 : Nat} {a2 N2 : Nat} {M : gM} (hN1 : N1 < 2 ^ 31) (hN2 : N2 < 2 ^ 31) : ∃ M', F_Main_copyRow a1 N1 a2 N2 M = some M' ∧ Kl (oneL a2) M zL M' zL := by
  show Ok _ _
  unfold F_Main_copyRow
  have LP6 : ∀ (f3 : Nat) (v7 : Int32) (M8 : gM), Kl (oneL a2) M zL M8 zL → ¬ v7 < 0 → (((Int32.ofNat N1) : Int32).toInt - v7.toInt).toNat < f3 → Ok (H_Main_copyRow_2 a1 N1 a2 N2 f3 v7 M8) (fun M' => Kl (oneL a2) M zL M' zL) := by
    intro f3
    induction f3 with
    | zero => intro v7 M8 _ _ hm5; exact absurd hm5 (Nat.not_lt_zero _)
    | succ f3 ih4 =>
      intro v7 M8 k9 n10 hm5
      show Ok (B_Main_copyRow_2 a1 N1 a2 N2 (H_Main_copyRow_2 a1 N1 a2 N2 f3) v7 M8) _
      unfold B_Main_copyRow_2
      refine Ok.ite (fun h11 => ?_) (fun h11 => ?_)
      · exact ⟨_, rfl, k9⟩
      · refine Ok.ite (fun h12 => ?_) (fun h12 => ?_)
        · exact ⟨_, rfl, k9⟩
        · refine Ok.gd (vin_of n10 h11 hN1) ?_
          refine Ok.gd (vin_of n10 h12 hN2) ?_
          refine Ok.nmM (fun M13 eM13 => ?_)
          refine Ok.nmI (fun x14 ex14 => ?_)
          exact ih4 x14 M13 (Kl.wM k9 (oneL_self a2 _) eM13) (nn_up (y := ((Int32.ofNat N1) : Int32)) h11 ex14 n10) (md_up h11 ex14 hm5)
  exact LP6 _ 0 M Kl.rf (by decide) fu_up
set_option maxHeartbeats 4000000 in
set_option maxRecDepth 20000 in
theorem tf_Main_hasBit {p1 : Int32} {p2 : Int32}  : ∃ r, F_Main_hasBit p1 p2 = some r ∧ (r = 0 ∨ r = 1) := by
  show Ok _ _
  unfold F_Main_hasBit
  refine Ok.ite (fun h15 => ?_) (fun h15 => ?_)
  · exact ⟨_, rfl, (Or.inl rfl)⟩
  · exact ⟨_, rfl, (Or.inr rfl)⟩
set_option maxHeartbeats 4000000 in
set_option maxRecDepth 20000 in
theorem tf_Main_isOne {p1 : Int32} {p2 : Int32}  : ∃ r, F_Main_isOne p1 p2 = some r ∧ (r = 0 ∨ r = 1) := by
  show Ok _ _
  unfold F_Main_isOne
  refine Ok.ite (fun h16 => ?_) (fun h16 => ?_)
  · exact ⟨_, rfl, (Or.inl rfl)⟩
  · refine Ok.ite (fun h17 => ?_) (fun h17 => ?_)
    · exact ⟨_, rfl, (Or.inl rfl)⟩
    · exact ⟨_, rfl, (Or.inr rfl)⟩
set_option maxHeartbeats 4000000 in
set_option maxRecDepth 20000 in
theorem tf_Main_place  {M : gM} : ∃ r, F_Main_place M = some r ∧ True := by
  show Ok _ _
  unfold F_Main_place
  exact ⟨_, rfl, trivial⟩
set_option maxHeartbeats 4000000 in
set_option maxRecDepth 20000 in
theorem tf_Main_put {a1 N1 : Nat} {p2 : Int32} {p3 : Int32} {M : gM} (hN1 : N1 < 2 ^ 31) : ∃ M', F_Main_put a1 N1 p2 p3 M = some M' ∧ Kl (oneL a1) M zL M' zL := by
  show Ok _ _
  unfold F_Main_put
  refine Ok.ite (fun h18 => ?_) (fun h18 => ?_)
  · exact ⟨_, rfl, Kl.rf⟩
  · refine Ok.ite (fun h19 => ?_) (fun h19 => ?_)
    · exact ⟨_, rfl, Kl.rf⟩
    · refine Ok.gd (vin_of h18 h19 hN1) ?_
      refine Ok.nmM (fun M20 eM20 => ?_)
      exact ⟨_, rfl, (Kl.wM Kl.rf (oneL_self a1 _) eM20)⟩
set_option maxHeartbeats 4000000 in
set_option maxRecDepth 20000 in
theorem tf_Main_wipe {a1 N1 : Nat} {M : gM} (hN1 : N1 < 2 ^ 31) : ∃ M', F_Main_wipe a1 N1 M = some M' ∧ Kl (oneL a1) M zL M' zL := by
  show Ok _ _
  unfold F_Main_wipe
  have LP24 : ∀ (f21 : Nat) (v25 : Int32) (M26 : gM), Kl (oneL a1) M zL M26 zL → ¬ v25 < 0 → (((Int32.ofNat N1) : Int32).toInt - v25.toInt).toNat < f21 → Ok (H_Main_wipe_2 a1 N1 f21 v25 M26) (fun M' => Kl (oneL a1) M zL M' zL) := by
    intro f21
    induction f21 with
    | zero => intro v25 M26 _ _ hm23; exact absurd hm23 (Nat.not_lt_zero _)
    | succ f21 ih22 =>
      intro v25 M26 k27 n28 hm23
      show Ok (B_Main_wipe_2 a1 N1 (H_Main_wipe_2 a1 N1 f21) v25 M26) _
      unfold B_Main_wipe_2
      refine Ok.ite (fun h29 => ?_) (fun h29 => ?_)
      · exact ⟨_, rfl, k27⟩
      · refine Ok.gd (vin_of n28 h29 hN1) ?_
        refine Ok.nmM (fun M30 eM30 => ?_)
        refine Ok.nmI (fun x31 ex31 => ?_)
        exact ih22 x31 M30 (Kl.wM k27 (oneL_self a1 _) eM30) (nn_up (y := ((Int32.ofNat N1) : Int32)) h29 ex31 n28) (md_up h29 ex31 hm23)
  exact LP24 _ 0 M Kl.rf (by decide) fu_up
set_option maxHeartbeats 4000000 in
set_option maxRecDepth 20000 in
theorem tf_Land_stirred {p1 : Int32} {p2 : Int32}  : ∃ r, F_Land_stirred p1 p2 = some r ∧ True := by
  show Ok _ _
  unfold F_Land_stirred
  refine Ok.nmI (fun x32 ex32 => ?_)
  exact ⟨_, rfl, trivial⟩
set_option maxHeartbeats 4000000 in
set_option maxRecDepth 20000 in
theorem tf_Law_isTold {Wl0 : Nat} {M : gM} (hWl0 : isLw Wl0) : ∃ r, F_Law_isTold Wl0 M = some r ∧ (r = 0 ∨ r = 1) := by
  show Ok _ _
  unfold F_Law_isTold
  refine Ok.ite (fun h33 => ?_) (fun h33 => ?_)
  · exact ⟨_, rfl, (Or.inl rfl)⟩
  · exact ⟨_, rfl, (Or.inr rfl)⟩
set_option maxHeartbeats 4000000 in
set_option maxRecDepth 20000 in
theorem tf_Law_looksAt {Wl0 : Nat} {p1 : Int32} {M : gM} (hWl0 : isLw Wl0) : ∃ r, F_Law_looksAt Wl0 p1 M = some r ∧ (r = 0 ∨ r = 1) := by
  show Ok _ _
  unfold F_Law_looksAt
  have LP37 : ∀ (f34 : Nat) (v38 : Int32), ¬ v38 < 0 → ((M Wl0 1).toInt - v38.toInt).toNat < f34 → Ok (H_Law_looksAt_2 Wl0 p1 M f34 v38) (fun r => (r = 0 ∨ r = 1)) := by
    intro f34
    induction f34 with
    | zero => intro v38 _ hm36; exact absurd hm36 (Nat.not_lt_zero _)
    | succ f34 ih35 =>
      intro v38 n39 hm36
      show Ok (B_Law_looksAt_2 Wl0 p1 M (H_Law_looksAt_2 Wl0 p1 M f34) v38) _
      unfold B_Law_looksAt_2
      refine Ok.ite (fun h40 => ?_) (fun h40 => ?_)
      · exact ⟨_, rfl, (Or.inl rfl)⟩
      · refine Ok.ite (fun h41 => ?_) (fun h41 => ?_)
        · exact ⟨_, rfl, (Or.inl rfl)⟩
        · refine Ok.gd (vin_of n39 h41 (by decide)) ?_
          refine Ok.ite (fun h42 => ?_) (fun h42 => ?_)
          · exact ⟨_, rfl, (Or.inr rfl)⟩
          · refine Ok.nmI (fun x43 ex43 => ?_)
            exact ih35 x43 (nn_up (y := (M Wl0 1)) h40 ex43 n39) (md_up h40 ex43 hm36)
  exact LP37 _ 0 (by decide) fu_up
set_option maxHeartbeats 4000000 in
set_option maxRecDepth 20000 in
theorem tf_Law_reckon {p1 : Int32} {p2 : Int32} {p3 : Int32}  : ∃ r, F_Law_reckon p1 p2 p3 = some r ∧ True := by
  show Ok _ _
  unfold F_Law_reckon
  refine Ok.ite (fun h44 => ?_) (fun h44 => ?_)
  · exact ⟨_, rfl, trivial⟩
  refine Ok.ite (fun h45 => ?_) (fun h45 => ?_)
  · exact ⟨_, rfl, trivial⟩
  refine Ok.ite (fun h46 => ?_) (fun h46 => ?_)
  · refine Ok.ite (fun h47 => ?_) (fun h47 => ?_)
    · exact ⟨_, rfl, trivial⟩
    · refine Ok.gd h47 ?_
      exact ⟨_, rfl, trivial⟩
  refine Ok.ite (fun h48 => ?_) (fun h48 => ?_)
  · exact ⟨_, rfl, trivial⟩
  refine Ok.ite (fun h49 => ?_) (fun h49 => ?_)
  · exact ⟨_, rfl, trivial⟩
  · refine Ok.gd h49 ?_
    exact ⟨_, rfl, trivial⟩
set_option maxHeartbeats 4000000 in
set_option maxRecDepth 20000 in
theorem tf_MenuSearch_indexOf {p1 : Int32} {p2 : Int32} {p3 : Int32}  : ∃ r, F_MenuSearch_indexOf p1 p2 p3 = some r ∧ True := by
  show Ok _ _
  unfold F_MenuSearch_indexOf
  exact ⟨_, rfl, trivial⟩
set_option maxHeartbeats 4000000 in
set_option maxRecDepth 20000 in
theorem tf_Int_bitCount {p1 : Int32}  : ∃ r, F_Int_bitCount p1 = some r ∧ True := by
  show Ok _ _
  unfold F_Int_bitCount
  refine Ok.nmI (fun x50 ex50 => ?_)
  refine Ok.nmI (fun x51 ex51 => ?_)
  refine Ok.nmI (fun x52 ex52 => ?_)
  refine Ok.nmI (fun x53 ex53 => ?_)
  refine Ok.nmI (fun x54 ex54 => ?_)
  exact ⟨_, rfl, trivial⟩
set_option maxHeartbeats 4000000 in
set_option maxRecDepth 20000 in
theorem tf_Main_within {p1 : Int32} {p2 : Int32} {p3 : Int32}  : ∃ r, F_Main_within p1 p2 p3 = some r ∧ True := by
  show Ok _ _
  unfold F_Main_within
  exact ⟨_, rfl, trivial⟩
set_option maxHeartbeats 4000000 in
set_option maxRecDepth 20000 in
theorem tf_Land_broughtBy {Ld0 : Nat} {p1 : Int32} {p2 : Int32} {M : gM} (hLd0 : isLa Ld0) : ∃ r, F_Land_broughtBy Ld0 p1 p2 M = some r ∧ True := by
  show Ok _ _
  unfold F_Land_broughtBy
  refine Ok.c1 (tf_Main_at (by decide)) (fun r55 _ => ?_)
  exact ⟨_, rfl, trivial⟩
set_option maxHeartbeats 4000000 in
set_option maxRecDepth 20000 in
theorem tf_Land_freeUnder {Ld0 : Nat} {p1 : Int32} {p2 : Int32} {M : gM} (hLd0 : isLa Ld0) : ∃ r, F_Land_freeUnder Ld0 p1 p2 M = some r ∧ True := by
  show Ok _ _
  unfold F_Land_freeUnder
  have LP59 : ∀ (f56 : Nat) (v60 : Int32) (v61 : Int32), ¬ v61 < 0 → ((M Ld0 3).toInt - v61.toInt).toNat < f56 → Ok (H_Land_freeUnder_5 Ld0 p1 p2 M f56 v60 v61) (fun r => True) := by
    intro f56
    induction f56 with
    | zero => intro v60 v61 _ hm58; exact absurd hm58 (Nat.not_lt_zero _)
    | succ f56 ih57 =>
      intro v60 v61 n62 hm58
      show Ok (B_Land_freeUnder_5 Ld0 p1 p2 M (H_Land_freeUnder_5 Ld0 p1 p2 M f56) v60 v61) _
      unfold B_Land_freeUnder_5
      refine Ok.ite (fun h63 => ?_) (fun h63 => ?_)
      · exact ⟨_, rfl, trivial⟩
      · refine Ok.c1 (tf_Main_at (by decide)) (fun r64 _ => ?_)
        refine Ok.ite (fun h65 => ?_) (fun h65 => ?_)
        · refine Ok.c1 (tf_Main_at (by decide)) (fun r66 _ => ?_)
          refine Ok.ite (fun h67 => ?_) (fun h67 => ?_)
          · unfold J_Land_freeUnder_47
            refine Ok.nmI (fun x68 ex68 => ?_)
            exact ih57 v60 x68 (nn_up (y := (M Ld0 3)) h63 ex68 n62) (md_up h63 ex68 hm58)
          · refine Ok.nmI (fun x69 ex69 => ?_)
            unfold J_Land_freeUnder_47
            refine Ok.nmI (fun x70 ex70 => ?_)
            exact ih57 x69 x70 (nn_up (y := (M Ld0 3)) h63 ex70 n62) (md_up h63 ex70 hm58)
        · unfold J_Land_freeUnder_47
          refine Ok.nmI (fun x71 ex71 => ?_)
          exact ih57 v60 x71 (nn_up (y := (M Ld0 3)) h63 ex71 n62) (md_up h63 ex71 hm58)
  exact LP59 _ 0 0 (by decide) fu_up
set_option maxHeartbeats 4000000 in
set_option maxRecDepth 20000 in
theorem tf_Land_inDish {Ld0 : Nat} {p1 : Int32} {p2 : Int32} {M : gM} (hLd0 : isLa Ld0) : ∃ r, F_Land_inDish Ld0 p1 p2 M = some r ∧ True := by
  show Ok _ _
  unfold F_Land_inDish
  refine Ok.c1 (tf_Main_at (by decide)) (fun r72 _ => ?_)
  exact ⟨_, rfl, trivial⟩
set_option maxHeartbeats 4000000 in
set_option maxRecDepth 20000 in
theorem tf_Land_lot {p1 : Int32} {p2 : Int32} {p3 : Int32}  : ∃ r, F_Land_lot p1 p2 p3 = some r ∧ True := by
  show Ok _ _
  unfold F_Land_lot
  refine Ok.c1 (tf_Land_stirred ) (fun r73 _ => ?_)
  refine Ok.c1 (tf_Land_stirred ) (fun r74 _ => ?_)
  refine Ok.ite (fun h75 => ?_) (fun h75 => ?_)
  · exact ⟨_, rfl, trivial⟩
  · refine Ok.gd (fun q => h75 (by rw [q]; decide)) ?_
    exact ⟨_, rfl, trivial⟩
set_option maxHeartbeats 4000000 in
set_option maxRecDepth 20000 in
theorem let_e {W j : Nat} {x : Int32} {M : gM} (hj : j < 9) : F_Law_let W (nI j) x M = some (uM M (W + 2) j x) := by
  unfold F_Law_let
  rw [s_put hj (by decide), bI_s]
theorem tf_let {W j : Nat} {x : Int32} {M : gM} (hj : j < 9) (hC : C0 (W + 2) j = true) : ∃ M', F_Law_let W (nI j) x M = some M' ∧ Kl C0 M zL M' zL := ⟨_, let_e hj, Kl.wM Kl.rf hC rfl⟩
set_option maxHeartbeats 4000000 in
set_option maxRecDepth 20000 in
theorem tf_Law_value {Wl0 : Nat} {M : gM} (hWl0 : isLw Wl0) : ∃ r M', F_Law_value Wl0 M = some (r, M') ∧ True ∧ Kl C0 M zL M' zL := by
  refine Ok.x2 (A := fun (r : Int32) (M' : gM) => True ∧ Kl C0 M zL M' zL) ?_
  unfold F_Law_value
  have LP81 : ∀ (f78 : Nat) (v82 : Int32) (v83 : Int32) (v84 : Int32) (M85 : gM), Kl C0 M zL M85 zL → ¬ v84 < 0 → ((400 : Int32).toInt - v84.toInt).toNat < f78 → Ok (H_Law_value_6 Wl0 f78 v82 v83 v84 M85) (fun q => True ∧ Kl C0 M zL q.2 zL) := by
    intro f78
    induction f78 with
    | zero => intro v82 v83 v84 M85 _ _ hm80; exact absurd hm80 (Nat.not_lt_zero _)
    | succ f78 ih79 =>
      intro v82 v83 v84 M85 k86 n87 hm80
      show Ok (B_Law_value_6 Wl0 (H_Law_value_6 Wl0 f78) v82 v83 v84 M85) _
      unfold B_Law_value_6
      refine Ok.ite (fun h88 => ?_) (fun h88 => ?_)
      · unfold J_Law_value_232
        refine Ok.c1 (tf_Main_at (by decide)) (fun r89 _ => ?_)
        exact ⟨_, rfl, trivial, k86⟩
      · refine Ok.ite (fun h90 => ?_) (fun h90 => ?_)
        · unfold J_Law_value_232
          refine Ok.c1 (tf_Main_at (by decide)) (fun r91 _ => ?_)
          exact ⟨_, rfl, trivial, k86⟩
        · refine Ok.ite (fun h92 => ?_) (fun h92 => ?_)
          · unfold J_Law_value_232
            refine Ok.c1 (tf_Main_at (by decide)) (fun r93 _ => ?_)
            exact ⟨_, rfl, trivial, k86⟩
          · refine Ok.ite (fun h94 => ?_) (fun h94 => ?_)
            · unfold J_Law_value_232
              refine Ok.c1 (tf_Main_at (by decide)) (fun r95 _ => ?_)
              exact ⟨_, rfl, trivial, k86⟩
            · refine Ok.gd (vin_of h90 h94 (by decide)) ?_
              refine Ok.nmI (fun x96 ex96 => ?_)
              refine Ok.nmI (fun x97 ex97 => ?_)
              refine Ok.ite (fun h98 => ?_) (fun h98 => ?_)
              · unfold J_Law_value_53
                unfold J_Law_value_232
                refine Ok.c1 (tf_Main_at (by decide)) (fun r99 _ => ?_)
                exact ⟨_, rfl, trivial, k86⟩
              · refine Ok.ite (fun h100 => ?_) (fun h100 => ?_)
                · refine Ok.ite (fun h101 => ?_) (fun h101 => ?_)
                  · exact ⟨_, rfl, trivial, k86⟩
                  · refine Ok.ite (fun h102 => ?_) (fun h102 => ?_)
                    · refine Ok.gd (vin_s2 h101 h102) ?_
                      refine Ok.nmI (fun x103 ex103 => ?_)
                      refine Ok.gd (vin_s1 h101 h102) ?_
                      refine Ok.nmI (fun x104 ex104 => ?_)
                      refine Ok.nmI (fun x105 ex105 => ?_)
                      refine Ok.ite (fun h106 => ?_) (fun h106 => ?_)
                      · refine Ok.ite (fun h107 => ?_) (fun h107 => ?_)
                        · refine Ok.c1 (tf_Main_at (by decide)) (fun r108 _ => ?_)
                          unfold J_Law_value_185
                          unfold J_Law_value_226
                          refine Ok.nmI (fun x109 ex109 => ?_)
                          exact ih79 x105 r108 x109 M85 k86 (nn_up (y := (400 : Int32)) h88 ex109 n87) (md_up h88 ex109 hm80)
                        · unfold J_Law_value_185
                          unfold J_Law_value_226
                          refine Ok.nmI (fun x110 ex110 => ?_)
                          exact ih79 x105 (x97 + 1) x110 M85 k86 (nn_up (y := (400 : Int32)) h88 ex110 n87) (md_up h88 ex110 hm80)
                      · refine Ok.ite (fun h111 => ?_) (fun h111 => ?_)
                        · refine Ok.ite (fun h112 => ?_) (fun h112 => ?_)
                          · exact ⟨_, rfl, trivial, k86⟩
                          · unfold J_Law_value_204
                            refine Ok.c1 (tf_Law_reckon ) (fun r113 _ => ?_)
                            refine Ok.gd (by rw [ex105]; exact vin_a2 h101 h102) ?_
                            refine Ok.nmM (fun M114 eM114 => ?_)
                            refine Ok.nmI (fun x115 ex115 => ?_)
                            unfold J_Law_value_226
                            refine Ok.nmI (fun x116 ex116 => ?_)
                            exact ih79 x115 x97 x116 M114 (Kl.wM k86 (C0_Lw_3 hWl0 _) eM114) (nn_up (y := (400 : Int32)) h88 ex116 n87) (md_up h88 ex116 hm80)
                        · unfold J_Law_value_204
                          refine Ok.c1 (tf_Law_reckon ) (fun r117 _ => ?_)
                          refine Ok.gd (by rw [ex105]; exact vin_a2 h101 h102) ?_
                          refine Ok.nmM (fun M118 eM118 => ?_)
                          refine Ok.nmI (fun x119 ex119 => ?_)
                          unfold J_Law_value_226
                          refine Ok.nmI (fun x120 ex120 => ?_)
                          exact ih79 x119 x97 x120 M118 (Kl.wM k86 (C0_Lw_3 hWl0 _) eM118) (nn_up (y := (400 : Int32)) h88 ex120 n87) (md_up h88 ex120 hm80)
                    · exact ⟨_, rfl, trivial, k86⟩
                · refine Ok.ite (fun h121 => ?_) (fun h121 => ?_)
                  · exact ⟨_, rfl, trivial, k86⟩
                  · refine Ok.ite (fun h122 => ?_) (fun h122 => ?_)
                    · refine Ok.ite (fun h123 => ?_) (fun h123 => ?_)
                      · refine Ok.c1 (tf_Main_at (by decide)) (fun r124 _ => ?_)
                        unfold J_Law_value_110
                        refine Ok.gd (vin_of h121 (fun q => i_nl q h122) (by decide)) ?_
                        refine Ok.nmM (fun M125 eM125 => ?_)
                        refine Ok.nmI (fun x126 ex126 => ?_)
                        unfold J_Law_value_226
                        refine Ok.nmI (fun x127 ex127 => ?_)
                        exact ih79 x126 x97 x127 M125 (Kl.wM k86 (C0_Lw_3 hWl0 _) eM125) (nn_up (y := (400 : Int32)) h88 ex127 n87) (md_up h88 ex127 hm80)
                      · unfold J_Law_value_110
                        refine Ok.gd (vin_of h121 (fun q => i_nl q h122) (by decide)) ?_
                        refine Ok.nmM (fun M128 eM128 => ?_)
                        refine Ok.nmI (fun x129 ex129 => ?_)
                        unfold J_Law_value_226
                        refine Ok.nmI (fun x130 ex130 => ?_)
                        exact ih79 x129 x97 x130 M128 (Kl.wM k86 (C0_Lw_3 hWl0 _) eM128) (nn_up (y := (400 : Int32)) h88 ex130 n87) (md_up h88 ex130 hm80)
                    · exact ⟨_, rfl, trivial, k86⟩
  exact LP81 _ 0 0 0 M Kl.rf (by decide) fu_up
set_option maxHeartbeats 4000000 in
set_option maxRecDepth 20000 in
theorem tf_MenuSearch_isFree {p1 : Int32} {p2 : Int32} {p3 : Int32} {M : gM} : ∃ r, F_MenuSearch_isFree p1 p2 p3 M = some r ∧ (r = 0 ∨ r = 1) := by
  show Ok _ _
  unfold F_MenuSearch_isFree
  refine Ok.ite (fun h131 => ?_) (fun h131 => ?_)
  · refine Ok.c1 (tf_MenuSearch_indexOf ) (fun r132 _ => ?_)
    refine Ok.ite (fun h133 => ?_) (fun h133 => ?_)
    · exact ⟨_, rfl, (Or.inl rfl)⟩
    · refine Ok.ite (fun h134 => ?_) (fun h134 => ?_)
      · exact ⟨_, rfl, (Or.inl rfl)⟩
      · refine Ok.gd (vin_of h133 h134 (by decide)) ?_
        refine Ok.ite (fun h135 => ?_) (fun h135 => ?_)
        · exact ⟨_, rfl, (Or.inl rfl)⟩
        · exact ⟨_, rfl, (Or.inr rfl)⟩
  · refine Ok.ite (fun h136 => ?_) (fun h136 => ?_)
    · exact ⟨_, rfl, (Or.inl rfl)⟩
    · refine Ok.ite (fun h137 => ?_) (fun h137 => ?_)
      · exact ⟨_, rfl, (Or.inl rfl)⟩
      · refine Ok.gd (vin_of h136 h137 (by decide)) ?_
        refine Ok.ite (fun h138 => ?_) (fun h138 => ?_)
        · exact ⟨_, rfl, (Or.inl rfl)⟩
        · exact ⟨_, rfl, (Or.inr rfl)⟩
set_option maxHeartbeats 4000000 in
set_option maxRecDepth 20000 in
theorem tf_MenuSearch_step {p1 : Int32} {p2 : Int32} {M : gM} : ∃ r M', F_MenuSearch_step p1 p2 M = some (r, M') ∧ (r = 0 ∨ r = 1) ∧ Kl C1 M zL M' zL := by
  refine Ok.x2 (A := fun (r : Int32) (M' : gM) => (r = 0 ∨ r = 1) ∧ Kl C1 M zL M' zL) ?_
  unfold F_MenuSearch_step
  refine Ok.nmI (fun x139 ex139 => ?_)
  have LP143 : ∀ (f140 : Nat) (v144 : Int32) (M145 : gM), Kl C1 M zL M145 zL → (v144.toInt + 1).toNat < f140 → Ok (H_MenuSearch_step_4 p2 f140 v144 M145) (fun q => (q.1 = 0 ∨ q.1 = 1) ∧ Kl C1 M zL q.2 zL) := by
    intro f140
    induction f140 with
    | zero => intro v144 M145 _ hm142; exact absurd hm142 (Nat.not_lt_zero _)
    | succ f140 ih141 =>
      intro v144 M145 k146 hm142
      show Ok (B_MenuSearch_step_4 p2 (H_MenuSearch_step_4 p2 f140) v144 M145) _
      unfold B_MenuSearch_step_4
      refine Ok.ite (fun h147 => ?_) (fun h147 => ?_)
      · exact ⟨_, rfl, (Or.inl rfl), k146⟩
      · refine Ok.c1 (tf_Main_at (by decide)) (fun r148 _ => ?_)
        refine Ok.ite (fun h149 => ?_) (fun h149 => ?_)
        · refine Ok.c1 (tf_Main_put (by decide)) (fun M150 k151 => ?_)
          refine Ok.nmI (fun x152 ex152 => ?_)
          exact ih141 x152 M150 (Kl.trans k146 (Kl.mono k151 (oneL_S (fun _ => rfl)))) (md_dn h147 ex152 hm142)
        · unfold J_MenuSearch_step_24
          refine Ok.c1 (tf_Main_put (by decide)) (fun M153 k154 => ?_)
          exact ⟨_, rfl, (Or.inr rfl), (Kl.trans k146 (Kl.mono k154 (oneL_S (fun _ => rfl))))⟩
  exact LP143 _ x139 M Kl.rf fu_dn
set_option maxHeartbeats 4000000 in
set_option maxRecDepth 20000 in
theorem tf_PotSearch_fillFrom {X1 : Nat} {p2 : Int32} {p3 : Int32} {M : gM} (hX1 : isSt X1) : ∃ M', F_PotSearch_fillFrom X1 p2 p3 M = some M' ∧ Kl C1 M zL M' zL := by
  show Ok _ _
  unfold F_PotSearch_fillFrom
  have LP158 : ∀ (f155 : Nat) (v159 : Int32) (v160 : Int32) (M161 : gM), Kl C1 M zL M161 zL → ((6 : Int32).toInt - v160.toInt).toNat < f155 → Ok (H_PotSearch_fillFrom_6 X1 f155 v159 v160 M161) (fun M' => Kl C1 M zL M' zL) := by
    intro f155
    induction f155 with
    | zero => intro v159 v160 M161 _ hm157; exact absurd hm157 (Nat.not_lt_zero _)
    | succ f155 ih156 =>
      intro v159 v160 M161 k162 hm157
      show Ok (B_PotSearch_fillFrom_6 X1 (H_PotSearch_fillFrom_6 X1 f155) v159 v160 M161) _
      unfold B_PotSearch_fillFrom_6
      refine Ok.ite (fun h163 => ?_) (fun h163 => ?_)
      · exact ⟨_, rfl, k162⟩
      · refine Ok.c1 (tf_Main_at (by decide)) (fun r164 _ => ?_)
        refine Ok.nmI (fun x165 ex165 => ?_)
        refine Ok.c1 (tf_Main_put (by decide)) (fun M166 k167 => ?_)
        refine Ok.nmI (fun x168 ex168 => ?_)
        refine Ok.nmI (fun x169 ex169 => ?_)
        exact ih156 x168 x169 M166 (Kl.trans k162 (Kl.mono k167 (oneL_S (fun _ => rfl)))) (md_up h163 ex169 hm157)
  exact LP158 _ p3 p2 M Kl.rf fu_up
set_option maxHeartbeats 4000000 in
set_option maxRecDepth 20000 in
theorem tf_Slots_full  {M : gM} : ∃ r, F_Slots_full M = some r ∧ True := by
  show Ok _ _
  unfold F_Slots_full
  refine Ok.c1 (tf_Int_bitCount ) (fun r170 _ => ?_)
  exact ⟨_, rfl, trivial⟩
set_option maxHeartbeats 4000000 in
set_option maxRecDepth 20000 in
theorem tf_State_agoOf {X0 : Nat} {p1 : Int32} {M : gM} (hX0 : isSt X0) : ∃ r, F_State_agoOf X0 p1 M = some r ∧ True := by
  show Ok _ _
  unfold F_State_agoOf
  refine Ok.c1 (tf_Main_at (by decide)) (fun r171 _ => ?_)
  exact ⟨_, rfl, trivial⟩
set_option maxHeartbeats 4000000 in
set_option maxRecDepth 20000 in
theorem tf_State_allMeals {X0 : Nat} {M : gM} (hX0 : isSt X0) : ∃ r, F_State_allMeals X0 M = some r ∧ True := by
  show Ok _ _
  unfold F_State_allMeals
  have LP175 : ∀ (f172 : Nat) (v176 : Int32) (v177 : Int32), ¬ v177 < 0 → ((4 : Int32).toInt - v177.toInt).toNat < f172 → Ok (H_State_allMeals_4 X0 M f172 v176 v177) (fun r => True) := by
    intro f172
    induction f172 with
    | zero => intro v176 v177 _ hm174; exact absurd hm174 (Nat.not_lt_zero _)
    | succ f172 ih173 =>
      intro v176 v177 n178 hm174
      show Ok (B_State_allMeals_4 X0 M (H_State_allMeals_4 X0 M f172) v176 v177) _
      unfold B_State_allMeals_4
      refine Ok.ite (fun h179 => ?_) (fun h179 => ?_)
      · exact ⟨_, rfl, trivial⟩
      · refine Ok.c1 (tf_Main_at (by decide)) (fun r180 _ => ?_)
        refine Ok.nmI (fun x181 ex181 => ?_)
        refine Ok.nmI (fun x182 ex182 => ?_)
        exact ih173 x181 x182 (nn_up (y := (4 : Int32)) h179 ex182 n178) (md_up h179 ex182 hm174)
  exact LP175 _ 0 0 (by decide) fu_up
set_option maxHeartbeats 4000000 in
set_option maxRecDepth 20000 in
theorem tf_State_begin {X0 : Nat} {Ld1 : Nat} {M : gM} (hX0 : isSt X0) (hLd1 : isLa Ld1) : ∃ M', F_State_begin X0 Ld1 M = some M' ∧ Kl (CX X0) M zL M' zL := by
  show Ok _ _
  unfold F_State_begin
  refine Ok.nmM (fun M183 eM183 => ?_)
  refine Ok.nmM (fun M184 eM184 => ?_)
  refine Ok.nmM (fun M185 eM185 => ?_)
  refine Ok.nmM (fun M186 eM186 => ?_)
  refine Ok.c1 (tf_Main_wipe (by decide)) (fun M187 k188 => ?_)
  refine Ok.c1 (tf_Main_wipe (by decide)) (fun M189 k190 => ?_)
  refine Ok.c1 (tf_Main_wipe (by decide)) (fun M191 k192 => ?_)
  refine Ok.c1 (tf_Main_wipe (by decide)) (fun M193 k194 => ?_)
  refine Ok.c1 (tf_Main_wipe (by decide)) (fun M195 k196 => ?_)
  have LP200 : ∀ (f197 : Nat) (v201 : Int32) (M202 : gM), Kl (CX X0) M zL M202 zL → ¬ v201 < 0 → ((6 : Int32).toInt - v201.toInt).toNat < f197 → Ok (H_State_begin_58 X0 Ld1 f197 v201 M202) (fun M' => Kl (CX X0) M zL M' zL) := by
    intro f197
    induction f197 with
    | zero => intro v201 M202 _ _ hm199; exact absurd hm199 (Nat.not_lt_zero _)
    | succ f197 ih198 =>
      intro v201 M202 k203 n204 hm199
      show Ok (B_State_begin_58 X0 Ld1 (H_State_begin_58 X0 Ld1 f197) v201 M202) _
      unfold B_State_begin_58
      refine Ok.ite (fun h205 => ?_) (fun h205 => ?_)
      · exact ⟨_, rfl, k203⟩
      · refine Ok.ite (fun h206 => ?_) (fun h206 => ?_)
        · unfold J_State_begin_89
          refine Ok.c1 (tf_Main_put (by decide)) (fun M207 k208 => ?_)
          refine Ok.nmI (fun x209 ex209 => ?_)
          exact ih198 x209 M207 (Kl.trans k203 (Kl.mono k208 (oneL_S (fun _ => CX_o ⟨by omega, by omega⟩)))) (nn_up (y := (6 : Int32)) h205 ex209 n204) (md_up h205 ex209 hm199)
        · refine Ok.c1 (tf_Main_at (by decide)) (fun r210 _ => ?_)
          unfold J_State_begin_89
          refine Ok.c1 (tf_Main_put (by decide)) (fun M211 k212 => ?_)
          refine Ok.nmI (fun x213 ex213 => ?_)
          exact ih198 x213 M211 (Kl.trans k203 (Kl.mono k212 (oneL_S (fun _ => CX_o ⟨by omega, by omega⟩)))) (nn_up (y := (6 : Int32)) h205 ex213 n204) (md_up h205 ex213 hm199)
  exact LP200 _ 0 M195 (Kl.trans (Kl.trans (Kl.trans (Kl.trans (Kl.trans (Kl.wM (Kl.wM (Kl.wM (Kl.wM Kl.rf (CX_o ⟨by omega, by omega⟩) eM183) (CX_o ⟨by omega, by omega⟩) eM184) (CX_o ⟨by omega, by omega⟩) eM185) (CX_o ⟨by omega, by omega⟩) eM186) (Kl.mono k188 (oneL_S (fun _ => CX_o ⟨by omega, by omega⟩)))) (Kl.mono k190 (oneL_S (fun _ => CX_o ⟨by omega, by omega⟩)))) (Kl.mono k192 (oneL_S (fun _ => CX_o ⟨by omega, by omega⟩)))) (Kl.mono k194 (oneL_S (fun _ => CX_o ⟨by omega, by omega⟩)))) (Kl.mono k196 (oneL_S (fun _ => CX_o ⟨by omega, by omega⟩)))) (by decide) fu_up
set_option maxHeartbeats 4000000 in
set_option maxRecDepth 20000 in
theorem tf_State_copyFrom {X0 : Nat} {X1 : Nat} {M : gM} (hX0 : isSt X0) (hX1 : isSt X1) : ∃ M', F_State_copyFrom X0 X1 M = some M' ∧ Kl (CX X0) M zL M' zL := by
  show Ok _ _
  unfold F_State_copyFrom
  refine Ok.nmM (fun M214 eM214 => ?_)
  refine Ok.nmM (fun M215 eM215 => ?_)
  refine Ok.nmM (fun M216 eM216 => ?_)
  refine Ok.nmM (fun M217 eM217 => ?_)
  refine Ok.c1 (tf_Main_copyRow (by decide) (by decide)) (fun M218 k219 => ?_)
  refine Ok.c1 (tf_Main_copyRow (by decide) (by decide)) (fun M220 k221 => ?_)
  refine Ok.c1 (tf_Main_copyRow (by decide) (by decide)) (fun M222 k223 => ?_)
  refine Ok.c1 (tf_Main_copyRow (by decide) (by decide)) (fun M224 k225 => ?_)
  refine Ok.c1 (tf_Main_copyRow (by decide) (by decide)) (fun M226 k227 => ?_)
  refine Ok.c1 (tf_Main_copyRow (by decide) (by decide)) (fun M228 k229 => ?_)
  exact ⟨_, rfl, (Kl.trans (Kl.trans (Kl.trans (Kl.trans (Kl.trans (Kl.trans (Kl.wM (Kl.wM (Kl.wM (Kl.wM Kl.rf (CX_o ⟨by omega, by omega⟩) eM214) (CX_o ⟨by omega, by omega⟩) eM215) (CX_o ⟨by omega, by omega⟩) eM216) (CX_o ⟨by omega, by omega⟩) eM217) (Kl.mono k219 (oneL_S (fun _ => CX_o ⟨by omega, by omega⟩)))) (Kl.mono k221 (oneL_S (fun _ => CX_o ⟨by omega, by omega⟩)))) (Kl.mono k223 (oneL_S (fun _ => CX_o ⟨by omega, by omega⟩)))) (Kl.mono k225 (oneL_S (fun _ => CX_o ⟨by omega, by omega⟩)))) (Kl.mono k227 (oneL_S (fun _ => CX_o ⟨by omega, by omega⟩)))) (Kl.mono k229 (oneL_S (fun _ => CX_o ⟨by omega, by omega⟩))))⟩
set_option maxHeartbeats 4000000 in
set_option maxRecDepth 20000 in
theorem tf_State_eatServed {X0 : Nat} {p1 : Int32} {M : gM} (hX0 : isSt X0) : ∃ M', F_State_eatServed X0 p1 M = some M' ∧ Kl (CX X0) M zL M' zL := by
  show Ok _ _
  unfold F_State_eatServed
  have LP233 : ∀ (f230 : Nat) (v234 : Int32) (M235 : gM), Kl (CX X0) M zL M235 zL → ¬ v234 < 0 → ((3 : Int32).toInt - v234.toInt).toNat < f230 → Ok (H_State_eatServed_2 X0 p1 f230 v234 M235) (fun M' => Kl (CX X0) M zL M' zL) := by
    intro f230
    induction f230 with
    | zero => intro v234 M235 _ _ hm232; exact absurd hm232 (Nat.not_lt_zero _)
    | succ f230 ih231 =>
      intro v234 M235 k236 n237 hm232
      show Ok (B_State_eatServed_2 X0 p1 (H_State_eatServed_2 X0 p1 f230) v234 M235) _
      unfold B_State_eatServed_2
      refine Ok.ite (fun h238 => ?_) (fun h238 => ?_)
      · unfold J_State_eatServed_33
        refine Ok.c1 (tf_Main_put (by decide)) (fun M239 k240 => ?_)
        refine Ok.c1 (tf_Main_at (by decide)) (fun r241 _ => ?_)
        refine Ok.c1 (tf_Main_put (by decide)) (fun M242 k243 => ?_)
        exact ⟨_, rfl, (Kl.trans (Kl.trans k236 (Kl.mono k240 (oneL_S (fun _ => CX_o ⟨by omega, by omega⟩)))) (Kl.mono k243 (oneL_S (fun _ => CX_o ⟨by omega, by omega⟩))))⟩
      · refine Ok.c1 (tf_Main_at (by decide)) (fun r244 _ => ?_)
        refine Ok.c1 (tf_Main_put (by decide)) (fun M245 k246 => ?_)
        refine Ok.nmI (fun x247 ex247 => ?_)
        exact ih231 x247 M245 (Kl.trans k236 (Kl.mono k246 (oneL_S (fun _ => CX_o ⟨by omega, by omega⟩)))) (nn_up (y := (3 : Int32)) h238 ex247 n237) (md_up h238 ex247 hm232)
  exact LP233 _ 0 M Kl.rf (by decide) fu_up
set_option maxHeartbeats 4000000 in
set_option maxRecDepth 20000 in
theorem tf_State_hasEaten {X0 : Nat} {p1 : Int32} {M : gM} (hX0 : isSt X0) : ∃ r, F_State_hasEaten X0 p1 M = some r ∧ (r = 0 ∨ r = 1) := by
  show Ok _ _
  unfold F_State_hasEaten
  refine Ok.c1 (tf_Main_at (by decide)) (fun r248 _ => ?_)
  refine Ok.ite (fun h249 => ?_) (fun h249 => ?_)
  · exact ⟨_, rfl, (Or.inl rfl)⟩
  · exact ⟨_, rfl, (Or.inr rfl)⟩
set_option maxHeartbeats 4000000 in
set_option maxRecDepth 20000 in
theorem tf_Told_onlyDish  {M : gM} : ∃ r, F_Told_onlyDish M = some r ∧ True := by
  show Ok _ _
  unfold F_Told_onlyDish
  have LP253 : ∀ (f250 : Nat) (v254 : Int32), ¬ v254 < 0 → ((M 383 7).toInt - v254.toInt).toNat < f250 → Ok (H_Told_onlyDish_2 M f250 v254) (fun r => True) := by
    intro f250
    induction f250 with
    | zero => intro v254 _ hm252; exact absurd hm252 (Nat.not_lt_zero _)
    | succ f250 ih251 =>
      intro v254 n255 hm252
      show Ok (B_Told_onlyDish_2 M (H_Told_onlyDish_2 M f250) v254) _
      unfold B_Told_onlyDish_2
      refine Ok.ite (fun h256 => ?_) (fun h256 => ?_)
      · unfold J_Told_onlyDish_38
        refine Ok.ite (fun h257 => ?_) (fun h257 => ?_)
        · exact ⟨_, rfl, trivial⟩
        · refine Ok.c1 (tf_Main_at (by decide)) (fun r258 _ => ?_)
          exact ⟨_, rfl, trivial⟩
      · refine Ok.c1 (tf_Main_at (by decide)) (fun r259 _ => ?_)
        refine Ok.c1 (tf_Main_at (by decide)) (fun r260 _ => ?_)
        refine Ok.ite (fun h261 => ?_) (fun h261 => ?_)
        · refine Ok.nmI (fun x262 ex262 => ?_)
          exact ih251 x262 (nn_up (y := (M 383 7)) h256 ex262 n255) (md_up h256 ex262 hm252)
        · exact ⟨_, rfl, trivial⟩
  exact LP253 _ 1 (by decide) fu_up
set_option maxHeartbeats 4000000 in
set_option maxRecDepth 20000 in
theorem tf_Main_amount {ld : Nat} {p1 : Int32} {p2 : Int32} {M : gM} (hld : isLa ld) : ∃ r, F_Main_amount ld p1 p2 M = some r ∧ True := by
  show Ok _ _
  unfold F_Main_amount
  refine Ok.c1 (tf_Main_isOne ) (fun r263 hbr263 => ?_)
  refine Ok.ite (fun h264 => ?_) (fun h264 => ?_)
  · exact ⟨_, rfl, trivial⟩
  · refine Ok.c1 (tf_Main_isOne ) (fun r265 hbr265 => ?_)
    refine Ok.ite (fun h266 => ?_) (fun h266 => ?_)
    · exact ⟨_, rfl, trivial⟩
    · refine Ok.c1 (tf_Land_inDish hld) (fun r267 _ => ?_)
      exact ⟨_, rfl, trivial⟩
set_option maxHeartbeats 4000000 in
set_option maxRecDepth 20000 in
theorem tf_Main_count {ld : Nat} {p1 : Int32} {M : gM} (hld : isLa ld) : ∃ r, F_Main_count ld p1 M = some r ∧ True := by
  show Ok _ _
  unfold F_Main_count
  refine Ok.ite (fun h268 => ?_) (fun h268 => ?_)
  · exact ⟨_, rfl, trivial⟩
  refine Ok.ite (fun h269 => ?_) (fun h269 => ?_)
  · exact ⟨_, rfl, trivial⟩
  refine Ok.ite (fun h270 => ?_) (fun h270 => ?_)
  · exact ⟨_, rfl, trivial⟩
  refine Ok.ite (fun h271 => ?_) (fun h271 => ?_)
  · exact ⟨_, rfl, trivial⟩
  refine Ok.ite (fun h272 => ?_) (fun h272 => ?_)
  · exact ⟨_, rfl, trivial⟩
  refine Ok.ite (fun h273 => ?_) (fun h273 => ?_)
  · exact ⟨_, rfl, trivial⟩
  refine Ok.ite (fun h274 => ?_) (fun h274 => ?_)
  · exact ⟨_, rfl, trivial⟩
  refine Ok.ite (fun h275 => ?_) (fun h275 => ?_)
  · refine Ok.c1 (tf_Main_at (by decide)) (fun r276 _ => ?_)
    exact ⟨_, rfl, trivial⟩
  refine Ok.ite (fun h277 => ?_) (fun h277 => ?_)
  · refine Ok.c1 (tf_Main_at (by decide)) (fun r278 _ => ?_)
    exact ⟨_, rfl, trivial⟩
  refine Ok.ite (fun h279 => ?_) (fun h279 => ?_)
  · refine Ok.c1 (tf_Main_at (by decide)) (fun r280 _ => ?_)
    exact ⟨_, rfl, trivial⟩
  refine Ok.ite (fun h281 => ?_) (fun h281 => ?_)
  · exact ⟨_, rfl, trivial⟩
  refine Ok.ite (fun h282 => ?_) (fun h282 => ?_)
  · exact ⟨_, rfl, trivial⟩
  refine Ok.ite (fun h283 => ?_) (fun h283 => ?_)
  · exact ⟨_, rfl, trivial⟩
  refine Ok.ite (fun h284 => ?_) (fun h284 => ?_)
  · refine Ok.c1 (tf_Slots_full ) (fun r285 _ => ?_)
    exact ⟨_, rfl, trivial⟩
  refine Ok.ite (fun h286 => ?_) (fun h286 => ?_)
  · exact ⟨_, rfl, trivial⟩
  refine Ok.ite (fun h287 => ?_) (fun h287 => ?_)
  · refine Ok.c1 (tf_State_allMeals isSt_64) (fun r288 _ => ?_)
    exact ⟨_, rfl, trivial⟩
  exact ⟨_, rfl, trivial⟩
set_option maxHeartbeats 4000000 in
set_option maxRecDepth 20000 in
theorem tf_Main_food {ld : Nat} {p1 : Int32} {p2 : Int32} {M : gM} (hld : isLa ld) : ∃ r, F_Main_food ld p1 p2 M = some r ∧ True := by
  show Ok _ _
  unfold F_Main_food
  refine Ok.c1 (tf_Main_isOne ) (fun r289 hbr289 => ?_)
  refine Ok.ite (fun h290 => ?_) (fun h290 => ?_)
  · exact ⟨_, rfl, trivial⟩
  · refine Ok.ite (fun h291 => ?_) (fun h291 => ?_)
    · refine Ok.c1 (tf_Main_at (by decide)) (fun r292 _ => ?_)
      exact ⟨_, rfl, trivial⟩
    refine Ok.ite (fun h293 => ?_) (fun h293 => ?_)
    · refine Ok.c1 (tf_Main_at (by decide)) (fun r294 _ => ?_)
      exact ⟨_, rfl, trivial⟩
    refine Ok.ite (fun h295 => ?_) (fun h295 => ?_)
    · refine Ok.c1 (tf_Land_broughtBy hld) (fun r296 _ => ?_)
      exact ⟨_, rfl, trivial⟩
    refine Ok.ite (fun h297 => ?_) (fun h297 => ?_)
    · refine Ok.c1 (tf_Land_broughtBy hld) (fun r298 _ => ?_)
      exact ⟨_, rfl, trivial⟩
    refine Ok.ite (fun h299 => ?_) (fun h299 => ?_)
    · refine Ok.c1 (tf_Land_broughtBy hld) (fun r300 _ => ?_)
      exact ⟨_, rfl, trivial⟩
    exact ⟨_, rfl, trivial⟩
set_option maxHeartbeats 4000000 in
set_option maxRecDepth 20000 in
theorem tf_Land_boundBy {Ld0 : Nat} {p1 : Int32} {p2 : Int32} {p3 : Int32} {p4 : Int32} {p5 : Int32} {M : gM} (hLd0 : isLa Ld0) : ∃ r M', F_Land_boundBy Ld0 p1 p2 p3 p4 p5 M = some (r, M') ∧ True ∧ Kl C0 M zL M' zL := by
  refine Ok.x2 (A := fun (r : Int32) (M' : gM) => True ∧ Kl C0 M zL M' zL) ?_
  unfold F_Land_boundBy
  refine Ok.c1 (tf_Law_isTold (isLw_13 hLd0)) (fun r301 hbr301 => ?_)
  refine Ok.ite (fun h302 => ?_) (fun h302 => ?_)
  · refine Ok.c1 (tf_Main_within ) (fun r303 _ => ?_)
    exact ⟨_, rfl, trivial, Kl.rf⟩
  · refine Ok.c1 (tf_let (W := Ld0 + 13) (j := 0) (by decide) ((by decide +kernel : ∀ x ∈ lLa, C0 (x + 13 + 2) 0 = true) _ hLd0)) (fun M304 k305 => ?_)
    refine Ok.c1 (tf_let (W := Ld0 + 13) (j := 2) (by decide) ((by decide +kernel : ∀ x ∈ lLa, C0 (x + 13 + 2) 2 = true) _ hLd0)) (fun M306 k307 => ?_)
    refine Ok.c1 (tf_Main_at (by decide)) (fun r308 _ => ?_)
    refine Ok.c1 (tf_let (W := Ld0 + 13) (j := 5) (by decide) ((by decide +kernel : ∀ x ∈ lLa, C0 (x + 13 + 2) 5 = true) _ hLd0)) (fun M309 k310 => ?_)
    refine Ok.c1 (tf_let (W := Ld0 + 13) (j := 6) (by decide) ((by decide +kernel : ∀ x ∈ lLa, C0 (x + 13 + 2) 6 = true) _ hLd0)) (fun M311 k312 => ?_)
    refine Ok.c1 (tf_let (W := Ld0 + 13) (j := 4) (by decide) ((by decide +kernel : ∀ x ∈ lLa, C0 (x + 13 + 2) 4 = true) _ hLd0)) (fun M313 k314 => ?_)
    refine Ok.c2 (tf_Law_value (isLw_13 hLd0)) (fun r315 M316 ⟨_, k317⟩ => ?_)
    refine Ok.c1 (tf_Main_within ) (fun r318 _ => ?_)
    exact ⟨_, rfl, trivial, (Kl.trans (Kl.trans (Kl.trans (Kl.trans (Kl.trans (Kl.trans Kl.rf k305) k307) k310) k312) k314) k317)⟩
set_option maxHeartbeats 4000000 in
set_option maxRecDepth 20000 in
theorem tf_Land_fillOf {Ld0 : Nat} {p1 : Int32} {p2 : Int32} {p3 : Int32} {M : gM} (hLd0 : isLa Ld0) : ∃ r M', F_Land_fillOf Ld0 p1 p2 p3 M = some (r, M') ∧ True ∧ Kl C0 M zL M' zL := by
  refine Ok.x2 (A := fun (r : Int32) (M' : gM) => True ∧ Kl C0 M zL M' zL) ?_
  unfold F_Land_fillOf
  refine Ok.c1 (tf_Law_isTold (isLw_17 hLd0)) (fun r319 hbr319 => ?_)
  refine Ok.ite (fun h320 => ?_) (fun h320 => ?_)
  · exact ⟨_, rfl, trivial, Kl.rf⟩
  · refine Ok.c1 (tf_let (W := Ld0 + 17) (j := 7) (by decide) ((by decide +kernel : ∀ x ∈ lLa, C0 (x + 17 + 2) 7 = true) _ hLd0)) (fun M321 k322 => ?_)
    refine Ok.c1 (tf_Main_at (by decide)) (fun r323 _ => ?_)
    refine Ok.c1 (tf_let (W := Ld0 + 17) (j := 8) (by decide) ((by decide +kernel : ∀ x ∈ lLa, C0 (x + 17 + 2) 8 = true) _ hLd0)) (fun M324 k325 => ?_)
    refine Ok.c1 (tf_let (W := Ld0 + 17) (j := 2) (by decide) ((by decide +kernel : ∀ x ∈ lLa, C0 (x + 17 + 2) 2 = true) _ hLd0)) (fun M326 k327 => ?_)
    refine Ok.c1 (tf_let (W := Ld0 + 17) (j := 4) (by decide) ((by decide +kernel : ∀ x ∈ lLa, C0 (x + 17 + 2) 4 = true) _ hLd0)) (fun M328 k329 => ?_)
    refine Ok.c2 (tf_Law_value (isLw_17 hLd0)) (fun r330 M331 ⟨_, k332⟩ => ?_)
    refine Ok.c1 (tf_Main_within ) (fun r333 _ => ?_)
    exact ⟨_, rfl, trivial, (Kl.trans (Kl.trans (Kl.trans (Kl.trans (Kl.trans Kl.rf k322) k325) k327) k329) k332)⟩
set_option maxHeartbeats 4000000 in
set_option maxRecDepth 20000 in
theorem tf_Land_manyIn {Ld0 : Nat} {p1 : Int32} {M : gM} (hLd0 : isLa Ld0) : ∃ r, F_Land_manyIn Ld0 p1 M = some r ∧ True := by
  show Ok _ _
  unfold F_Land_manyIn
  have LP337 : ∀ (f334 : Nat) (v338 : Int32) (v339 : Int32), ¬ v339 < 0 → ((M Ld0 0).toInt - v339.toInt).toNat < f334 → Ok (H_Land_manyIn_4 Ld0 p1 M f334 v338 v339) (fun r => True) := by
    intro f334
    induction f334 with
    | zero => intro v338 v339 _ hm336; exact absurd hm336 (Nat.not_lt_zero _)
    | succ f334 ih335 =>
      intro v338 v339 n340 hm336
      show Ok (B_Land_manyIn_4 Ld0 p1 M (H_Land_manyIn_4 Ld0 p1 M f334) v338 v339) _
      unfold B_Land_manyIn_4
      refine Ok.ite (fun h341 => ?_) (fun h341 => ?_)
      · exact ⟨_, rfl, trivial⟩
      · refine Ok.c1 (tf_Land_inDish hLd0) (fun r342 _ => ?_)
        refine Ok.nmI (fun x343 ex343 => ?_)
        refine Ok.nmI (fun x344 ex344 => ?_)
        exact ih335 x343 x344 (nn_up (y := (M Ld0 0)) h341 ex344 n340) (md_up h341 ex344 hm336)
  exact LP337 _ 0 0 (by decide) fu_up
set_option maxHeartbeats 4000000 in
set_option maxRecDepth 20000 in
theorem tf_Land_potForce {Ld0 : Nat} {p1 : Int32} {p2 : Int32} {p3 : Int32} {p4 : Int32} {p5 : Int32} {M : gM} (hLd0 : isLa Ld0) : ∃ r M', F_Land_potForce Ld0 p1 p2 p3 p4 p5 M = some (r, M') ∧ True ∧ Kl C0 M zL M' zL := by
  refine Ok.x2 (A := fun (r : Int32) (M' : gM) => True ∧ Kl C0 M zL M' zL) ?_
  unfold F_Land_potForce
  refine Ok.c1 (tf_Law_isTold (isLw_9 hLd0)) (fun r345 hbr345 => ?_)
  refine Ok.ite (fun h346 => ?_) (fun h346 => ?_)
  · refine Ok.c1 (tf_Main_within ) (fun r347 _ => ?_)
    exact ⟨_, rfl, trivial, Kl.rf⟩
  · refine Ok.c1 (tf_let (W := Ld0 + 9) (j := 0) (by decide) ((by decide +kernel : ∀ x ∈ lLa, C0 (x + 9 + 2) 0 = true) _ hLd0)) (fun M348 k349 => ?_)
    refine Ok.c1 (tf_let (W := Ld0 + 9) (j := 1) (by decide) ((by decide +kernel : ∀ x ∈ lLa, C0 (x + 9 + 2) 1 = true) _ hLd0)) (fun M350 k351 => ?_)
    refine Ok.c1 (tf_let (W := Ld0 + 9) (j := 2) (by decide) ((by decide +kernel : ∀ x ∈ lLa, C0 (x + 9 + 2) 2 = true) _ hLd0)) (fun M352 k353 => ?_)
    refine Ok.c1 (tf_let (W := Ld0 + 9) (j := 3) (by decide) ((by decide +kernel : ∀ x ∈ lLa, C0 (x + 9 + 2) 3 = true) _ hLd0)) (fun M354 k355 => ?_)
    refine Ok.c1 (tf_let (W := Ld0 + 9) (j := 4) (by decide) ((by decide +kernel : ∀ x ∈ lLa, C0 (x + 9 + 2) 4 = true) _ hLd0)) (fun M356 k357 => ?_)
    refine Ok.c2 (tf_Law_value (isLw_9 hLd0)) (fun r358 M359 ⟨_, k360⟩ => ?_)
    refine Ok.c1 (tf_Main_within ) (fun r361 _ => ?_)
    exact ⟨_, rfl, trivial, (Kl.trans (Kl.trans (Kl.trans (Kl.trans (Kl.trans (Kl.trans Kl.rf k349) k351) k353) k355) k357) k360)⟩
set_option maxHeartbeats 4000000 in
set_option maxRecDepth 20000 in
theorem tf_Land_priceOf {Ld0 : Nat} {p1 : Int32} {M : gM} (hLd0 : isLa Ld0) : ∃ r, F_Land_priceOf Ld0 p1 M = some r ∧ True := by
  show Ok _ _
  unfold F_Land_priceOf
  have LP365 : ∀ (f362 : Nat) (v366 : Int32) (v367 : Int32), ¬ v367 < 0 → ((M Ld0 0).toInt - v367.toInt).toNat < f362 → Ok (H_Land_priceOf_4 Ld0 p1 M f362 v366 v367) (fun r => True) := by
    intro f362
    induction f362 with
    | zero => intro v366 v367 _ hm364; exact absurd hm364 (Nat.not_lt_zero _)
    | succ f362 ih363 =>
      intro v366 v367 n368 hm364
      show Ok (B_Land_priceOf_4 Ld0 p1 M (H_Land_priceOf_4 Ld0 p1 M f362) v366 v367) _
      unfold B_Land_priceOf_4
      refine Ok.ite (fun h369 => ?_) (fun h369 => ?_)
      · exact ⟨_, rfl, trivial⟩
      · refine Ok.c1 (tf_Land_inDish hLd0) (fun r370 _ => ?_)
        refine Ok.c1 (tf_Main_at (by decide)) (fun r371 _ => ?_)
        refine Ok.nmI (fun x372 ex372 => ?_)
        refine Ok.nmI (fun x373 ex373 => ?_)
        exact ih363 x372 x373 (nn_up (y := (M Ld0 0)) h369 ex373 n368) (md_up h369 ex373 hm364)
  exact LP365 _ 0 0 (by decide) fu_up
set_option maxHeartbeats 4000000 in
set_option maxRecDepth 20000 in
theorem tf_Land_sumOf {Ld0 : Nat} {p1 : Int32} {p2 : Int32} {M : gM} (hLd0 : isLa Ld0) : ∃ r, F_Land_sumOf Ld0 p1 p2 M = some r ∧ True := by
  show Ok _ _
  unfold F_Land_sumOf
  have LP377 : ∀ (f374 : Nat) (v378 : Int32) (v379 : Int32), ¬ v379 < 0 → ((M Ld0 0).toInt - v379.toInt).toNat < f374 → Ok (H_Land_sumOf_5 Ld0 p1 p2 M f374 v378 v379) (fun r => True) := by
    intro f374
    induction f374 with
    | zero => intro v378 v379 _ hm376; exact absurd hm376 (Nat.not_lt_zero _)
    | succ f374 ih375 =>
      intro v378 v379 n380 hm376
      show Ok (B_Land_sumOf_5 Ld0 p1 p2 M (H_Land_sumOf_5 Ld0 p1 p2 M f374) v378 v379) _
      unfold B_Land_sumOf_5
      refine Ok.ite (fun h381 => ?_) (fun h381 => ?_)
      · exact ⟨_, rfl, trivial⟩
      · refine Ok.c1 (tf_Land_inDish hLd0) (fun r382 _ => ?_)
        refine Ok.c1 (tf_Land_broughtBy hLd0) (fun r383 _ => ?_)
        refine Ok.nmI (fun x384 ex384 => ?_)
        refine Ok.nmI (fun x385 ex385 => ?_)
        exact ih375 x384 x385 (nn_up (y := (M Ld0 0)) h381 ex385 n380) (md_up h381 ex385 hm376)
  exact LP377 _ 0 0 (by decide) fu_up
set_option maxHeartbeats 4000000 in
set_option maxRecDepth 20000 in
theorem tf_MenuSearch_mealsIfAllFree {p1 : Int32} {M : gM} : ∃ r, F_MenuSearch_mealsIfAllFree p1 M = some r ∧ True := by
  show Ok _ _
  unfold F_MenuSearch_mealsIfAllFree
  have LP389 : ∀ (f386 : Nat) (v390 : Int32) (v391 : Int32) (v392 : Int32) (v393 : Int32), ¬ v393 < 0 → (p1.toInt - v393.toInt).toNat < f386 → Ok (H_MenuSearch_mealsIfAllFree_10 p1 M f386 v390 v391 v392 v393) (fun r => True) := by
    intro f386
    induction f386 with
    | zero => intro v390 v391 v392 v393 _ hm388; exact absurd hm388 (Nat.not_lt_zero _)
    | succ f386 ih387 =>
      intro v390 v391 v392 v393 n394 hm388
      show Ok (B_MenuSearch_mealsIfAllFree_10 p1 M (H_MenuSearch_mealsIfAllFree_10 p1 M f386) v390 v391 v392 v393) _
      unfold B_MenuSearch_mealsIfAllFree_10
      refine Ok.ite (fun h395 => ?_) (fun h395 => ?_)
      · exact ⟨_, rfl, trivial⟩
      · refine Ok.c1 (tf_Main_at (by decide)) (fun r396 _ => ?_)
        refine Ok.ite (fun h397 => ?_) (fun h397 => ?_)
        · unfold J_MenuSearch_mealsIfAllFree_44
          refine Ok.c1 (tf_MenuSearch_isFree ) (fun r398 hbr398 => ?_)
          refine Ok.ite (fun h399 => ?_) (fun h399 => ?_)
          · exact ⟨_, rfl, trivial⟩
          · refine Ok.nmI (fun x400 ex400 => ?_)
            exact ih387 v390 v391 v392 x400 (nn_up (y := p1) h395 ex400 n394) (md_up h395 ex400 hm388)
        · refine Ok.nmI (fun x401 ex401 => ?_)
          refine Ok.nmI (fun x402 ex402 => ?_)
          unfold J_MenuSearch_mealsIfAllFree_44
          refine Ok.c1 (tf_MenuSearch_isFree ) (fun r403 hbr403 => ?_)
          refine Ok.ite (fun h404 => ?_) (fun h404 => ?_)
          · exact ⟨_, rfl, trivial⟩
          · refine Ok.nmI (fun x405 ex405 => ?_)
            exact ih387 x401 v393 x402 x405 (nn_up (y := p1) h395 ex405 n394) (md_up h395 ex405 hm388)
  exact LP389 _ 0 0 (-1) 0 (by decide) fu_up
set_option maxHeartbeats 4000000 in
set_option maxRecDepth 20000 in
theorem tf_PotSearch_stepDown {X1 : Nat} {M : gM} (hX1 : isSt X1) : ∃ M', F_PotSearch_stepDown X1 M = some M' ∧ Kl C1 M zL M' zL := by
  show Ok _ _
  unfold F_PotSearch_stepDown
  have LP409 : ∀ (f406 : Nat) (v410 : Int32), (v410.toInt + 1).toNat < f406 → Ok (H_PotSearch_stepDown_2 X1 M f406 v410) (fun M' => Kl C1 M zL M' zL) := by
    intro f406
    induction f406 with
    | zero => intro v410 hm408; exact absurd hm408 (Nat.not_lt_zero _)
    | succ f406 ih407 =>
      intro v410 hm408
      show Ok (B_PotSearch_stepDown_2 X1 M (H_PotSearch_stepDown_2 X1 M f406) v410) _
      unfold B_PotSearch_stepDown_2
      refine Ok.ite (fun h411 => ?_) (fun h411 => ?_)
      · exact ⟨_, rfl, Kl.rf⟩
      · refine Ok.c1 (tf_Main_at (by decide)) (fun r412 _ => ?_)
        refine Ok.ite (fun h413 => ?_) (fun h413 => ?_)
        · refine Ok.nmI (fun x414 ex414 => ?_)
          exact ih407 x414 (md_dn h411 ex414 hm408)
        · unfold J_PotSearch_stepDown_19
          refine Ok.c1 (tf_Main_put (by decide)) (fun M415 k416 => ?_)
          refine Ok.c1 (tf_PotSearch_fillFrom hX1) (fun M417 k418 => ?_)
          exact ⟨_, rfl, (Kl.trans (Kl.trans Kl.rf (Kl.mono k416 (oneL_S (fun _ => rfl)))) k418)⟩
  exact LP409 _ 5 fu_dn
set_option maxHeartbeats 4000000 in
set_option maxRecDepth 20000 in
theorem tf_PotSearch_weigh {Ld1 : Nat} {M : gM} (hLd1 : isLa Ld1) : ∃ M', F_PotSearch_weigh Ld1 M = some M' ∧ Kl C1 M zL M' zL := by
  show Ok _ _
  unfold F_PotSearch_weigh
  refine Ok.c1 (tf_Main_wipe (by decide)) (fun M419 k420 => ?_)
  refine Ok.nmM (fun M421 eM421 => ?_)
  refine Ok.nmM (fun M422 eM422 => ?_)
  have LP426 : ∀ (f423 : Nat) (v427 : Int32) (M428 : gM), Kl C1 M zL M428 zL → ¬ v427 < 0 → ((6 : Int32).toInt - v427.toInt).toNat < f423 → Ok (H_PotSearch_weigh_19 Ld1 f423 v427 M428) (fun M' => Kl C1 M zL M' zL) := by
    intro f423
    induction f423 with
    | zero => intro v427 M428 _ _ hm425; exact absurd hm425 (Nat.not_lt_zero _)
    | succ f423 ih424 =>
      intro v427 M428 k429 n430 hm425
      show Ok (B_PotSearch_weigh_19 Ld1 (H_PotSearch_weigh_19 Ld1 f423) v427 M428) _
      unfold B_PotSearch_weigh_19
      refine Ok.ite (fun h431 => ?_) (fun h431 => ?_)
      · exact ⟨_, rfl, k429⟩
      · refine Ok.c1 (tf_Main_at (by decide)) (fun r432 _ => ?_)
        refine Ok.ite (fun h433 => ?_) (fun h433 => ?_)
        · unfold J_PotSearch_weigh_110
          refine Ok.nmI (fun x434 ex434 => ?_)
          exact ih424 x434 M428 k429 (nn_up (y := (6 : Int32)) h431 ex434 n430) (md_up h431 ex434 hm425)
        · refine Ok.nmM (fun M435 eM435 => ?_)
          refine Ok.c1 (tf_Main_at (by decide)) (fun r436 _ => ?_)
          refine Ok.nmM (fun M437 eM437 => ?_)
          have LP441 : ∀ (f438 : Nat) (v442 : Int32) (M443 : gM), Kl C1 M zL M443 zL → ¬ v442 < 0 → ((3 : Int32).toInt - v442.toInt).toNat < f438 → Ok (H_PotSearch_weigh_70 Ld1 (H_PotSearch_weigh_19 Ld1 f423) v427 r432 f438 v442 M443) (fun M' => Kl C1 M zL M' zL) := by
            intro f438
            induction f438 with
            | zero => intro v442 M443 _ _ hm440; exact absurd hm440 (Nat.not_lt_zero _)
            | succ f438 ih439 =>
              intro v442 M443 k444 n445 hm440
              show Ok (B_PotSearch_weigh_70 Ld1 (H_PotSearch_weigh_19 Ld1 f423) v427 r432 (H_PotSearch_weigh_70 Ld1 (H_PotSearch_weigh_19 Ld1 f423) v427 r432 f438) v442 M443) _
              unfold B_PotSearch_weigh_70
              refine Ok.ite (fun h446 => ?_) (fun h446 => ?_)
              · unfold J_PotSearch_weigh_110
                refine Ok.nmI (fun x447 ex447 => ?_)
                exact ih424 x447 M443 k444 (nn_up (y := (6 : Int32)) h431 ex447 n430) (md_up h431 ex447 hm425)
              · refine Ok.c1 (tf_Main_at (by decide)) (fun r448 _ => ?_)
                refine Ok.c1 (tf_Land_broughtBy hLd1) (fun r449 _ => ?_)
                refine Ok.c1 (tf_Main_put (by decide)) (fun M450 k451 => ?_)
                refine Ok.nmI (fun x452 ex452 => ?_)
                exact ih439 x452 M450 (Kl.trans k444 (Kl.mono k451 (oneL_S (fun _ => rfl)))) (nn_up (y := (3 : Int32)) h446 ex452 n445) (md_up h446 ex452 hm440)
          exact LP441 _ 0 M437 (Kl.wM (Kl.wM k429 rfl eM435) rfl eM437) (by decide) fu_up
  exact LP426 _ 0 M422 (Kl.wM (Kl.wM (Kl.trans Kl.rf (Kl.mono k420 (oneL_S (fun _ => rfl)))) rfl eM421) rfl eM422) (by decide) fu_up
set_option maxHeartbeats 4000000 in
set_option maxRecDepth 20000 in
theorem tf_State_inStore {X0 : Nat} {Ld1 : Nat} {p2 : Int32} {M : gM} (hX0 : isSt X0) (hLd1 : isLa Ld1) : ∃ r, F_State_inStore X0 Ld1 p2 M = some r ∧ (r = 0 ∨ r = 1) := by
  show Ok _ _
  unfold F_State_inStore
  have LP456 : ∀ (f453 : Nat) (v457 : Int32), ¬ v457 < 0 → ((M Ld1 0).toInt - v457.toInt).toNat < f453 → Ok (H_State_inStore_2 X0 Ld1 p2 M f453 v457) (fun r => (r = 0 ∨ r = 1)) := by
    intro f453
    induction f453 with
    | zero => intro v457 _ hm455; exact absurd hm455 (Nat.not_lt_zero _)
    | succ f453 ih454 =>
      intro v457 n458 hm455
      show Ok (B_State_inStore_2 X0 Ld1 p2 M (H_State_inStore_2 X0 Ld1 p2 M f453) v457) _
      unfold B_State_inStore_2
      refine Ok.ite (fun h459 => ?_) (fun h459 => ?_)
      · exact ⟨_, rfl, (Or.inr rfl)⟩
      · refine Ok.c1 (tf_Main_at (by decide)) (fun r460 _ => ?_)
        refine Ok.c1 (tf_Land_inDish hLd1) (fun r461 _ => ?_)
        refine Ok.ite (fun h462 => ?_) (fun h462 => ?_)
        · refine Ok.nmI (fun x463 ex463 => ?_)
          exact ih454 x463 (nn_up (y := (M Ld1 0)) h459 ex463 n458) (md_up h459 ex463 hm455)
        · exact ⟨_, rfl, (Or.inl rfl)⟩
  exact LP456 _ 0 (by decide) fu_up
set_option maxHeartbeats 4000000 in
set_option maxRecDepth 20000 in
theorem tf_Land_dishForce {Ld0 : Nat} {p1 : Int32} {p2 : Int32} {p3 : Int32} {p4 : Int32} {M : gM} (hLd0 : isLa Ld0) : ∃ r M', F_Land_dishForce Ld0 p1 p2 p3 p4 M = some (r, M') ∧ True ∧ Kl C0 M zL M' zL := by
  refine Ok.x2 (A := fun (r : Int32) (M' : gM) => True ∧ Kl C0 M zL M' zL) ?_
  unfold F_Land_dishForce
  refine Ok.c1 (tf_Land_sumOf hLd0) (fun r464 _ => ?_)
  refine Ok.c1 (tf_Land_manyIn hLd0) (fun r465 _ => ?_)
  refine Ok.ite (fun h466 => ?_) (fun h466 => ?_)
  · unfold J_Land_dishForce_33
    refine Ok.c1 (tf_Main_at (by decide)) (fun r467 _ => ?_)
    refine Ok.c2 (tf_Land_potForce hLd0) (fun r468 M469 ⟨_, k470⟩ => ?_)
    exact ⟨_, rfl, trivial, (Kl.trans Kl.rf k470)⟩
  · refine Ok.c1 (tf_Land_broughtBy hLd0) (fun r471 _ => ?_)
    refine Ok.nmI (fun x472 ex472 => ?_)
    refine Ok.nmI (fun x473 ex473 => ?_)
    unfold J_Land_dishForce_33
    refine Ok.c1 (tf_Main_at (by decide)) (fun r474 _ => ?_)
    refine Ok.c2 (tf_Land_potForce hLd0) (fun r475 M476 ⟨_, k477⟩ => ?_)
    exact ⟨_, rfl, trivial, (Kl.trans Kl.rf k477)⟩
set_option maxHeartbeats 4000000 in
set_option maxRecDepth 20000 in
theorem tf_Land_slipsOf {Ld0 : Nat} {p1 : Int32} {p2 : Int32} {M : gM} (hLd0 : isLa Ld0) : ∃ r M', F_Land_slipsOf Ld0 p1 p2 M = some (r, M') ∧ True ∧ Kl C0 M zL M' zL := by
  refine Ok.x2 (A := fun (r : Int32) (M' : gM) => True ∧ Kl C0 M zL M' zL) ?_
  unfold F_Land_slipsOf
  refine Ok.c1 (tf_Law_isTold (isLw_21 hLd0)) (fun r478 hbr478 => ?_)
  refine Ok.ite (fun h479 => ?_) (fun h479 => ?_)
  · exact ⟨_, rfl, trivial, Kl.rf⟩
  · refine Ok.c1 (tf_Main_at (by decide)) (fun r480 _ => ?_)
    refine Ok.c1 (tf_let (W := Ld0 + 21) (j := 1) (by decide) ((by decide +kernel : ∀ x ∈ lLa, C0 (x + 21 + 2) 1 = true) _ hLd0)) (fun M481 k482 => ?_)
    refine Ok.c1 (tf_Land_manyIn hLd0) (fun r483 _ => ?_)
    refine Ok.c1 (tf_let (W := Ld0 + 21) (j := 3) (by decide) ((by decide +kernel : ∀ x ∈ lLa, C0 (x + 21 + 2) 3 = true) _ hLd0)) (fun M484 k485 => ?_)
    refine Ok.c1 (tf_let (W := Ld0 + 21) (j := 4) (by decide) ((by decide +kernel : ∀ x ∈ lLa, C0 (x + 21 + 2) 4 = true) _ hLd0)) (fun M486 k487 => ?_)
    refine Ok.c2 (tf_Law_value (isLw_21 hLd0)) (fun r488 M489 ⟨_, k490⟩ => ?_)
    refine Ok.c1 (tf_Main_within ) (fun r491 _ => ?_)
    exact ⟨_, rfl, trivial, (Kl.trans (Kl.trans (Kl.trans (Kl.trans Kl.rf k482) k485) k487) k490)⟩
set_option maxHeartbeats 4000000 in
set_option maxRecDepth 20000 in
theorem tf_PotSearch_isEnough {Ld1 : Nat} {p2 : Int32} {p3 : Int32} {M : gM} (hLd1 : isLa Ld1) : ∃ r M', F_PotSearch_isEnough Ld1 p2 p3 M = some (r, M') ∧ (r = 0 ∨ r = 1) ∧ Kl C0 M zL M' zL := by
  refine Ok.x2 (A := fun (r : Int32) (M' : gM) => (r = 0 ∨ r = 1) ∧ Kl C0 M zL M' zL) ?_
  unfold F_PotSearch_isEnough
  have LP495 : ∀ (f492 : Nat) (v496 : Int32) (M497 : gM), Kl C0 M zL M497 zL → ¬ v496 < 0 → ((3 : Int32).toInt - v496.toInt).toNat < f492 → Ok (H_PotSearch_isEnough_3 Ld1 p2 p3 f492 v496 M497) (fun q => (q.1 = 0 ∨ q.1 = 1) ∧ Kl C0 M zL q.2 zL) := by
    intro f492
    induction f492 with
    | zero => intro v496 M497 _ _ hm494; exact absurd hm494 (Nat.not_lt_zero _)
    | succ f492 ih493 =>
      intro v496 M497 k498 n499 hm494
      show Ok (B_PotSearch_isEnough_3 Ld1 p2 p3 (H_PotSearch_isEnough_3 Ld1 p2 p3 f492) v496 M497) _
      unfold B_PotSearch_isEnough_3
      refine Ok.ite (fun h500 => ?_) (fun h500 => ?_)
      · exact ⟨_, rfl, (Or.inr rfl), k498⟩
      · refine Ok.c1 (tf_Main_at (by decide)) (fun r501 _ => ?_)
        refine Ok.ite (fun h502 => ?_) (fun h502 => ?_)
        · unfold J_PotSearch_isEnough_53
          refine Ok.nmI (fun x503 ex503 => ?_)
          exact ih493 x503 M497 k498 (nn_up (y := (3 : Int32)) h500 ex503 n499) (md_up h500 ex503 hm494)
        · refine Ok.c1 (tf_Main_at (by decide)) (fun r504 _ => ?_)
          refine Ok.c2 (tf_Land_potForce hLd1) (fun r505 M506 ⟨_, k507⟩ => ?_)
          refine Ok.ite (fun h508 => ?_) (fun h508 => ?_)
          · unfold J_PotSearch_isEnough_53
            refine Ok.nmI (fun x509 ex509 => ?_)
            exact ih493 x509 M506 (Kl.trans k498 k507) (nn_up (y := (3 : Int32)) h500 ex509 n499) (md_up h500 ex509 hm494)
          · exact ⟨_, rfl, (Or.inl rfl), (Kl.trans k498 k507)⟩
  exact LP495 _ 0 M Kl.rf (by decide) fu_up
set_option maxHeartbeats 4000000 in
set_option maxRecDepth 20000 in
theorem tf_State_boundOf {X0 : Nat} {Ld1 : Nat} {p2 : Int32} {p3 : Int32} {p4 : Int32} {M : gM} (hX0 : isSt X0) (hLd1 : isLa Ld1) : ∃ r M', F_State_boundOf X0 Ld1 p2 p3 p4 M = some (r, M') ∧ True ∧ Kl C0 M zL M' zL := by
  refine Ok.x2 (A := fun (r : Int32) (M' : gM) => True ∧ Kl C0 M zL M' zL) ?_
  unfold F_State_boundOf
  refine Ok.c1 (tf_State_hasEaten hX0) (fun r510 hbr510 => ?_)
  refine Ok.ite (fun h511 => ?_) (fun h511 => ?_)
  · exact ⟨_, rfl, trivial, Kl.rf⟩
  · refine Ok.c1 (tf_Main_at (by decide)) (fun r512 _ => ?_)
    refine Ok.c1 (tf_State_agoOf hX0) (fun r513 _ => ?_)
    refine Ok.c2 (tf_Land_boundBy hLd1) (fun r514 M515 ⟨_, k516⟩ => ?_)
    exact ⟨_, rfl, trivial, (Kl.trans Kl.rf k516)⟩
set_option maxHeartbeats 4000000 in
set_option maxRecDepth 20000 in
theorem tf_State_passDays {X0 : Nat} {Ld1 : Nat} {p2 : Int32} {M : gM} (hX0 : isSt X0) (hLd1 : isLa Ld1) : ∃ M', F_State_passDays X0 Ld1 p2 M = some M' ∧ Kl (CX X0) M zL M' zL := by
  show Ok _ _
  unfold F_State_passDays
  have LP520 : ∀ (f517 : Nat) (v521 : Int32) (M522 : gM), Kl (CX X0) M zL M522 zL → ¬ v521 < 0 → (p2.toInt - v521.toInt).toNat < f517 → Ok (H_State_passDays_2 X0 Ld1 p2 f517 v521 M522) (fun M' => Kl (CX X0) M zL M' zL) := by
    intro f517
    induction f517 with
    | zero => intro v521 M522 _ _ hm519; exact absurd hm519 (Nat.not_lt_zero _)
    | succ f517 ih518 =>
      intro v521 M522 k523 n524 hm519
      show Ok (B_State_passDays_2 X0 Ld1 p2 (H_State_passDays_2 X0 Ld1 p2 f517) v521 M522) _
      unfold B_State_passDays_2
      refine Ok.ite (fun h525 => ?_) (fun h525 => ?_)
      · exact ⟨_, rfl, k523⟩
      · have LP529 : ∀ (f526 : Nat) (v530 : Int32) (M531 : gM), Kl (CX X0) M zL M531 zL → ¬ v530 < 0 → ((M Ld1 0).toInt - v530.toInt).toNat < f526 → Ok (H_State_passDays_10 X0 Ld1 (H_State_passDays_2 X0 Ld1 p2 f517) p2 v521 f526 v530 M531) (fun M' => Kl (CX X0) M zL M' zL) := by
          intro f526
          induction f526 with
          | zero => intro v530 M531 _ _ hm528; exact absurd hm528 (Nat.not_lt_zero _)
          | succ f526 ih527 =>
            intro v530 M531 k532 n533 hm528
            show Ok (B_State_passDays_10 X0 Ld1 (H_State_passDays_2 X0 Ld1 p2 f517) p2 v521 (H_State_passDays_10 X0 Ld1 (H_State_passDays_2 X0 Ld1 p2 f517) p2 v521 f526) v530 M531) _
            unfold B_State_passDays_10
            refine Ok.ite (fun h534 => ?_) (fun h534 => ?_)
            · unfold J_State_passDays_66
              refine Ok.nmM (fun M535 eM535 => ?_)
              refine Ok.nmI (fun x536 ex536 => ?_)
              exact ih518 x536 M535 (Kl.wM k532 (CX_o ⟨by omega, by omega⟩) eM535) (nn_up (y := p2) h525 ex536 n524) (md_up h525 ex536 hm519)
            · refine Ok.c1 (tf_Main_at (by decide)) (fun r537 _ => ?_)
              refine Ok.c2 (tf_Land_fillOf hLd1) (fun r538 M539 ⟨_, k540⟩ => ?_)
              refine Ok.c1 (tf_Main_within ) (fun r541 _ => ?_)
              refine Ok.c1 (tf_Main_put (by decide)) (fun M542 k543 => ?_)
              refine Ok.nmI (fun x544 ex544 => ?_)
              exact ih527 x544 M542 (Kl.trans (Kl.trans k532 (Kl.mono k540 C0_CX)) (Kl.mono k543 (oneL_S (fun _ => CX_o ⟨by omega, by omega⟩)))) (nn_up (y := (M Ld1 0)) (by rw [← Kl.m k532 (CX_Laf hX0 hLd1)]; exact h534) ex544 n533) (md_up (by rw [← Kl.m k532 (CX_Laf hX0 hLd1)]; exact h534) ex544 hm528)
        exact LP529 _ 0 M522 k523 (by decide) fu_up
  exact LP520 _ 0 M Kl.rf (by decide) fu_up
set_option maxHeartbeats 4000000 in
set_option maxRecDepth 20000 in
theorem tf_Told_forceOf {Ld1 : Nat} {p2 : Int32} {p3 : Int32} {p4 : Int32} {p5 : Int32} {M : gM} (hLd1 : isLa Ld1) : ∃ r M', F_Told_forceOf Ld1 p2 p3 p4 p5 M = some (r, M') ∧ True ∧ Kl C0 M zL M' zL := by
  refine Ok.x2 (A := fun (r : Int32) (M' : gM) => True ∧ Kl C0 M zL M' zL) ?_
  unfold F_Told_forceOf
  refine Ok.c1 (tf_Main_at (by decide)) (fun r545 _ => ?_)
  refine Ok.c1 (tf_Main_at (by decide)) (fun r546 _ => ?_)
  refine Ok.c2 (tf_Land_potForce hLd1) (fun r547 M548 ⟨_, k549⟩ => ?_)
  exact ⟨_, rfl, trivial, (Kl.trans Kl.rf k549)⟩
set_option maxHeartbeats 4000000 in
set_option maxRecDepth 20000 in
theorem tf_Told_lay {Ld1 : Nat} {p2 : Int32} {p3 : Int32} {M : gM} (hLd1 : isLa Ld1) : ∃ r M', F_Told_lay Ld1 p2 p3 M = some (r, M') ∧ (r = 0 ∨ r = 1) ∧ Kl C1 M zL M' zL := by
  refine Ok.x2 (A := fun (r : Int32) (M' : gM) => (r = 0 ∨ r = 1) ∧ Kl C1 M zL M' zL) ?_
  unfold F_Told_lay
  refine Ok.ite (fun h550 => ?_) (fun h550 => ?_)
  · unfold J_Told_lay_19
    refine Ok.ite (fun h551 => ?_) (fun h551 => ?_)
    · unfold J_Told_lay_38
      refine Ok.c1 (tf_Land_manyIn hLd1) (fun r552 _ => ?_)
      refine Ok.nmI (fun x553 ex553 => ?_)
      refine Ok.ite (fun h554 => ?_) (fun h554 => ?_)
      · unfold J_Told_lay_64
        refine Ok.ite (fun h555 => ?_) (fun h555 => ?_)
        · unfold J_Told_lay_79
          refine Ok.ite (fun h556 => ?_) (fun h556 => ?_)
          · refine Ok.c1 (tf_Main_put (by decide)) (fun M557 k558 => ?_)
            refine Ok.c1 (tf_Main_put (by decide)) (fun M559 k560 => ?_)
            have LP564 : ∀ (f561 : Nat) (v565 : Int32) (M566 : gM), Kl C1 M zL M566 zL → ¬ v565 < 0 → ((3 : Int32).toInt - v565.toInt).toNat < f561 → Ok (H_Told_lay_115 Ld1 p2 0 ((p3 - 1) - 6) f561 v565 M566) (fun q => (q.1 = 0 ∨ q.1 = 1) ∧ Kl C1 M zL q.2 zL) := by
              intro f561
              induction f561 with
              | zero => intro v565 M566 _ _ hm563; exact absurd hm563 (Nat.not_lt_zero _)
              | succ f561 ih562 =>
                intro v565 M566 k567 n568 hm563
                show Ok (B_Told_lay_115 Ld1 p2 0 ((p3 - 1) - 6) (H_Told_lay_115 Ld1 p2 0 ((p3 - 1) - 6) f561) v565 M566) _
                unfold B_Told_lay_115
                refine Ok.ite (fun h569 => ?_) (fun h569 => ?_)
                · exact ⟨_, rfl, (Or.inr rfl), k567⟩
                · refine Ok.ite (fun h570 => ?_) (fun h570 => ?_)
                  · unfold J_Told_lay_141
                    refine Ok.c1 (tf_Land_sumOf hLd1) (fun r571 _ => ?_)
                    refine Ok.c1 (tf_Main_put (by decide)) (fun M572 k573 => ?_)
                    refine Ok.nmI (fun x574 ex574 => ?_)
                    exact ih562 x574 M572 (Kl.trans k567 (Kl.mono k573 (oneL_S (fun _ => rfl)))) (nn_up (y := (3 : Int32)) h569 ex574 n568) (md_up h569 ex574 hm563)
                  · refine Ok.c1 (tf_Land_broughtBy hLd1) (fun r575 _ => ?_)
                    unfold J_Told_lay_141
                    refine Ok.c1 (tf_Land_sumOf hLd1) (fun r576 _ => ?_)
                    refine Ok.c1 (tf_Main_put (by decide)) (fun M577 k578 => ?_)
                    refine Ok.nmI (fun x579 ex579 => ?_)
                    exact ih562 x579 M577 (Kl.trans k567 (Kl.mono k578 (oneL_S (fun _ => rfl)))) (nn_up (y := (3 : Int32)) h569 ex579 n568) (md_up h569 ex579 hm563)
            exact LP564 _ 0 M559 (Kl.trans (Kl.trans Kl.rf (Kl.mono k558 (oneL_S (fun _ => rfl)))) (Kl.mono k560 (oneL_S (fun _ => rfl)))) (by decide) fu_up
          · exact ⟨_, rfl, (Or.inl rfl), Kl.rf⟩
        · refine Ok.c1 (tf_Land_inDish hLd1) (fun r580 _ => ?_)
          refine Ok.ite (fun h581 => ?_) (fun h581 => ?_)
          · exact ⟨_, rfl, (Or.inl rfl), Kl.rf⟩
          · unfold J_Told_lay_79
            refine Ok.ite (fun h582 => ?_) (fun h582 => ?_)
            · refine Ok.c1 (tf_Main_put (by decide)) (fun M583 k584 => ?_)
              refine Ok.c1 (tf_Main_put (by decide)) (fun M585 k586 => ?_)
              have LP590 : ∀ (f587 : Nat) (v591 : Int32) (M592 : gM), Kl C1 M zL M592 zL → ¬ v591 < 0 → ((3 : Int32).toInt - v591.toInt).toNat < f587 → Ok (H_Told_lay_115 Ld1 p2 0 ((p3 - 1) - 6) f587 v591 M592) (fun q => (q.1 = 0 ∨ q.1 = 1) ∧ Kl C1 M zL q.2 zL) := by
                intro f587
                induction f587 with
                | zero => intro v591 M592 _ _ hm589; exact absurd hm589 (Nat.not_lt_zero _)
                | succ f587 ih588 =>
                  intro v591 M592 k593 n594 hm589
                  show Ok (B_Told_lay_115 Ld1 p2 0 ((p3 - 1) - 6) (H_Told_lay_115 Ld1 p2 0 ((p3 - 1) - 6) f587) v591 M592) _
                  unfold B_Told_lay_115
                  refine Ok.ite (fun h595 => ?_) (fun h595 => ?_)
                  · exact ⟨_, rfl, (Or.inr rfl), k593⟩
                  · refine Ok.ite (fun h596 => ?_) (fun h596 => ?_)
                    · unfold J_Told_lay_141
                      refine Ok.c1 (tf_Land_sumOf hLd1) (fun r597 _ => ?_)
                      refine Ok.c1 (tf_Main_put (by decide)) (fun M598 k599 => ?_)
                      refine Ok.nmI (fun x600 ex600 => ?_)
                      exact ih588 x600 M598 (Kl.trans k593 (Kl.mono k599 (oneL_S (fun _ => rfl)))) (nn_up (y := (3 : Int32)) h595 ex600 n594) (md_up h595 ex600 hm589)
                    · refine Ok.c1 (tf_Land_broughtBy hLd1) (fun r601 _ => ?_)
                      unfold J_Told_lay_141
                      refine Ok.c1 (tf_Land_sumOf hLd1) (fun r602 _ => ?_)
                      refine Ok.c1 (tf_Main_put (by decide)) (fun M603 k604 => ?_)
                      refine Ok.nmI (fun x605 ex605 => ?_)
                      exact ih588 x605 M603 (Kl.trans k593 (Kl.mono k604 (oneL_S (fun _ => rfl)))) (nn_up (y := (3 : Int32)) h595 ex605 n594) (md_up h595 ex605 hm589)
              exact LP590 _ 0 M585 (Kl.trans (Kl.trans Kl.rf (Kl.mono k584 (oneL_S (fun _ => rfl)))) (Kl.mono k586 (oneL_S (fun _ => rfl)))) (by decide) fu_up
            · exact ⟨_, rfl, (Or.inl rfl), Kl.rf⟩
      · refine Ok.ite (fun h606 => ?_) (fun h606 => ?_)
        · exact ⟨_, rfl, (Or.inl rfl), Kl.rf⟩
        · unfold J_Told_lay_64
          refine Ok.ite (fun h607 => ?_) (fun h607 => ?_)
          · unfold J_Told_lay_79
            refine Ok.ite (fun h608 => ?_) (fun h608 => ?_)
            · refine Ok.c1 (tf_Main_put (by decide)) (fun M609 k610 => ?_)
              refine Ok.c1 (tf_Main_put (by decide)) (fun M611 k612 => ?_)
              have LP616 : ∀ (f613 : Nat) (v617 : Int32) (M618 : gM), Kl C1 M zL M618 zL → ¬ v617 < 0 → ((3 : Int32).toInt - v617.toInt).toNat < f613 → Ok (H_Told_lay_115 Ld1 p2 0 ((p3 - 1) - 6) f613 v617 M618) (fun q => (q.1 = 0 ∨ q.1 = 1) ∧ Kl C1 M zL q.2 zL) := by
                intro f613
                induction f613 with
                | zero => intro v617 M618 _ _ hm615; exact absurd hm615 (Nat.not_lt_zero _)
                | succ f613 ih614 =>
                  intro v617 M618 k619 n620 hm615
                  show Ok (B_Told_lay_115 Ld1 p2 0 ((p3 - 1) - 6) (H_Told_lay_115 Ld1 p2 0 ((p3 - 1) - 6) f613) v617 M618) _
                  unfold B_Told_lay_115
                  refine Ok.ite (fun h621 => ?_) (fun h621 => ?_)
                  · exact ⟨_, rfl, (Or.inr rfl), k619⟩
                  · refine Ok.ite (fun h622 => ?_) (fun h622 => ?_)
                    · unfold J_Told_lay_141
                      refine Ok.c1 (tf_Land_sumOf hLd1) (fun r623 _ => ?_)
                      refine Ok.c1 (tf_Main_put (by decide)) (fun M624 k625 => ?_)
                      refine Ok.nmI (fun x626 ex626 => ?_)
                      exact ih614 x626 M624 (Kl.trans k619 (Kl.mono k625 (oneL_S (fun _ => rfl)))) (nn_up (y := (3 : Int32)) h621 ex626 n620) (md_up h621 ex626 hm615)
                    · refine Ok.c1 (tf_Land_broughtBy hLd1) (fun r627 _ => ?_)
                      unfold J_Told_lay_141
                      refine Ok.c1 (tf_Land_sumOf hLd1) (fun r628 _ => ?_)
                      refine Ok.c1 (tf_Main_put (by decide)) (fun M629 k630 => ?_)
                      refine Ok.nmI (fun x631 ex631 => ?_)
                      exact ih614 x631 M629 (Kl.trans k619 (Kl.mono k630 (oneL_S (fun _ => rfl)))) (nn_up (y := (3 : Int32)) h621 ex631 n620) (md_up h621 ex631 hm615)
              exact LP616 _ 0 M611 (Kl.trans (Kl.trans Kl.rf (Kl.mono k610 (oneL_S (fun _ => rfl)))) (Kl.mono k612 (oneL_S (fun _ => rfl)))) (by decide) fu_up
            · exact ⟨_, rfl, (Or.inl rfl), Kl.rf⟩
          · refine Ok.c1 (tf_Land_inDish hLd1) (fun r632 _ => ?_)
            refine Ok.ite (fun h633 => ?_) (fun h633 => ?_)
            · exact ⟨_, rfl, (Or.inl rfl), Kl.rf⟩
            · unfold J_Told_lay_79
              refine Ok.ite (fun h634 => ?_) (fun h634 => ?_)
              · refine Ok.c1 (tf_Main_put (by decide)) (fun M635 k636 => ?_)
                refine Ok.c1 (tf_Main_put (by decide)) (fun M637 k638 => ?_)
                have LP642 : ∀ (f639 : Nat) (v643 : Int32) (M644 : gM), Kl C1 M zL M644 zL → ¬ v643 < 0 → ((3 : Int32).toInt - v643.toInt).toNat < f639 → Ok (H_Told_lay_115 Ld1 p2 0 ((p3 - 1) - 6) f639 v643 M644) (fun q => (q.1 = 0 ∨ q.1 = 1) ∧ Kl C1 M zL q.2 zL) := by
                  intro f639
                  induction f639 with
                  | zero => intro v643 M644 _ _ hm641; exact absurd hm641 (Nat.not_lt_zero _)
                  | succ f639 ih640 =>
                    intro v643 M644 k645 n646 hm641
                    show Ok (B_Told_lay_115 Ld1 p2 0 ((p3 - 1) - 6) (H_Told_lay_115 Ld1 p2 0 ((p3 - 1) - 6) f639) v643 M644) _
                    unfold B_Told_lay_115
                    refine Ok.ite (fun h647 => ?_) (fun h647 => ?_)
                    · exact ⟨_, rfl, (Or.inr rfl), k645⟩
                    · refine Ok.ite (fun h648 => ?_) (fun h648 => ?_)
                      · unfold J_Told_lay_141
                        refine Ok.c1 (tf_Land_sumOf hLd1) (fun r649 _ => ?_)
                        refine Ok.c1 (tf_Main_put (by decide)) (fun M650 k651 => ?_)
                        refine Ok.nmI (fun x652 ex652 => ?_)
                        exact ih640 x652 M650 (Kl.trans k645 (Kl.mono k651 (oneL_S (fun _ => rfl)))) (nn_up (y := (3 : Int32)) h647 ex652 n646) (md_up h647 ex652 hm641)
                      · refine Ok.c1 (tf_Land_broughtBy hLd1) (fun r653 _ => ?_)
                        unfold J_Told_lay_141
                        refine Ok.c1 (tf_Land_sumOf hLd1) (fun r654 _ => ?_)
                        refine Ok.c1 (tf_Main_put (by decide)) (fun M655 k656 => ?_)
                        refine Ok.nmI (fun x657 ex657 => ?_)
                        exact ih640 x657 M655 (Kl.trans k645 (Kl.mono k656 (oneL_S (fun _ => rfl)))) (nn_up (y := (3 : Int32)) h647 ex657 n646) (md_up h647 ex657 hm641)
                exact LP642 _ 0 M637 (Kl.trans (Kl.trans Kl.rf (Kl.mono k636 (oneL_S (fun _ => rfl)))) (Kl.mono k638 (oneL_S (fun _ => rfl)))) (by decide) fu_up
              · exact ⟨_, rfl, (Or.inl rfl), Kl.rf⟩
    · unfold J_Told_lay_38
      refine Ok.c1 (tf_Land_manyIn hLd1) (fun r658 _ => ?_)
      refine Ok.nmI (fun x659 ex659 => ?_)
      refine Ok.ite (fun h660 => ?_) (fun h660 => ?_)
      · unfold J_Told_lay_64
        refine Ok.ite (fun h661 => ?_) (fun h661 => ?_)
        · unfold J_Told_lay_79
          refine Ok.ite (fun h662 => ?_) (fun h662 => ?_)
          · refine Ok.c1 (tf_Main_put (by decide)) (fun M663 k664 => ?_)
            refine Ok.c1 (tf_Main_put (by decide)) (fun M665 k666 => ?_)
            have LP670 : ∀ (f667 : Nat) (v671 : Int32) (M672 : gM), Kl C1 M zL M672 zL → ¬ v671 < 0 → ((3 : Int32).toInt - v671.toInt).toNat < f667 → Ok (H_Told_lay_115 Ld1 p2 0 (p3 - 1) f667 v671 M672) (fun q => (q.1 = 0 ∨ q.1 = 1) ∧ Kl C1 M zL q.2 zL) := by
              intro f667
              induction f667 with
              | zero => intro v671 M672 _ _ hm669; exact absurd hm669 (Nat.not_lt_zero _)
              | succ f667 ih668 =>
                intro v671 M672 k673 n674 hm669
                show Ok (B_Told_lay_115 Ld1 p2 0 (p3 - 1) (H_Told_lay_115 Ld1 p2 0 (p3 - 1) f667) v671 M672) _
                unfold B_Told_lay_115
                refine Ok.ite (fun h675 => ?_) (fun h675 => ?_)
                · exact ⟨_, rfl, (Or.inr rfl), k673⟩
                · refine Ok.ite (fun h676 => ?_) (fun h676 => ?_)
                  · unfold J_Told_lay_141
                    refine Ok.c1 (tf_Land_sumOf hLd1) (fun r677 _ => ?_)
                    refine Ok.c1 (tf_Main_put (by decide)) (fun M678 k679 => ?_)
                    refine Ok.nmI (fun x680 ex680 => ?_)
                    exact ih668 x680 M678 (Kl.trans k673 (Kl.mono k679 (oneL_S (fun _ => rfl)))) (nn_up (y := (3 : Int32)) h675 ex680 n674) (md_up h675 ex680 hm669)
                  · refine Ok.c1 (tf_Land_broughtBy hLd1) (fun r681 _ => ?_)
                    unfold J_Told_lay_141
                    refine Ok.c1 (tf_Land_sumOf hLd1) (fun r682 _ => ?_)
                    refine Ok.c1 (tf_Main_put (by decide)) (fun M683 k684 => ?_)
                    refine Ok.nmI (fun x685 ex685 => ?_)
                    exact ih668 x685 M683 (Kl.trans k673 (Kl.mono k684 (oneL_S (fun _ => rfl)))) (nn_up (y := (3 : Int32)) h675 ex685 n674) (md_up h675 ex685 hm669)
            exact LP670 _ 0 M665 (Kl.trans (Kl.trans Kl.rf (Kl.mono k664 (oneL_S (fun _ => rfl)))) (Kl.mono k666 (oneL_S (fun _ => rfl)))) (by decide) fu_up
          · exact ⟨_, rfl, (Or.inl rfl), Kl.rf⟩
        · refine Ok.c1 (tf_Land_inDish hLd1) (fun r686 _ => ?_)
          refine Ok.ite (fun h687 => ?_) (fun h687 => ?_)
          · exact ⟨_, rfl, (Or.inl rfl), Kl.rf⟩
          · unfold J_Told_lay_79
            refine Ok.ite (fun h688 => ?_) (fun h688 => ?_)
            · refine Ok.c1 (tf_Main_put (by decide)) (fun M689 k690 => ?_)
              refine Ok.c1 (tf_Main_put (by decide)) (fun M691 k692 => ?_)
              have LP696 : ∀ (f693 : Nat) (v697 : Int32) (M698 : gM), Kl C1 M zL M698 zL → ¬ v697 < 0 → ((3 : Int32).toInt - v697.toInt).toNat < f693 → Ok (H_Told_lay_115 Ld1 p2 0 (p3 - 1) f693 v697 M698) (fun q => (q.1 = 0 ∨ q.1 = 1) ∧ Kl C1 M zL q.2 zL) := by
                intro f693
                induction f693 with
                | zero => intro v697 M698 _ _ hm695; exact absurd hm695 (Nat.not_lt_zero _)
                | succ f693 ih694 =>
                  intro v697 M698 k699 n700 hm695
                  show Ok (B_Told_lay_115 Ld1 p2 0 (p3 - 1) (H_Told_lay_115 Ld1 p2 0 (p3 - 1) f693) v697 M698) _
                  unfold B_Told_lay_115
                  refine Ok.ite (fun h701 => ?_) (fun h701 => ?_)
                  · exact ⟨_, rfl, (Or.inr rfl), k699⟩
                  · refine Ok.ite (fun h702 => ?_) (fun h702 => ?_)
                    · unfold J_Told_lay_141
                      refine Ok.c1 (tf_Land_sumOf hLd1) (fun r703 _ => ?_)
                      refine Ok.c1 (tf_Main_put (by decide)) (fun M704 k705 => ?_)
                      refine Ok.nmI (fun x706 ex706 => ?_)
                      exact ih694 x706 M704 (Kl.trans k699 (Kl.mono k705 (oneL_S (fun _ => rfl)))) (nn_up (y := (3 : Int32)) h701 ex706 n700) (md_up h701 ex706 hm695)
                    · refine Ok.c1 (tf_Land_broughtBy hLd1) (fun r707 _ => ?_)
                      unfold J_Told_lay_141
                      refine Ok.c1 (tf_Land_sumOf hLd1) (fun r708 _ => ?_)
                      refine Ok.c1 (tf_Main_put (by decide)) (fun M709 k710 => ?_)
                      refine Ok.nmI (fun x711 ex711 => ?_)
                      exact ih694 x711 M709 (Kl.trans k699 (Kl.mono k710 (oneL_S (fun _ => rfl)))) (nn_up (y := (3 : Int32)) h701 ex711 n700) (md_up h701 ex711 hm695)
              exact LP696 _ 0 M691 (Kl.trans (Kl.trans Kl.rf (Kl.mono k690 (oneL_S (fun _ => rfl)))) (Kl.mono k692 (oneL_S (fun _ => rfl)))) (by decide) fu_up
            · exact ⟨_, rfl, (Or.inl rfl), Kl.rf⟩
      · refine Ok.ite (fun h712 => ?_) (fun h712 => ?_)
        · exact ⟨_, rfl, (Or.inl rfl), Kl.rf⟩
        · unfold J_Told_lay_64
          refine Ok.ite (fun h713 => ?_) (fun h713 => ?_)
          · unfold J_Told_lay_79
            refine Ok.ite (fun h714 => ?_) (fun h714 => ?_)
            · refine Ok.c1 (tf_Main_put (by decide)) (fun M715 k716 => ?_)
              refine Ok.c1 (tf_Main_put (by decide)) (fun M717 k718 => ?_)
              have LP722 : ∀ (f719 : Nat) (v723 : Int32) (M724 : gM), Kl C1 M zL M724 zL → ¬ v723 < 0 → ((3 : Int32).toInt - v723.toInt).toNat < f719 → Ok (H_Told_lay_115 Ld1 p2 0 (p3 - 1) f719 v723 M724) (fun q => (q.1 = 0 ∨ q.1 = 1) ∧ Kl C1 M zL q.2 zL) := by
                intro f719
                induction f719 with
                | zero => intro v723 M724 _ _ hm721; exact absurd hm721 (Nat.not_lt_zero _)
                | succ f719 ih720 =>
                  intro v723 M724 k725 n726 hm721
                  show Ok (B_Told_lay_115 Ld1 p2 0 (p3 - 1) (H_Told_lay_115 Ld1 p2 0 (p3 - 1) f719) v723 M724) _
                  unfold B_Told_lay_115
                  refine Ok.ite (fun h727 => ?_) (fun h727 => ?_)
                  · exact ⟨_, rfl, (Or.inr rfl), k725⟩
                  · refine Ok.ite (fun h728 => ?_) (fun h728 => ?_)
                    · unfold J_Told_lay_141
                      refine Ok.c1 (tf_Land_sumOf hLd1) (fun r729 _ => ?_)
                      refine Ok.c1 (tf_Main_put (by decide)) (fun M730 k731 => ?_)
                      refine Ok.nmI (fun x732 ex732 => ?_)
                      exact ih720 x732 M730 (Kl.trans k725 (Kl.mono k731 (oneL_S (fun _ => rfl)))) (nn_up (y := (3 : Int32)) h727 ex732 n726) (md_up h727 ex732 hm721)
                    · refine Ok.c1 (tf_Land_broughtBy hLd1) (fun r733 _ => ?_)
                      unfold J_Told_lay_141
                      refine Ok.c1 (tf_Land_sumOf hLd1) (fun r734 _ => ?_)
                      refine Ok.c1 (tf_Main_put (by decide)) (fun M735 k736 => ?_)
                      refine Ok.nmI (fun x737 ex737 => ?_)
                      exact ih720 x737 M735 (Kl.trans k725 (Kl.mono k736 (oneL_S (fun _ => rfl)))) (nn_up (y := (3 : Int32)) h727 ex737 n726) (md_up h727 ex737 hm721)
              exact LP722 _ 0 M717 (Kl.trans (Kl.trans Kl.rf (Kl.mono k716 (oneL_S (fun _ => rfl)))) (Kl.mono k718 (oneL_S (fun _ => rfl)))) (by decide) fu_up
            · exact ⟨_, rfl, (Or.inl rfl), Kl.rf⟩
          · refine Ok.c1 (tf_Land_inDish hLd1) (fun r738 _ => ?_)
            refine Ok.ite (fun h739 => ?_) (fun h739 => ?_)
            · exact ⟨_, rfl, (Or.inl rfl), Kl.rf⟩
            · unfold J_Told_lay_79
              refine Ok.ite (fun h740 => ?_) (fun h740 => ?_)
              · refine Ok.c1 (tf_Main_put (by decide)) (fun M741 k742 => ?_)
                refine Ok.c1 (tf_Main_put (by decide)) (fun M743 k744 => ?_)
                have LP748 : ∀ (f745 : Nat) (v749 : Int32) (M750 : gM), Kl C1 M zL M750 zL → ¬ v749 < 0 → ((3 : Int32).toInt - v749.toInt).toNat < f745 → Ok (H_Told_lay_115 Ld1 p2 0 (p3 - 1) f745 v749 M750) (fun q => (q.1 = 0 ∨ q.1 = 1) ∧ Kl C1 M zL q.2 zL) := by
                  intro f745
                  induction f745 with
                  | zero => intro v749 M750 _ _ hm747; exact absurd hm747 (Nat.not_lt_zero _)
                  | succ f745 ih746 =>
                    intro v749 M750 k751 n752 hm747
                    show Ok (B_Told_lay_115 Ld1 p2 0 (p3 - 1) (H_Told_lay_115 Ld1 p2 0 (p3 - 1) f745) v749 M750) _
                    unfold B_Told_lay_115
                    refine Ok.ite (fun h753 => ?_) (fun h753 => ?_)
                    · exact ⟨_, rfl, (Or.inr rfl), k751⟩
                    · refine Ok.ite (fun h754 => ?_) (fun h754 => ?_)
                      · unfold J_Told_lay_141
                        refine Ok.c1 (tf_Land_sumOf hLd1) (fun r755 _ => ?_)
                        refine Ok.c1 (tf_Main_put (by decide)) (fun M756 k757 => ?_)
                        refine Ok.nmI (fun x758 ex758 => ?_)
                        exact ih746 x758 M756 (Kl.trans k751 (Kl.mono k757 (oneL_S (fun _ => rfl)))) (nn_up (y := (3 : Int32)) h753 ex758 n752) (md_up h753 ex758 hm747)
                      · refine Ok.c1 (tf_Land_broughtBy hLd1) (fun r759 _ => ?_)
                        unfold J_Told_lay_141
                        refine Ok.c1 (tf_Land_sumOf hLd1) (fun r760 _ => ?_)
                        refine Ok.c1 (tf_Main_put (by decide)) (fun M761 k762 => ?_)
                        refine Ok.nmI (fun x763 ex763 => ?_)
                        exact ih746 x763 M761 (Kl.trans k751 (Kl.mono k762 (oneL_S (fun _ => rfl)))) (nn_up (y := (3 : Int32)) h753 ex763 n752) (md_up h753 ex763 hm747)
                exact LP748 _ 0 M743 (Kl.trans (Kl.trans Kl.rf (Kl.mono k742 (oneL_S (fun _ => rfl)))) (Kl.mono k744 (oneL_S (fun _ => rfl)))) (by decide) fu_up
              · exact ⟨_, rfl, (Or.inl rfl), Kl.rf⟩
  · refine Ok.ite (fun h764 => ?_) (fun h764 => ?_)
    · unfold J_Told_lay_19
      refine Ok.ite (fun h765 => ?_) (fun h765 => ?_)
      · unfold J_Told_lay_38
        refine Ok.c1 (tf_Land_manyIn hLd1) (fun r766 _ => ?_)
        refine Ok.nmI (fun x767 ex767 => ?_)
        refine Ok.ite (fun h768 => ?_) (fun h768 => ?_)
        · unfold J_Told_lay_64
          refine Ok.ite (fun h769 => ?_) (fun h769 => ?_)
          · unfold J_Told_lay_79
            refine Ok.ite (fun h770 => ?_) (fun h770 => ?_)
            · refine Ok.c1 (tf_Main_put (by decide)) (fun M771 k772 => ?_)
              refine Ok.c1 (tf_Main_put (by decide)) (fun M773 k774 => ?_)
              have LP778 : ∀ (f775 : Nat) (v779 : Int32) (M780 : gM), Kl C1 M zL M780 zL → ¬ v779 < 0 → ((3 : Int32).toInt - v779.toInt).toNat < f775 → Ok (H_Told_lay_115 Ld1 p2 (-1) ((p3 - 1) - 6) f775 v779 M780) (fun q => (q.1 = 0 ∨ q.1 = 1) ∧ Kl C1 M zL q.2 zL) := by
                intro f775
                induction f775 with
                | zero => intro v779 M780 _ _ hm777; exact absurd hm777 (Nat.not_lt_zero _)
                | succ f775 ih776 =>
                  intro v779 M780 k781 n782 hm777
                  show Ok (B_Told_lay_115 Ld1 p2 (-1) ((p3 - 1) - 6) (H_Told_lay_115 Ld1 p2 (-1) ((p3 - 1) - 6) f775) v779 M780) _
                  unfold B_Told_lay_115
                  refine Ok.ite (fun h783 => ?_) (fun h783 => ?_)
                  · exact ⟨_, rfl, (Or.inr rfl), k781⟩
                  · refine Ok.ite (fun h784 => ?_) (fun h784 => ?_)
                    · unfold J_Told_lay_141
                      refine Ok.c1 (tf_Land_sumOf hLd1) (fun r785 _ => ?_)
                      refine Ok.c1 (tf_Main_put (by decide)) (fun M786 k787 => ?_)
                      refine Ok.nmI (fun x788 ex788 => ?_)
                      exact ih776 x788 M786 (Kl.trans k781 (Kl.mono k787 (oneL_S (fun _ => rfl)))) (nn_up (y := (3 : Int32)) h783 ex788 n782) (md_up h783 ex788 hm777)
                    · refine Ok.c1 (tf_Land_broughtBy hLd1) (fun r789 _ => ?_)
                      unfold J_Told_lay_141
                      refine Ok.c1 (tf_Land_sumOf hLd1) (fun r790 _ => ?_)
                      refine Ok.c1 (tf_Main_put (by decide)) (fun M791 k792 => ?_)
                      refine Ok.nmI (fun x793 ex793 => ?_)
                      exact ih776 x793 M791 (Kl.trans k781 (Kl.mono k792 (oneL_S (fun _ => rfl)))) (nn_up (y := (3 : Int32)) h783 ex793 n782) (md_up h783 ex793 hm777)
              exact LP778 _ 0 M773 (Kl.trans (Kl.trans Kl.rf (Kl.mono k772 (oneL_S (fun _ => rfl)))) (Kl.mono k774 (oneL_S (fun _ => rfl)))) (by decide) fu_up
            · exact ⟨_, rfl, (Or.inl rfl), Kl.rf⟩
          · refine Ok.c1 (tf_Land_inDish hLd1) (fun r794 _ => ?_)
            refine Ok.ite (fun h795 => ?_) (fun h795 => ?_)
            · exact ⟨_, rfl, (Or.inl rfl), Kl.rf⟩
            · unfold J_Told_lay_79
              refine Ok.ite (fun h796 => ?_) (fun h796 => ?_)
              · refine Ok.c1 (tf_Main_put (by decide)) (fun M797 k798 => ?_)
                refine Ok.c1 (tf_Main_put (by decide)) (fun M799 k800 => ?_)
                have LP804 : ∀ (f801 : Nat) (v805 : Int32) (M806 : gM), Kl C1 M zL M806 zL → ¬ v805 < 0 → ((3 : Int32).toInt - v805.toInt).toNat < f801 → Ok (H_Told_lay_115 Ld1 p2 (-1) ((p3 - 1) - 6) f801 v805 M806) (fun q => (q.1 = 0 ∨ q.1 = 1) ∧ Kl C1 M zL q.2 zL) := by
                  intro f801
                  induction f801 with
                  | zero => intro v805 M806 _ _ hm803; exact absurd hm803 (Nat.not_lt_zero _)
                  | succ f801 ih802 =>
                    intro v805 M806 k807 n808 hm803
                    show Ok (B_Told_lay_115 Ld1 p2 (-1) ((p3 - 1) - 6) (H_Told_lay_115 Ld1 p2 (-1) ((p3 - 1) - 6) f801) v805 M806) _
                    unfold B_Told_lay_115
                    refine Ok.ite (fun h809 => ?_) (fun h809 => ?_)
                    · exact ⟨_, rfl, (Or.inr rfl), k807⟩
                    · refine Ok.ite (fun h810 => ?_) (fun h810 => ?_)
                      · unfold J_Told_lay_141
                        refine Ok.c1 (tf_Land_sumOf hLd1) (fun r811 _ => ?_)
                        refine Ok.c1 (tf_Main_put (by decide)) (fun M812 k813 => ?_)
                        refine Ok.nmI (fun x814 ex814 => ?_)
                        exact ih802 x814 M812 (Kl.trans k807 (Kl.mono k813 (oneL_S (fun _ => rfl)))) (nn_up (y := (3 : Int32)) h809 ex814 n808) (md_up h809 ex814 hm803)
                      · refine Ok.c1 (tf_Land_broughtBy hLd1) (fun r815 _ => ?_)
                        unfold J_Told_lay_141
                        refine Ok.c1 (tf_Land_sumOf hLd1) (fun r816 _ => ?_)
                        refine Ok.c1 (tf_Main_put (by decide)) (fun M817 k818 => ?_)
                        refine Ok.nmI (fun x819 ex819 => ?_)
                        exact ih802 x819 M817 (Kl.trans k807 (Kl.mono k818 (oneL_S (fun _ => rfl)))) (nn_up (y := (3 : Int32)) h809 ex819 n808) (md_up h809 ex819 hm803)
                exact LP804 _ 0 M799 (Kl.trans (Kl.trans Kl.rf (Kl.mono k798 (oneL_S (fun _ => rfl)))) (Kl.mono k800 (oneL_S (fun _ => rfl)))) (by decide) fu_up
              · exact ⟨_, rfl, (Or.inl rfl), Kl.rf⟩
        · refine Ok.ite (fun h820 => ?_) (fun h820 => ?_)
          · exact ⟨_, rfl, (Or.inl rfl), Kl.rf⟩
          · unfold J_Told_lay_64
            refine Ok.ite (fun h821 => ?_) (fun h821 => ?_)
            · unfold J_Told_lay_79
              refine Ok.ite (fun h822 => ?_) (fun h822 => ?_)
              · refine Ok.c1 (tf_Main_put (by decide)) (fun M823 k824 => ?_)
                refine Ok.c1 (tf_Main_put (by decide)) (fun M825 k826 => ?_)
                have LP830 : ∀ (f827 : Nat) (v831 : Int32) (M832 : gM), Kl C1 M zL M832 zL → ¬ v831 < 0 → ((3 : Int32).toInt - v831.toInt).toNat < f827 → Ok (H_Told_lay_115 Ld1 p2 (-1) ((p3 - 1) - 6) f827 v831 M832) (fun q => (q.1 = 0 ∨ q.1 = 1) ∧ Kl C1 M zL q.2 zL) := by
                  intro f827
                  induction f827 with
                  | zero => intro v831 M832 _ _ hm829; exact absurd hm829 (Nat.not_lt_zero _)
                  | succ f827 ih828 =>
                    intro v831 M832 k833 n834 hm829
                    show Ok (B_Told_lay_115 Ld1 p2 (-1) ((p3 - 1) - 6) (H_Told_lay_115 Ld1 p2 (-1) ((p3 - 1) - 6) f827) v831 M832) _
                    unfold B_Told_lay_115
                    refine Ok.ite (fun h835 => ?_) (fun h835 => ?_)
                    · exact ⟨_, rfl, (Or.inr rfl), k833⟩
                    · refine Ok.ite (fun h836 => ?_) (fun h836 => ?_)
                      · unfold J_Told_lay_141
                        refine Ok.c1 (tf_Land_sumOf hLd1) (fun r837 _ => ?_)
                        refine Ok.c1 (tf_Main_put (by decide)) (fun M838 k839 => ?_)
                        refine Ok.nmI (fun x840 ex840 => ?_)
                        exact ih828 x840 M838 (Kl.trans k833 (Kl.mono k839 (oneL_S (fun _ => rfl)))) (nn_up (y := (3 : Int32)) h835 ex840 n834) (md_up h835 ex840 hm829)
                      · refine Ok.c1 (tf_Land_broughtBy hLd1) (fun r841 _ => ?_)
                        unfold J_Told_lay_141
                        refine Ok.c1 (tf_Land_sumOf hLd1) (fun r842 _ => ?_)
                        refine Ok.c1 (tf_Main_put (by decide)) (fun M843 k844 => ?_)
                        refine Ok.nmI (fun x845 ex845 => ?_)
                        exact ih828 x845 M843 (Kl.trans k833 (Kl.mono k844 (oneL_S (fun _ => rfl)))) (nn_up (y := (3 : Int32)) h835 ex845 n834) (md_up h835 ex845 hm829)
                exact LP830 _ 0 M825 (Kl.trans (Kl.trans Kl.rf (Kl.mono k824 (oneL_S (fun _ => rfl)))) (Kl.mono k826 (oneL_S (fun _ => rfl)))) (by decide) fu_up
              · exact ⟨_, rfl, (Or.inl rfl), Kl.rf⟩
            · refine Ok.c1 (tf_Land_inDish hLd1) (fun r846 _ => ?_)
              refine Ok.ite (fun h847 => ?_) (fun h847 => ?_)
              · exact ⟨_, rfl, (Or.inl rfl), Kl.rf⟩
              · unfold J_Told_lay_79
                refine Ok.ite (fun h848 => ?_) (fun h848 => ?_)
                · refine Ok.c1 (tf_Main_put (by decide)) (fun M849 k850 => ?_)
                  refine Ok.c1 (tf_Main_put (by decide)) (fun M851 k852 => ?_)
                  have LP856 : ∀ (f853 : Nat) (v857 : Int32) (M858 : gM), Kl C1 M zL M858 zL → ¬ v857 < 0 → ((3 : Int32).toInt - v857.toInt).toNat < f853 → Ok (H_Told_lay_115 Ld1 p2 (-1) ((p3 - 1) - 6) f853 v857 M858) (fun q => (q.1 = 0 ∨ q.1 = 1) ∧ Kl C1 M zL q.2 zL) := by
                    intro f853
                    induction f853 with
                    | zero => intro v857 M858 _ _ hm855; exact absurd hm855 (Nat.not_lt_zero _)
                    | succ f853 ih854 =>
                      intro v857 M858 k859 n860 hm855
                      show Ok (B_Told_lay_115 Ld1 p2 (-1) ((p3 - 1) - 6) (H_Told_lay_115 Ld1 p2 (-1) ((p3 - 1) - 6) f853) v857 M858) _
                      unfold B_Told_lay_115
                      refine Ok.ite (fun h861 => ?_) (fun h861 => ?_)
                      · exact ⟨_, rfl, (Or.inr rfl), k859⟩
                      · refine Ok.ite (fun h862 => ?_) (fun h862 => ?_)
                        · unfold J_Told_lay_141
                          refine Ok.c1 (tf_Land_sumOf hLd1) (fun r863 _ => ?_)
                          refine Ok.c1 (tf_Main_put (by decide)) (fun M864 k865 => ?_)
                          refine Ok.nmI (fun x866 ex866 => ?_)
                          exact ih854 x866 M864 (Kl.trans k859 (Kl.mono k865 (oneL_S (fun _ => rfl)))) (nn_up (y := (3 : Int32)) h861 ex866 n860) (md_up h861 ex866 hm855)
                        · refine Ok.c1 (tf_Land_broughtBy hLd1) (fun r867 _ => ?_)
                          unfold J_Told_lay_141
                          refine Ok.c1 (tf_Land_sumOf hLd1) (fun r868 _ => ?_)
                          refine Ok.c1 (tf_Main_put (by decide)) (fun M869 k870 => ?_)
                          refine Ok.nmI (fun x871 ex871 => ?_)
                          exact ih854 x871 M869 (Kl.trans k859 (Kl.mono k870 (oneL_S (fun _ => rfl)))) (nn_up (y := (3 : Int32)) h861 ex871 n860) (md_up h861 ex871 hm855)
                  exact LP856 _ 0 M851 (Kl.trans (Kl.trans Kl.rf (Kl.mono k850 (oneL_S (fun _ => rfl)))) (Kl.mono k852 (oneL_S (fun _ => rfl)))) (by decide) fu_up
                · exact ⟨_, rfl, (Or.inl rfl), Kl.rf⟩
      · unfold J_Told_lay_38
        refine Ok.c1 (tf_Land_manyIn hLd1) (fun r872 _ => ?_)
        refine Ok.nmI (fun x873 ex873 => ?_)
        refine Ok.ite (fun h874 => ?_) (fun h874 => ?_)
        · unfold J_Told_lay_64
          refine Ok.ite (fun h875 => ?_) (fun h875 => ?_)
          · unfold J_Told_lay_79
            refine Ok.ite (fun h876 => ?_) (fun h876 => ?_)
            · refine Ok.c1 (tf_Main_put (by decide)) (fun M877 k878 => ?_)
              refine Ok.c1 (tf_Main_put (by decide)) (fun M879 k880 => ?_)
              have LP884 : ∀ (f881 : Nat) (v885 : Int32) (M886 : gM), Kl C1 M zL M886 zL → ¬ v885 < 0 → ((3 : Int32).toInt - v885.toInt).toNat < f881 → Ok (H_Told_lay_115 Ld1 p2 (-1) (p3 - 1) f881 v885 M886) (fun q => (q.1 = 0 ∨ q.1 = 1) ∧ Kl C1 M zL q.2 zL) := by
                intro f881
                induction f881 with
                | zero => intro v885 M886 _ _ hm883; exact absurd hm883 (Nat.not_lt_zero _)
                | succ f881 ih882 =>
                  intro v885 M886 k887 n888 hm883
                  show Ok (B_Told_lay_115 Ld1 p2 (-1) (p3 - 1) (H_Told_lay_115 Ld1 p2 (-1) (p3 - 1) f881) v885 M886) _
                  unfold B_Told_lay_115
                  refine Ok.ite (fun h889 => ?_) (fun h889 => ?_)
                  · exact ⟨_, rfl, (Or.inr rfl), k887⟩
                  · refine Ok.ite (fun h890 => ?_) (fun h890 => ?_)
                    · unfold J_Told_lay_141
                      refine Ok.c1 (tf_Land_sumOf hLd1) (fun r891 _ => ?_)
                      refine Ok.c1 (tf_Main_put (by decide)) (fun M892 k893 => ?_)
                      refine Ok.nmI (fun x894 ex894 => ?_)
                      exact ih882 x894 M892 (Kl.trans k887 (Kl.mono k893 (oneL_S (fun _ => rfl)))) (nn_up (y := (3 : Int32)) h889 ex894 n888) (md_up h889 ex894 hm883)
                    · refine Ok.c1 (tf_Land_broughtBy hLd1) (fun r895 _ => ?_)
                      unfold J_Told_lay_141
                      refine Ok.c1 (tf_Land_sumOf hLd1) (fun r896 _ => ?_)
                      refine Ok.c1 (tf_Main_put (by decide)) (fun M897 k898 => ?_)
                      refine Ok.nmI (fun x899 ex899 => ?_)
                      exact ih882 x899 M897 (Kl.trans k887 (Kl.mono k898 (oneL_S (fun _ => rfl)))) (nn_up (y := (3 : Int32)) h889 ex899 n888) (md_up h889 ex899 hm883)
              exact LP884 _ 0 M879 (Kl.trans (Kl.trans Kl.rf (Kl.mono k878 (oneL_S (fun _ => rfl)))) (Kl.mono k880 (oneL_S (fun _ => rfl)))) (by decide) fu_up
            · exact ⟨_, rfl, (Or.inl rfl), Kl.rf⟩
          · refine Ok.c1 (tf_Land_inDish hLd1) (fun r900 _ => ?_)
            refine Ok.ite (fun h901 => ?_) (fun h901 => ?_)
            · exact ⟨_, rfl, (Or.inl rfl), Kl.rf⟩
            · unfold J_Told_lay_79
              refine Ok.ite (fun h902 => ?_) (fun h902 => ?_)
              · refine Ok.c1 (tf_Main_put (by decide)) (fun M903 k904 => ?_)
                refine Ok.c1 (tf_Main_put (by decide)) (fun M905 k906 => ?_)
                have LP910 : ∀ (f907 : Nat) (v911 : Int32) (M912 : gM), Kl C1 M zL M912 zL → ¬ v911 < 0 → ((3 : Int32).toInt - v911.toInt).toNat < f907 → Ok (H_Told_lay_115 Ld1 p2 (-1) (p3 - 1) f907 v911 M912) (fun q => (q.1 = 0 ∨ q.1 = 1) ∧ Kl C1 M zL q.2 zL) := by
                  intro f907
                  induction f907 with
                  | zero => intro v911 M912 _ _ hm909; exact absurd hm909 (Nat.not_lt_zero _)
                  | succ f907 ih908 =>
                    intro v911 M912 k913 n914 hm909
                    show Ok (B_Told_lay_115 Ld1 p2 (-1) (p3 - 1) (H_Told_lay_115 Ld1 p2 (-1) (p3 - 1) f907) v911 M912) _
                    unfold B_Told_lay_115
                    refine Ok.ite (fun h915 => ?_) (fun h915 => ?_)
                    · exact ⟨_, rfl, (Or.inr rfl), k913⟩
                    · refine Ok.ite (fun h916 => ?_) (fun h916 => ?_)
                      · unfold J_Told_lay_141
                        refine Ok.c1 (tf_Land_sumOf hLd1) (fun r917 _ => ?_)
                        refine Ok.c1 (tf_Main_put (by decide)) (fun M918 k919 => ?_)
                        refine Ok.nmI (fun x920 ex920 => ?_)
                        exact ih908 x920 M918 (Kl.trans k913 (Kl.mono k919 (oneL_S (fun _ => rfl)))) (nn_up (y := (3 : Int32)) h915 ex920 n914) (md_up h915 ex920 hm909)
                      · refine Ok.c1 (tf_Land_broughtBy hLd1) (fun r921 _ => ?_)
                        unfold J_Told_lay_141
                        refine Ok.c1 (tf_Land_sumOf hLd1) (fun r922 _ => ?_)
                        refine Ok.c1 (tf_Main_put (by decide)) (fun M923 k924 => ?_)
                        refine Ok.nmI (fun x925 ex925 => ?_)
                        exact ih908 x925 M923 (Kl.trans k913 (Kl.mono k924 (oneL_S (fun _ => rfl)))) (nn_up (y := (3 : Int32)) h915 ex925 n914) (md_up h915 ex925 hm909)
                exact LP910 _ 0 M905 (Kl.trans (Kl.trans Kl.rf (Kl.mono k904 (oneL_S (fun _ => rfl)))) (Kl.mono k906 (oneL_S (fun _ => rfl)))) (by decide) fu_up
              · exact ⟨_, rfl, (Or.inl rfl), Kl.rf⟩
        · refine Ok.ite (fun h926 => ?_) (fun h926 => ?_)
          · exact ⟨_, rfl, (Or.inl rfl), Kl.rf⟩
          · unfold J_Told_lay_64
            refine Ok.ite (fun h927 => ?_) (fun h927 => ?_)
            · unfold J_Told_lay_79
              refine Ok.ite (fun h928 => ?_) (fun h928 => ?_)
              · refine Ok.c1 (tf_Main_put (by decide)) (fun M929 k930 => ?_)
                refine Ok.c1 (tf_Main_put (by decide)) (fun M931 k932 => ?_)
                have LP936 : ∀ (f933 : Nat) (v937 : Int32) (M938 : gM), Kl C1 M zL M938 zL → ¬ v937 < 0 → ((3 : Int32).toInt - v937.toInt).toNat < f933 → Ok (H_Told_lay_115 Ld1 p2 (-1) (p3 - 1) f933 v937 M938) (fun q => (q.1 = 0 ∨ q.1 = 1) ∧ Kl C1 M zL q.2 zL) := by
                  intro f933
                  induction f933 with
                  | zero => intro v937 M938 _ _ hm935; exact absurd hm935 (Nat.not_lt_zero _)
                  | succ f933 ih934 =>
                    intro v937 M938 k939 n940 hm935
                    show Ok (B_Told_lay_115 Ld1 p2 (-1) (p3 - 1) (H_Told_lay_115 Ld1 p2 (-1) (p3 - 1) f933) v937 M938) _
                    unfold B_Told_lay_115
                    refine Ok.ite (fun h941 => ?_) (fun h941 => ?_)
                    · exact ⟨_, rfl, (Or.inr rfl), k939⟩
                    · refine Ok.ite (fun h942 => ?_) (fun h942 => ?_)
                      · unfold J_Told_lay_141
                        refine Ok.c1 (tf_Land_sumOf hLd1) (fun r943 _ => ?_)
                        refine Ok.c1 (tf_Main_put (by decide)) (fun M944 k945 => ?_)
                        refine Ok.nmI (fun x946 ex946 => ?_)
                        exact ih934 x946 M944 (Kl.trans k939 (Kl.mono k945 (oneL_S (fun _ => rfl)))) (nn_up (y := (3 : Int32)) h941 ex946 n940) (md_up h941 ex946 hm935)
                      · refine Ok.c1 (tf_Land_broughtBy hLd1) (fun r947 _ => ?_)
                        unfold J_Told_lay_141
                        refine Ok.c1 (tf_Land_sumOf hLd1) (fun r948 _ => ?_)
                        refine Ok.c1 (tf_Main_put (by decide)) (fun M949 k950 => ?_)
                        refine Ok.nmI (fun x951 ex951 => ?_)
                        exact ih934 x951 M949 (Kl.trans k939 (Kl.mono k950 (oneL_S (fun _ => rfl)))) (nn_up (y := (3 : Int32)) h941 ex951 n940) (md_up h941 ex951 hm935)
                exact LP936 _ 0 M931 (Kl.trans (Kl.trans Kl.rf (Kl.mono k930 (oneL_S (fun _ => rfl)))) (Kl.mono k932 (oneL_S (fun _ => rfl)))) (by decide) fu_up
              · exact ⟨_, rfl, (Or.inl rfl), Kl.rf⟩
            · refine Ok.c1 (tf_Land_inDish hLd1) (fun r952 _ => ?_)
              refine Ok.ite (fun h953 => ?_) (fun h953 => ?_)
              · exact ⟨_, rfl, (Or.inl rfl), Kl.rf⟩
              · unfold J_Told_lay_79
                refine Ok.ite (fun h954 => ?_) (fun h954 => ?_)
                · refine Ok.c1 (tf_Main_put (by decide)) (fun M955 k956 => ?_)
                  refine Ok.c1 (tf_Main_put (by decide)) (fun M957 k958 => ?_)
                  have LP962 : ∀ (f959 : Nat) (v963 : Int32) (M964 : gM), Kl C1 M zL M964 zL → ¬ v963 < 0 → ((3 : Int32).toInt - v963.toInt).toNat < f959 → Ok (H_Told_lay_115 Ld1 p2 (-1) (p3 - 1) f959 v963 M964) (fun q => (q.1 = 0 ∨ q.1 = 1) ∧ Kl C1 M zL q.2 zL) := by
                    intro f959
                    induction f959 with
                    | zero => intro v963 M964 _ _ hm961; exact absurd hm961 (Nat.not_lt_zero _)
                    | succ f959 ih960 =>
                      intro v963 M964 k965 n966 hm961
                      show Ok (B_Told_lay_115 Ld1 p2 (-1) (p3 - 1) (H_Told_lay_115 Ld1 p2 (-1) (p3 - 1) f959) v963 M964) _
                      unfold B_Told_lay_115
                      refine Ok.ite (fun h967 => ?_) (fun h967 => ?_)
                      · exact ⟨_, rfl, (Or.inr rfl), k965⟩
                      · refine Ok.ite (fun h968 => ?_) (fun h968 => ?_)
                        · unfold J_Told_lay_141
                          refine Ok.c1 (tf_Land_sumOf hLd1) (fun r969 _ => ?_)
                          refine Ok.c1 (tf_Main_put (by decide)) (fun M970 k971 => ?_)
                          refine Ok.nmI (fun x972 ex972 => ?_)
                          exact ih960 x972 M970 (Kl.trans k965 (Kl.mono k971 (oneL_S (fun _ => rfl)))) (nn_up (y := (3 : Int32)) h967 ex972 n966) (md_up h967 ex972 hm961)
                        · refine Ok.c1 (tf_Land_broughtBy hLd1) (fun r973 _ => ?_)
                          unfold J_Told_lay_141
                          refine Ok.c1 (tf_Land_sumOf hLd1) (fun r974 _ => ?_)
                          refine Ok.c1 (tf_Main_put (by decide)) (fun M975 k976 => ?_)
                          refine Ok.nmI (fun x977 ex977 => ?_)
                          exact ih960 x977 M975 (Kl.trans k965 (Kl.mono k976 (oneL_S (fun _ => rfl)))) (nn_up (y := (3 : Int32)) h967 ex977 n966) (md_up h967 ex977 hm961)
                  exact LP962 _ 0 M957 (Kl.trans (Kl.trans Kl.rf (Kl.mono k956 (oneL_S (fun _ => rfl)))) (Kl.mono k958 (oneL_S (fun _ => rfl)))) (by decide) fu_up
                · exact ⟨_, rfl, (Or.inl rfl), Kl.rf⟩
    · unfold J_Told_lay_19
      refine Ok.ite (fun h978 => ?_) (fun h978 => ?_)
      · unfold J_Told_lay_38
        refine Ok.c1 (tf_Land_manyIn hLd1) (fun r979 _ => ?_)
        refine Ok.nmI (fun x980 ex980 => ?_)
        refine Ok.ite (fun h981 => ?_) (fun h981 => ?_)
        · unfold J_Told_lay_64
          refine Ok.ite (fun h982 => ?_) (fun h982 => ?_)
          · unfold J_Told_lay_79
            refine Ok.ite (fun h983 => ?_) (fun h983 => ?_)
            · refine Ok.c1 (tf_Main_put (by decide)) (fun M984 k985 => ?_)
              refine Ok.c1 (tf_Main_put (by decide)) (fun M986 k987 => ?_)
              have LP991 : ∀ (f988 : Nat) (v992 : Int32) (M993 : gM), Kl C1 M zL M993 zL → ¬ v992 < 0 → ((3 : Int32).toInt - v992.toInt).toNat < f988 → Ok (H_Told_lay_115 Ld1 p2 1 ((p3 - 1) - 6) f988 v992 M993) (fun q => (q.1 = 0 ∨ q.1 = 1) ∧ Kl C1 M zL q.2 zL) := by
                intro f988
                induction f988 with
                | zero => intro v992 M993 _ _ hm990; exact absurd hm990 (Nat.not_lt_zero _)
                | succ f988 ih989 =>
                  intro v992 M993 k994 n995 hm990
                  show Ok (B_Told_lay_115 Ld1 p2 1 ((p3 - 1) - 6) (H_Told_lay_115 Ld1 p2 1 ((p3 - 1) - 6) f988) v992 M993) _
                  unfold B_Told_lay_115
                  refine Ok.ite (fun h996 => ?_) (fun h996 => ?_)
                  · exact ⟨_, rfl, (Or.inr rfl), k994⟩
                  · refine Ok.ite (fun h997 => ?_) (fun h997 => ?_)
                    · unfold J_Told_lay_141
                      refine Ok.c1 (tf_Land_sumOf hLd1) (fun r998 _ => ?_)
                      refine Ok.c1 (tf_Main_put (by decide)) (fun M999 k1000 => ?_)
                      refine Ok.nmI (fun x1001 ex1001 => ?_)
                      exact ih989 x1001 M999 (Kl.trans k994 (Kl.mono k1000 (oneL_S (fun _ => rfl)))) (nn_up (y := (3 : Int32)) h996 ex1001 n995) (md_up h996 ex1001 hm990)
                    · refine Ok.c1 (tf_Land_broughtBy hLd1) (fun r1002 _ => ?_)
                      unfold J_Told_lay_141
                      refine Ok.c1 (tf_Land_sumOf hLd1) (fun r1003 _ => ?_)
                      refine Ok.c1 (tf_Main_put (by decide)) (fun M1004 k1005 => ?_)
                      refine Ok.nmI (fun x1006 ex1006 => ?_)
                      exact ih989 x1006 M1004 (Kl.trans k994 (Kl.mono k1005 (oneL_S (fun _ => rfl)))) (nn_up (y := (3 : Int32)) h996 ex1006 n995) (md_up h996 ex1006 hm990)
              exact LP991 _ 0 M986 (Kl.trans (Kl.trans Kl.rf (Kl.mono k985 (oneL_S (fun _ => rfl)))) (Kl.mono k987 (oneL_S (fun _ => rfl)))) (by decide) fu_up
            · exact ⟨_, rfl, (Or.inl rfl), Kl.rf⟩
          · refine Ok.c1 (tf_Land_inDish hLd1) (fun r1007 _ => ?_)
            refine Ok.ite (fun h1008 => ?_) (fun h1008 => ?_)
            · exact ⟨_, rfl, (Or.inl rfl), Kl.rf⟩
            · unfold J_Told_lay_79
              refine Ok.ite (fun h1009 => ?_) (fun h1009 => ?_)
              · refine Ok.c1 (tf_Main_put (by decide)) (fun M1010 k1011 => ?_)
                refine Ok.c1 (tf_Main_put (by decide)) (fun M1012 k1013 => ?_)
                have LP1017 : ∀ (f1014 : Nat) (v1018 : Int32) (M1019 : gM), Kl C1 M zL M1019 zL → ¬ v1018 < 0 → ((3 : Int32).toInt - v1018.toInt).toNat < f1014 → Ok (H_Told_lay_115 Ld1 p2 1 ((p3 - 1) - 6) f1014 v1018 M1019) (fun q => (q.1 = 0 ∨ q.1 = 1) ∧ Kl C1 M zL q.2 zL) := by
                  intro f1014
                  induction f1014 with
                  | zero => intro v1018 M1019 _ _ hm1016; exact absurd hm1016 (Nat.not_lt_zero _)
                  | succ f1014 ih1015 =>
                    intro v1018 M1019 k1020 n1021 hm1016
                    show Ok (B_Told_lay_115 Ld1 p2 1 ((p3 - 1) - 6) (H_Told_lay_115 Ld1 p2 1 ((p3 - 1) - 6) f1014) v1018 M1019) _
                    unfold B_Told_lay_115
                    refine Ok.ite (fun h1022 => ?_) (fun h1022 => ?_)
                    · exact ⟨_, rfl, (Or.inr rfl), k1020⟩
                    · refine Ok.ite (fun h1023 => ?_) (fun h1023 => ?_)
                      · unfold J_Told_lay_141
                        refine Ok.c1 (tf_Land_sumOf hLd1) (fun r1024 _ => ?_)
                        refine Ok.c1 (tf_Main_put (by decide)) (fun M1025 k1026 => ?_)
                        refine Ok.nmI (fun x1027 ex1027 => ?_)
                        exact ih1015 x1027 M1025 (Kl.trans k1020 (Kl.mono k1026 (oneL_S (fun _ => rfl)))) (nn_up (y := (3 : Int32)) h1022 ex1027 n1021) (md_up h1022 ex1027 hm1016)
                      · refine Ok.c1 (tf_Land_broughtBy hLd1) (fun r1028 _ => ?_)
                        unfold J_Told_lay_141
                        refine Ok.c1 (tf_Land_sumOf hLd1) (fun r1029 _ => ?_)
                        refine Ok.c1 (tf_Main_put (by decide)) (fun M1030 k1031 => ?_)
                        refine Ok.nmI (fun x1032 ex1032 => ?_)
                        exact ih1015 x1032 M1030 (Kl.trans k1020 (Kl.mono k1031 (oneL_S (fun _ => rfl)))) (nn_up (y := (3 : Int32)) h1022 ex1032 n1021) (md_up h1022 ex1032 hm1016)
                exact LP1017 _ 0 M1012 (Kl.trans (Kl.trans Kl.rf (Kl.mono k1011 (oneL_S (fun _ => rfl)))) (Kl.mono k1013 (oneL_S (fun _ => rfl)))) (by decide) fu_up
              · exact ⟨_, rfl, (Or.inl rfl), Kl.rf⟩
        · refine Ok.ite (fun h1033 => ?_) (fun h1033 => ?_)
          · exact ⟨_, rfl, (Or.inl rfl), Kl.rf⟩
          · unfold J_Told_lay_64
            refine Ok.ite (fun h1034 => ?_) (fun h1034 => ?_)
            · unfold J_Told_lay_79
              refine Ok.ite (fun h1035 => ?_) (fun h1035 => ?_)
              · refine Ok.c1 (tf_Main_put (by decide)) (fun M1036 k1037 => ?_)
                refine Ok.c1 (tf_Main_put (by decide)) (fun M1038 k1039 => ?_)
                have LP1043 : ∀ (f1040 : Nat) (v1044 : Int32) (M1045 : gM), Kl C1 M zL M1045 zL → ¬ v1044 < 0 → ((3 : Int32).toInt - v1044.toInt).toNat < f1040 → Ok (H_Told_lay_115 Ld1 p2 1 ((p3 - 1) - 6) f1040 v1044 M1045) (fun q => (q.1 = 0 ∨ q.1 = 1) ∧ Kl C1 M zL q.2 zL) := by
                  intro f1040
                  induction f1040 with
                  | zero => intro v1044 M1045 _ _ hm1042; exact absurd hm1042 (Nat.not_lt_zero _)
                  | succ f1040 ih1041 =>
                    intro v1044 M1045 k1046 n1047 hm1042
                    show Ok (B_Told_lay_115 Ld1 p2 1 ((p3 - 1) - 6) (H_Told_lay_115 Ld1 p2 1 ((p3 - 1) - 6) f1040) v1044 M1045) _
                    unfold B_Told_lay_115
                    refine Ok.ite (fun h1048 => ?_) (fun h1048 => ?_)
                    · exact ⟨_, rfl, (Or.inr rfl), k1046⟩
                    · refine Ok.ite (fun h1049 => ?_) (fun h1049 => ?_)
                      · unfold J_Told_lay_141
                        refine Ok.c1 (tf_Land_sumOf hLd1) (fun r1050 _ => ?_)
                        refine Ok.c1 (tf_Main_put (by decide)) (fun M1051 k1052 => ?_)
                        refine Ok.nmI (fun x1053 ex1053 => ?_)
                        exact ih1041 x1053 M1051 (Kl.trans k1046 (Kl.mono k1052 (oneL_S (fun _ => rfl)))) (nn_up (y := (3 : Int32)) h1048 ex1053 n1047) (md_up h1048 ex1053 hm1042)
                      · refine Ok.c1 (tf_Land_broughtBy hLd1) (fun r1054 _ => ?_)
                        unfold J_Told_lay_141
                        refine Ok.c1 (tf_Land_sumOf hLd1) (fun r1055 _ => ?_)
                        refine Ok.c1 (tf_Main_put (by decide)) (fun M1056 k1057 => ?_)
                        refine Ok.nmI (fun x1058 ex1058 => ?_)
                        exact ih1041 x1058 M1056 (Kl.trans k1046 (Kl.mono k1057 (oneL_S (fun _ => rfl)))) (nn_up (y := (3 : Int32)) h1048 ex1058 n1047) (md_up h1048 ex1058 hm1042)
                exact LP1043 _ 0 M1038 (Kl.trans (Kl.trans Kl.rf (Kl.mono k1037 (oneL_S (fun _ => rfl)))) (Kl.mono k1039 (oneL_S (fun _ => rfl)))) (by decide) fu_up
              · exact ⟨_, rfl, (Or.inl rfl), Kl.rf⟩
            · refine Ok.c1 (tf_Land_inDish hLd1) (fun r1059 _ => ?_)
              refine Ok.ite (fun h1060 => ?_) (fun h1060 => ?_)
              · exact ⟨_, rfl, (Or.inl rfl), Kl.rf⟩
              · unfold J_Told_lay_79
                refine Ok.ite (fun h1061 => ?_) (fun h1061 => ?_)
                · refine Ok.c1 (tf_Main_put (by decide)) (fun M1062 k1063 => ?_)
                  refine Ok.c1 (tf_Main_put (by decide)) (fun M1064 k1065 => ?_)
                  have LP1069 : ∀ (f1066 : Nat) (v1070 : Int32) (M1071 : gM), Kl C1 M zL M1071 zL → ¬ v1070 < 0 → ((3 : Int32).toInt - v1070.toInt).toNat < f1066 → Ok (H_Told_lay_115 Ld1 p2 1 ((p3 - 1) - 6) f1066 v1070 M1071) (fun q => (q.1 = 0 ∨ q.1 = 1) ∧ Kl C1 M zL q.2 zL) := by
                    intro f1066
                    induction f1066 with
                    | zero => intro v1070 M1071 _ _ hm1068; exact absurd hm1068 (Nat.not_lt_zero _)
                    | succ f1066 ih1067 =>
                      intro v1070 M1071 k1072 n1073 hm1068
                      show Ok (B_Told_lay_115 Ld1 p2 1 ((p3 - 1) - 6) (H_Told_lay_115 Ld1 p2 1 ((p3 - 1) - 6) f1066) v1070 M1071) _
                      unfold B_Told_lay_115
                      refine Ok.ite (fun h1074 => ?_) (fun h1074 => ?_)
                      · exact ⟨_, rfl, (Or.inr rfl), k1072⟩
                      · refine Ok.ite (fun h1075 => ?_) (fun h1075 => ?_)
                        · unfold J_Told_lay_141
                          refine Ok.c1 (tf_Land_sumOf hLd1) (fun r1076 _ => ?_)
                          refine Ok.c1 (tf_Main_put (by decide)) (fun M1077 k1078 => ?_)
                          refine Ok.nmI (fun x1079 ex1079 => ?_)
                          exact ih1067 x1079 M1077 (Kl.trans k1072 (Kl.mono k1078 (oneL_S (fun _ => rfl)))) (nn_up (y := (3 : Int32)) h1074 ex1079 n1073) (md_up h1074 ex1079 hm1068)
                        · refine Ok.c1 (tf_Land_broughtBy hLd1) (fun r1080 _ => ?_)
                          unfold J_Told_lay_141
                          refine Ok.c1 (tf_Land_sumOf hLd1) (fun r1081 _ => ?_)
                          refine Ok.c1 (tf_Main_put (by decide)) (fun M1082 k1083 => ?_)
                          refine Ok.nmI (fun x1084 ex1084 => ?_)
                          exact ih1067 x1084 M1082 (Kl.trans k1072 (Kl.mono k1083 (oneL_S (fun _ => rfl)))) (nn_up (y := (3 : Int32)) h1074 ex1084 n1073) (md_up h1074 ex1084 hm1068)
                  exact LP1069 _ 0 M1064 (Kl.trans (Kl.trans Kl.rf (Kl.mono k1063 (oneL_S (fun _ => rfl)))) (Kl.mono k1065 (oneL_S (fun _ => rfl)))) (by decide) fu_up
                · exact ⟨_, rfl, (Or.inl rfl), Kl.rf⟩
      · unfold J_Told_lay_38
        refine Ok.c1 (tf_Land_manyIn hLd1) (fun r1085 _ => ?_)
        refine Ok.nmI (fun x1086 ex1086 => ?_)
        refine Ok.ite (fun h1087 => ?_) (fun h1087 => ?_)
        · unfold J_Told_lay_64
          refine Ok.ite (fun h1088 => ?_) (fun h1088 => ?_)
          · unfold J_Told_lay_79
            refine Ok.ite (fun h1089 => ?_) (fun h1089 => ?_)
            · refine Ok.c1 (tf_Main_put (by decide)) (fun M1090 k1091 => ?_)
              refine Ok.c1 (tf_Main_put (by decide)) (fun M1092 k1093 => ?_)
              have LP1097 : ∀ (f1094 : Nat) (v1098 : Int32) (M1099 : gM), Kl C1 M zL M1099 zL → ¬ v1098 < 0 → ((3 : Int32).toInt - v1098.toInt).toNat < f1094 → Ok (H_Told_lay_115 Ld1 p2 1 (p3 - 1) f1094 v1098 M1099) (fun q => (q.1 = 0 ∨ q.1 = 1) ∧ Kl C1 M zL q.2 zL) := by
                intro f1094
                induction f1094 with
                | zero => intro v1098 M1099 _ _ hm1096; exact absurd hm1096 (Nat.not_lt_zero _)
                | succ f1094 ih1095 =>
                  intro v1098 M1099 k1100 n1101 hm1096
                  show Ok (B_Told_lay_115 Ld1 p2 1 (p3 - 1) (H_Told_lay_115 Ld1 p2 1 (p3 - 1) f1094) v1098 M1099) _
                  unfold B_Told_lay_115
                  refine Ok.ite (fun h1102 => ?_) (fun h1102 => ?_)
                  · exact ⟨_, rfl, (Or.inr rfl), k1100⟩
                  · refine Ok.ite (fun h1103 => ?_) (fun h1103 => ?_)
                    · unfold J_Told_lay_141
                      refine Ok.c1 (tf_Land_sumOf hLd1) (fun r1104 _ => ?_)
                      refine Ok.c1 (tf_Main_put (by decide)) (fun M1105 k1106 => ?_)
                      refine Ok.nmI (fun x1107 ex1107 => ?_)
                      exact ih1095 x1107 M1105 (Kl.trans k1100 (Kl.mono k1106 (oneL_S (fun _ => rfl)))) (nn_up (y := (3 : Int32)) h1102 ex1107 n1101) (md_up h1102 ex1107 hm1096)
                    · refine Ok.c1 (tf_Land_broughtBy hLd1) (fun r1108 _ => ?_)
                      unfold J_Told_lay_141
                      refine Ok.c1 (tf_Land_sumOf hLd1) (fun r1109 _ => ?_)
                      refine Ok.c1 (tf_Main_put (by decide)) (fun M1110 k1111 => ?_)
                      refine Ok.nmI (fun x1112 ex1112 => ?_)
                      exact ih1095 x1112 M1110 (Kl.trans k1100 (Kl.mono k1111 (oneL_S (fun _ => rfl)))) (nn_up (y := (3 : Int32)) h1102 ex1112 n1101) (md_up h1102 ex1112 hm1096)
              exact LP1097 _ 0 M1092 (Kl.trans (Kl.trans Kl.rf (Kl.mono k1091 (oneL_S (fun _ => rfl)))) (Kl.mono k1093 (oneL_S (fun _ => rfl)))) (by decide) fu_up
            · exact ⟨_, rfl, (Or.inl rfl), Kl.rf⟩
          · refine Ok.c1 (tf_Land_inDish hLd1) (fun r1113 _ => ?_)
            refine Ok.ite (fun h1114 => ?_) (fun h1114 => ?_)
            · exact ⟨_, rfl, (Or.inl rfl), Kl.rf⟩
            · unfold J_Told_lay_79
              refine Ok.ite (fun h1115 => ?_) (fun h1115 => ?_)
              · refine Ok.c1 (tf_Main_put (by decide)) (fun M1116 k1117 => ?_)
                refine Ok.c1 (tf_Main_put (by decide)) (fun M1118 k1119 => ?_)
                have LP1123 : ∀ (f1120 : Nat) (v1124 : Int32) (M1125 : gM), Kl C1 M zL M1125 zL → ¬ v1124 < 0 → ((3 : Int32).toInt - v1124.toInt).toNat < f1120 → Ok (H_Told_lay_115 Ld1 p2 1 (p3 - 1) f1120 v1124 M1125) (fun q => (q.1 = 0 ∨ q.1 = 1) ∧ Kl C1 M zL q.2 zL) := by
                  intro f1120
                  induction f1120 with
                  | zero => intro v1124 M1125 _ _ hm1122; exact absurd hm1122 (Nat.not_lt_zero _)
                  | succ f1120 ih1121 =>
                    intro v1124 M1125 k1126 n1127 hm1122
                    show Ok (B_Told_lay_115 Ld1 p2 1 (p3 - 1) (H_Told_lay_115 Ld1 p2 1 (p3 - 1) f1120) v1124 M1125) _
                    unfold B_Told_lay_115
                    refine Ok.ite (fun h1128 => ?_) (fun h1128 => ?_)
                    · exact ⟨_, rfl, (Or.inr rfl), k1126⟩
                    · refine Ok.ite (fun h1129 => ?_) (fun h1129 => ?_)
                      · unfold J_Told_lay_141
                        refine Ok.c1 (tf_Land_sumOf hLd1) (fun r1130 _ => ?_)
                        refine Ok.c1 (tf_Main_put (by decide)) (fun M1131 k1132 => ?_)
                        refine Ok.nmI (fun x1133 ex1133 => ?_)
                        exact ih1121 x1133 M1131 (Kl.trans k1126 (Kl.mono k1132 (oneL_S (fun _ => rfl)))) (nn_up (y := (3 : Int32)) h1128 ex1133 n1127) (md_up h1128 ex1133 hm1122)
                      · refine Ok.c1 (tf_Land_broughtBy hLd1) (fun r1134 _ => ?_)
                        unfold J_Told_lay_141
                        refine Ok.c1 (tf_Land_sumOf hLd1) (fun r1135 _ => ?_)
                        refine Ok.c1 (tf_Main_put (by decide)) (fun M1136 k1137 => ?_)
                        refine Ok.nmI (fun x1138 ex1138 => ?_)
                        exact ih1121 x1138 M1136 (Kl.trans k1126 (Kl.mono k1137 (oneL_S (fun _ => rfl)))) (nn_up (y := (3 : Int32)) h1128 ex1138 n1127) (md_up h1128 ex1138 hm1122)
                exact LP1123 _ 0 M1118 (Kl.trans (Kl.trans Kl.rf (Kl.mono k1117 (oneL_S (fun _ => rfl)))) (Kl.mono k1119 (oneL_S (fun _ => rfl)))) (by decide) fu_up
              · exact ⟨_, rfl, (Or.inl rfl), Kl.rf⟩
        · refine Ok.ite (fun h1139 => ?_) (fun h1139 => ?_)
          · exact ⟨_, rfl, (Or.inl rfl), Kl.rf⟩
          · unfold J_Told_lay_64
            refine Ok.ite (fun h1140 => ?_) (fun h1140 => ?_)
            · unfold J_Told_lay_79
              refine Ok.ite (fun h1141 => ?_) (fun h1141 => ?_)
              · refine Ok.c1 (tf_Main_put (by decide)) (fun M1142 k1143 => ?_)
                refine Ok.c1 (tf_Main_put (by decide)) (fun M1144 k1145 => ?_)
                have LP1149 : ∀ (f1146 : Nat) (v1150 : Int32) (M1151 : gM), Kl C1 M zL M1151 zL → ¬ v1150 < 0 → ((3 : Int32).toInt - v1150.toInt).toNat < f1146 → Ok (H_Told_lay_115 Ld1 p2 1 (p3 - 1) f1146 v1150 M1151) (fun q => (q.1 = 0 ∨ q.1 = 1) ∧ Kl C1 M zL q.2 zL) := by
                  intro f1146
                  induction f1146 with
                  | zero => intro v1150 M1151 _ _ hm1148; exact absurd hm1148 (Nat.not_lt_zero _)
                  | succ f1146 ih1147 =>
                    intro v1150 M1151 k1152 n1153 hm1148
                    show Ok (B_Told_lay_115 Ld1 p2 1 (p3 - 1) (H_Told_lay_115 Ld1 p2 1 (p3 - 1) f1146) v1150 M1151) _
                    unfold B_Told_lay_115
                    refine Ok.ite (fun h1154 => ?_) (fun h1154 => ?_)
                    · exact ⟨_, rfl, (Or.inr rfl), k1152⟩
                    · refine Ok.ite (fun h1155 => ?_) (fun h1155 => ?_)
                      · unfold J_Told_lay_141
                        refine Ok.c1 (tf_Land_sumOf hLd1) (fun r1156 _ => ?_)
                        refine Ok.c1 (tf_Main_put (by decide)) (fun M1157 k1158 => ?_)
                        refine Ok.nmI (fun x1159 ex1159 => ?_)
                        exact ih1147 x1159 M1157 (Kl.trans k1152 (Kl.mono k1158 (oneL_S (fun _ => rfl)))) (nn_up (y := (3 : Int32)) h1154 ex1159 n1153) (md_up h1154 ex1159 hm1148)
                      · refine Ok.c1 (tf_Land_broughtBy hLd1) (fun r1160 _ => ?_)
                        unfold J_Told_lay_141
                        refine Ok.c1 (tf_Land_sumOf hLd1) (fun r1161 _ => ?_)
                        refine Ok.c1 (tf_Main_put (by decide)) (fun M1162 k1163 => ?_)
                        refine Ok.nmI (fun x1164 ex1164 => ?_)
                        exact ih1147 x1164 M1162 (Kl.trans k1152 (Kl.mono k1163 (oneL_S (fun _ => rfl)))) (nn_up (y := (3 : Int32)) h1154 ex1164 n1153) (md_up h1154 ex1164 hm1148)
                exact LP1149 _ 0 M1144 (Kl.trans (Kl.trans Kl.rf (Kl.mono k1143 (oneL_S (fun _ => rfl)))) (Kl.mono k1145 (oneL_S (fun _ => rfl)))) (by decide) fu_up
              · exact ⟨_, rfl, (Or.inl rfl), Kl.rf⟩
            · refine Ok.c1 (tf_Land_inDish hLd1) (fun r1165 _ => ?_)
              refine Ok.ite (fun h1166 => ?_) (fun h1166 => ?_)
              · exact ⟨_, rfl, (Or.inl rfl), Kl.rf⟩
              · unfold J_Told_lay_79
                refine Ok.ite (fun h1167 => ?_) (fun h1167 => ?_)
                · refine Ok.c1 (tf_Main_put (by decide)) (fun M1168 k1169 => ?_)
                  refine Ok.c1 (tf_Main_put (by decide)) (fun M1170 k1171 => ?_)
                  have LP1175 : ∀ (f1172 : Nat) (v1176 : Int32) (M1177 : gM), Kl C1 M zL M1177 zL → ¬ v1176 < 0 → ((3 : Int32).toInt - v1176.toInt).toNat < f1172 → Ok (H_Told_lay_115 Ld1 p2 1 (p3 - 1) f1172 v1176 M1177) (fun q => (q.1 = 0 ∨ q.1 = 1) ∧ Kl C1 M zL q.2 zL) := by
                    intro f1172
                    induction f1172 with
                    | zero => intro v1176 M1177 _ _ hm1174; exact absurd hm1174 (Nat.not_lt_zero _)
                    | succ f1172 ih1173 =>
                      intro v1176 M1177 k1178 n1179 hm1174
                      show Ok (B_Told_lay_115 Ld1 p2 1 (p3 - 1) (H_Told_lay_115 Ld1 p2 1 (p3 - 1) f1172) v1176 M1177) _
                      unfold B_Told_lay_115
                      refine Ok.ite (fun h1180 => ?_) (fun h1180 => ?_)
                      · exact ⟨_, rfl, (Or.inr rfl), k1178⟩
                      · refine Ok.ite (fun h1181 => ?_) (fun h1181 => ?_)
                        · unfold J_Told_lay_141
                          refine Ok.c1 (tf_Land_sumOf hLd1) (fun r1182 _ => ?_)
                          refine Ok.c1 (tf_Main_put (by decide)) (fun M1183 k1184 => ?_)
                          refine Ok.nmI (fun x1185 ex1185 => ?_)
                          exact ih1173 x1185 M1183 (Kl.trans k1178 (Kl.mono k1184 (oneL_S (fun _ => rfl)))) (nn_up (y := (3 : Int32)) h1180 ex1185 n1179) (md_up h1180 ex1185 hm1174)
                        · refine Ok.c1 (tf_Land_broughtBy hLd1) (fun r1186 _ => ?_)
                          unfold J_Told_lay_141
                          refine Ok.c1 (tf_Land_sumOf hLd1) (fun r1187 _ => ?_)
                          refine Ok.c1 (tf_Main_put (by decide)) (fun M1188 k1189 => ?_)
                          refine Ok.nmI (fun x1190 ex1190 => ?_)
                          exact ih1173 x1190 M1188 (Kl.trans k1178 (Kl.mono k1189 (oneL_S (fun _ => rfl)))) (nn_up (y := (3 : Int32)) h1180 ex1190 n1179) (md_up h1180 ex1190 hm1174)
                  exact LP1175 _ 0 M1170 (Kl.trans (Kl.trans Kl.rf (Kl.mono k1169 (oneL_S (fun _ => rfl)))) (Kl.mono k1171 (oneL_S (fun _ => rfl)))) (by decide) fu_up
                · exact ⟨_, rfl, (Or.inl rfl), Kl.rf⟩
set_option maxHeartbeats 4000000 in
set_option maxRecDepth 20000 in
theorem tf_Main_boundIn {ld : Nat} {p1 : Int32} {p2 : Int32} {p3 : Int32} {M : gM} (hld : isLa ld) : ∃ r M', F_Main_boundIn ld p1 p2 p3 M = some (r, M') ∧ True ∧ Kl C0 M zL M' zL := by
  refine Ok.x2 (A := fun (r : Int32) (M' : gM) => True ∧ Kl C0 M zL M' zL) ?_
  unfold F_Main_boundIn
  refine Ok.c1 (tf_Main_isOne ) (fun r1191 hbr1191 => ?_)
  refine Ok.ite (fun h1192 => ?_) (fun h1192 => ?_)
  · exact ⟨_, rfl, trivial, Kl.rf⟩
  · refine Ok.c1 (tf_Main_isOne ) (fun r1193 hbr1193 => ?_)
    refine Ok.ite (fun h1194 => ?_) (fun h1194 => ?_)
    · exact ⟨_, rfl, trivial, Kl.rf⟩
    · refine Ok.ite (fun h1195 => ?_) (fun h1195 => ?_)
      · exact ⟨_, rfl, trivial, Kl.rf⟩
      · refine Ok.ite (fun h1196 => ?_) (fun h1196 => ?_)
        · refine Ok.c2 (tf_State_boundOf isSt_64 hld) (fun r1197 M1198 ⟨_, k1199⟩ => ?_)
          exact ⟨_, rfl, trivial, (Kl.trans Kl.rf k1199)⟩
        · exact ⟨_, rfl, trivial, Kl.rf⟩
set_option maxHeartbeats 4000000 in
set_option maxRecDepth 20000 in
theorem tf_Main_changeBy {ld : Nat} {p1 : Int32} {p2 : Int32} {M : gM} (hld : isLa ld) : ∃ r M', F_Main_changeBy ld p1 p2 M = some (r, M') ∧ True ∧ Kl C0 M zL M' zL := by
  refine Ok.x2 (A := fun (r : Int32) (M' : gM) => True ∧ Kl C0 M zL M' zL) ?_
  unfold F_Main_changeBy
  have LP1203 : ∀ (f1200 : Nat) (v1204 : Int32) (v1205 : Int32) (M1206 : gM), Kl C0 M zL M1206 zL → ¬ v1205 < 0 → ((3 : Int32).toInt - v1205.toInt).toNat < f1200 → Ok (H_Main_changeBy_5 ld p1 p2 f1200 v1204 v1205 M1206) (fun q => True ∧ Kl C0 M zL q.2 zL) := by
    intro f1200
    induction f1200 with
    | zero => intro v1204 v1205 M1206 _ _ hm1202; exact absurd hm1202 (Nat.not_lt_zero _)
    | succ f1200 ih1201 =>
      intro v1204 v1205 M1206 k1207 n1208 hm1202
      show Ok (B_Main_changeBy_5 ld p1 p2 (H_Main_changeBy_5 ld p1 p2 f1200) v1204 v1205 M1206) _
      unfold B_Main_changeBy_5
      refine Ok.ite (fun h1209 => ?_) (fun h1209 => ?_)
      · exact ⟨_, rfl, trivial, k1207⟩
      · refine Ok.c2 (tf_Land_dishForce hld) (fun r1210 M1211 ⟨_, k1212⟩ => ?_)
        refine Ok.c2 (tf_Land_dishForce hld) (fun r1213 M1214 ⟨_, k1215⟩ => ?_)
        refine Ok.nmI (fun x1216 ex1216 => ?_)
        refine Ok.nmI (fun x1217 ex1217 => ?_)
        exact ih1201 x1216 x1217 M1214 (Kl.trans (Kl.trans k1207 k1212) k1215) (nn_up (y := (3 : Int32)) h1209 ex1217 n1208) (md_up h1209 ex1217 hm1202)
  exact LP1203 _ 0 0 M Kl.rf (by decide) fu_up
set_option maxHeartbeats 4000000 in
set_option maxRecDepth 20000 in
theorem tf_Main_dish {ld : Nat} {p1 : Int32} {p2 : Int32} {M : gM} (hld : isLa ld) : ∃ r M', F_Main_dish ld p1 p2 M = some (r, M') ∧ True ∧ Kl C0 M zL M' zL := by
  refine Ok.x2 (A := fun (r : Int32) (M' : gM) => True ∧ Kl C0 M zL M' zL) ?_
  unfold F_Main_dish
  refine Ok.c1 (tf_Main_isOne ) (fun r1218 hbr1218 => ?_)
  refine Ok.ite (fun h1219 => ?_) (fun h1219 => ?_)
  · exact ⟨_, rfl, trivial, Kl.rf⟩
  · refine Ok.ite (fun h1220 => ?_) (fun h1220 => ?_)
    · refine Ok.c1 (tf_Main_at (by decide)) (fun r1221 _ => ?_)
      exact ⟨_, rfl, trivial, Kl.rf⟩
    refine Ok.ite (fun h1222 => ?_) (fun h1222 => ?_)
    · refine Ok.c1 (tf_Land_manyIn hld) (fun r1223 _ => ?_)
      exact ⟨_, rfl, trivial, Kl.rf⟩
    refine Ok.ite (fun h1224 => ?_) (fun h1224 => ?_)
    · refine Ok.c1 (tf_Land_priceOf hld) (fun r1225 _ => ?_)
      exact ⟨_, rfl, trivial, Kl.rf⟩
    refine Ok.ite (fun h1226 => ?_) (fun h1226 => ?_)
    · refine Ok.c2 (tf_Land_dishForce hld) (fun r1227 M1228 ⟨_, k1229⟩ => ?_)
      exact ⟨_, rfl, trivial, (Kl.trans Kl.rf k1229)⟩
    refine Ok.ite (fun h1230 => ?_) (fun h1230 => ?_)
    · refine Ok.c2 (tf_Land_dishForce hld) (fun r1231 M1232 ⟨_, k1233⟩ => ?_)
      exact ⟨_, rfl, trivial, (Kl.trans Kl.rf k1233)⟩
    refine Ok.ite (fun h1234 => ?_) (fun h1234 => ?_)
    · refine Ok.c2 (tf_Land_dishForce hld) (fun r1235 M1236 ⟨_, k1237⟩ => ?_)
      exact ⟨_, rfl, trivial, (Kl.trans Kl.rf k1237)⟩
    refine Ok.ite (fun h1238 => ?_) (fun h1238 => ?_)
    · refine Ok.c1 (tf_Main_at (by decide)) (fun r1239 _ => ?_)
      exact ⟨_, rfl, trivial, Kl.rf⟩
    exact ⟨_, rfl, trivial, Kl.rf⟩
set_option maxHeartbeats 4000000 in
set_option maxRecDepth 20000 in
theorem tf_Main_guest {ld : Nat} {p1 : Int32} {p2 : Int32} {M : gM} (hld : isLa ld) : ∃ r M', F_Main_guest ld p1 p2 M = some (r, M') ∧ True ∧ Kl C0 M zL M' zL := by
  refine Ok.x2 (A := fun (r : Int32) (M' : gM) => True ∧ Kl C0 M zL M' zL) ?_
  unfold F_Main_guest
  refine Ok.c1 (tf_Main_isOne ) (fun r1240 hbr1240 => ?_)
  refine Ok.ite (fun h1241 => ?_) (fun h1241 => ?_)
  · exact ⟨_, rfl, trivial, Kl.rf⟩
  · refine Ok.ite (fun h1242 => ?_) (fun h1242 => ?_)
    · refine Ok.c1 (tf_Main_at (by decide)) (fun r1243 _ => ?_)
      exact ⟨_, rfl, trivial, Kl.rf⟩
    refine Ok.ite (fun h1244 => ?_) (fun h1244 => ?_)
    · refine Ok.c1 (tf_State_hasEaten isSt_64) (fun r1245 hbr1245 => ?_)
      refine Ok.ite (fun h1246 => ?_) (fun h1246 => ?_)
      · exact ⟨_, rfl, trivial, Kl.rf⟩
      · refine Ok.c1 (tf_State_agoOf isSt_64) (fun r1247 _ => ?_)
        exact ⟨_, rfl, trivial, Kl.rf⟩
    refine Ok.ite (fun h1248 => ?_) (fun h1248 => ?_)
    · refine Ok.c1 (tf_Main_at (by decide)) (fun r1249 _ => ?_)
      exact ⟨_, rfl, trivial, Kl.rf⟩
    refine Ok.ite (fun h1250 => ?_) (fun h1250 => ?_)
    · refine Ok.c2 (tf_State_boundOf isSt_64 hld) (fun r1251 M1252 ⟨_, k1253⟩ => ?_)
      exact ⟨_, rfl, trivial, (Kl.trans Kl.rf k1253)⟩
    refine Ok.ite (fun h1254 => ?_) (fun h1254 => ?_)
    · refine Ok.c2 (tf_State_boundOf isSt_64 hld) (fun r1255 M1256 ⟨_, k1257⟩ => ?_)
      exact ⟨_, rfl, trivial, (Kl.trans Kl.rf k1257)⟩
    refine Ok.ite (fun h1258 => ?_) (fun h1258 => ?_)
    · refine Ok.c2 (tf_State_boundOf isSt_64 hld) (fun r1259 M1260 ⟨_, k1261⟩ => ?_)
      exact ⟨_, rfl, trivial, (Kl.trans Kl.rf k1261)⟩
    exact ⟨_, rfl, trivial, Kl.rf⟩
set_option maxHeartbeats 4000000 in
set_option maxRecDepth 20000 in
theorem tf_Main_hunger {ld : Nat} {p1 : Int32} {p2 : Int32} {M : gM} (hld : isLa ld) : ∃ r M', F_Main_hunger ld p1 p2 M = some (r, M') ∧ True ∧ Kl C0 M zL M' zL := by
  refine Ok.x2 (A := fun (r : Int32) (M' : gM) => True ∧ Kl C0 M zL M' zL) ?_
  unfold F_Main_hunger
  refine Ok.c1 (tf_Main_isOne ) (fun r1262 hbr1262 => ?_)
  refine Ok.ite (fun h1263 => ?_) (fun h1263 => ?_)
  · exact ⟨_, rfl, trivial, Kl.rf⟩
  · refine Ok.c1 (tf_Main_isOne ) (fun r1264 hbr1264 => ?_)
    refine Ok.ite (fun h1265 => ?_) (fun h1265 => ?_)
    · exact ⟨_, rfl, trivial, Kl.rf⟩
    · refine Ok.c1 (tf_Main_at (by decide)) (fun r1266 _ => ?_)
      have LP1270 : ∀ (f1267 : Nat) (v1271 : Int32) (M1272 : gM), Kl C0 M zL M1272 zL → ¬ v1271 < 0 → ((99 : Int32).toInt + 1 - v1271.toInt).toNat < f1267 → Ok (H_Main_hunger_45 ld p1 p2 r1266 f1267 v1271 M1272) (fun q => True ∧ Kl C0 M zL q.2 zL) := by
        intro f1267
        induction f1267 with
        | zero => intro v1271 M1272 _ _ hm1269; exact absurd hm1269 (Nat.not_lt_zero _)
        | succ f1267 ih1268 =>
          intro v1271 M1272 k1273 n1274 hm1269
          show Ok (B_Main_hunger_45 ld p1 p2 r1266 (H_Main_hunger_45 ld p1 p2 r1266 f1267) v1271 M1272) _
          unfold B_Main_hunger_45
          refine Ok.ite (fun h1275 => ?_) (fun h1275 => ?_)
          · exact ⟨_, rfl, trivial, k1273⟩
          · refine Ok.c2 (tf_State_boundOf isSt_64 hld) (fun r1276 M1277 ⟨_, k1278⟩ => ?_)
            refine Ok.c1 (tf_Main_at (by decide)) (fun r1279 _ => ?_)
            refine Ok.ite (fun h1280 => ?_) (fun h1280 => ?_)
            · refine Ok.nmI (fun x1281 ex1281 => ?_)
              exact ih1268 x1281 M1277 (Kl.trans k1273 k1278) (nn_upe (y := (99 : Int32)) h1275 (by decide) ex1281 n1274) (md_upe h1275 (by decide) ex1281 hm1269)
            · exact ⟨_, rfl, trivial, (Kl.trans k1273 k1278)⟩
      exact LP1270 _ 0 M Kl.rf (by decide) fu_upe
set_option maxHeartbeats 4000000 in
set_option maxRecDepth 20000 in
theorem tf_Main_stockIn {ld : Nat} {p1 : Int32} {p2 : Int32} {M : gM} (hld : isLa ld) : ∃ r M', F_Main_stockIn ld p1 p2 M = some (r, M') ∧ True ∧ Kl C1 M zL M' zL := by
  refine Ok.x2 (A := fun (r : Int32) (M' : gM) => True ∧ Kl C1 M zL M' zL) ?_
  unfold F_Main_stockIn
  refine Ok.c1 (tf_Main_isOne ) (fun r1282 hbr1282 => ?_)
  refine Ok.ite (fun h1283 => ?_) (fun h1283 => ?_)
  · exact ⟨_, rfl, trivial, Kl.rf⟩
  · refine Ok.ite (fun h1284 => ?_) (fun h1284 => ?_)
    · exact ⟨_, rfl, trivial, Kl.rf⟩
    · refine Ok.ite (fun h1285 => ?_) (fun h1285 => ?_)
      · refine Ok.c1 (tf_State_copyFrom isSt_71 isSt_64) (fun M1286 k1287 => ?_)
        refine Ok.c1 (tf_State_passDays isSt_71 hld) (fun M1288 k1289 => ?_)
        refine Ok.c1 (tf_Main_at (by decide)) (fun r1290 _ => ?_)
        exact ⟨_, rfl, trivial, (Kl.trans (Kl.trans Kl.rf (Kl.mono k1287 CX_C1)) (Kl.mono k1289 CX_C1))⟩
      · exact ⟨_, rfl, trivial, Kl.rf⟩
set_option maxHeartbeats 4000000 in
set_option maxRecDepth 20000 in
theorem tf_Land_freeByDish {Ld0 : Nat} {p1 : Int32} {p2 : Int32} {p3 : Int32} {p4 : Int32} {M : gM} (hLd0 : isLa Ld0) : ∃ r M', F_Land_freeByDish Ld0 p1 p2 p3 p4 M = some (r, M') ∧ True ∧ Kl C0 M zL M' zL := by
  refine Ok.x2 (A := fun (r : Int32) (M' : gM) => True ∧ Kl C0 M zL M' zL) ?_
  unfold F_Land_freeByDish
  have LP1294 : ∀ (f1291 : Nat) (v1295 : Int32) (M1296 : gM), Kl C0 M zL M1296 zL → ¬ v1295 < 0 → ((3 : Int32).toInt - v1295.toInt).toNat < f1291 → Ok (H_Land_freeByDish_3 Ld0 p1 p2 p3 p4 f1291 v1295 M1296) (fun q => True ∧ Kl C0 M zL q.2 zL) := by
    intro f1291
    induction f1291 with
    | zero => intro v1295 M1296 _ _ hm1293; exact absurd hm1293 (Nat.not_lt_zero _)
    | succ f1291 ih1292 =>
      intro v1295 M1296 k1297 n1298 hm1293
      show Ok (B_Land_freeByDish_3 Ld0 p1 p2 p3 p4 (H_Land_freeByDish_3 Ld0 p1 p2 p3 p4 f1291) v1295 M1296) _
      unfold B_Land_freeByDish_3
      refine Ok.ite (fun h1299 => ?_) (fun h1299 => ?_)
      · unfold J_Land_freeByDish_34
        have LP1303 : ∀ (f1300 : Nat) (v1304 : Int32) (v1305 : Int32) (M1306 : gM), Kl C0 M zL M1306 zL → ¬ v1305 < 0 → ((3 : Int32).toInt - v1305.toInt).toNat < f1300 → Ok (H_Land_freeByDish_40 Ld0 p1 p3 p4 f1300 v1304 v1305 M1306) (fun q => True ∧ Kl C0 M zL q.2 zL) := by
          intro f1300
          induction f1300 with
          | zero => intro v1304 v1305 M1306 _ _ hm1302; exact absurd hm1302 (Nat.not_lt_zero _)
          | succ f1300 ih1301 =>
            intro v1304 v1305 M1306 k1307 n1308 hm1302
            show Ok (B_Land_freeByDish_40 Ld0 p1 p3 p4 (H_Land_freeByDish_40 Ld0 p1 p3 p4 f1300) v1304 v1305 M1306) _
            unfold B_Land_freeByDish_40
            refine Ok.ite (fun h1309 => ?_) (fun h1309 => ?_)
            · exact ⟨_, rfl, trivial, k1307⟩
            · refine Ok.c1 (tf_Main_at (by decide)) (fun r1310 _ => ?_)
              refine Ok.c2 (tf_Land_boundBy hLd0) (fun r1311 M1312 ⟨_, k1313⟩ => ?_)
              refine Ok.c1 (tf_Land_freeUnder hLd0) (fun r1314 _ => ?_)
              refine Ok.nmI (fun x1315 ex1315 => ?_)
              refine Ok.nmI (fun x1316 ex1316 => ?_)
              exact ih1301 x1315 x1316 M1312 (Kl.trans k1307 k1313) (nn_up (y := (3 : Int32)) h1309 ex1316 n1308) (md_up h1309 ex1316 hm1302)
        exact LP1303 _ 0 0 M1296 k1297 (by decide) fu_up
      · refine Ok.c2 (tf_Land_dishForce hLd0) (fun r1317 M1318 ⟨_, k1319⟩ => ?_)
        refine Ok.c1 (tf_Main_put (by decide)) (fun M1320 k1321 => ?_)
        refine Ok.nmI (fun x1322 ex1322 => ?_)
        exact ih1292 x1322 M1320 (Kl.trans (Kl.trans k1297 k1319) (Kl.mono k1321 (oneL_S (fun j => C0_La_25 hLd0 j)))) (nn_up (y := (3 : Int32)) h1299 ex1322 n1298) (md_up h1299 ex1322 hm1293)
  exact LP1294 _ 0 M Kl.rf (by decide) fu_up
set_option maxHeartbeats 4000000 in
set_option maxRecDepth 20000 in
theorem tf_PotSearch_tryHeats {Ld1 : Nat} {p2 : Int32} {M : gM} (hLd1 : isLa Ld1) : ∃ M', F_PotSearch_tryHeats Ld1 p2 M = some M' ∧ Kl C1 M zL M' zL := by
  show Ok _ _
  unfold F_PotSearch_tryHeats
  refine Ok.ite (fun h1323 => ?_) (fun h1323 => ?_)
  · unfold J_PotSearch_tryHeats_41
    refine Ok.ite (fun h1324 => ?_) (fun h1324 => ?_)
    · unfold J_PotSearch_tryHeats_74
      unfold J_PotSearch_tryHeats_75
      refine Ok.ite (fun h1325 => ?_) (fun h1325 => ?_)
      · unfold J_PotSearch_tryHeats_98
        have LP1329 : ∀ (f1326 : Nat) (v1330 : Int32) (M1331 : gM), Kl C1 M zL M1331 zL → ¬ v1330 < 0 → ((M 391 10).toInt - v1330.toInt).toNat < f1326 → Ok (H_PotSearch_tryHeats_103 Ld1 p2 (M 391 10) f1326 v1330 M1331) (fun M' => Kl C1 M zL M' zL) := by
          intro f1326
          induction f1326 with
          | zero => intro v1330 M1331 _ _ hm1328; exact absurd hm1328 (Nat.not_lt_zero _)
          | succ f1326 ih1327 =>
            intro v1330 M1331 k1332 n1333 hm1328
            show Ok (B_PotSearch_tryHeats_103 Ld1 p2 (M 391 10) (H_PotSearch_tryHeats_103 Ld1 p2 (M 391 10) f1326) v1330 M1331) _
            unfold B_PotSearch_tryHeats_103
            refine Ok.ite (fun h1334 => ?_) (fun h1334 => ?_)
            · exact ⟨_, rfl, k1332⟩
            · refine Ok.c2 (tf_PotSearch_isEnough hLd1) (fun r1335 M1336 ⟨hbr1335, k1337⟩ => ?_)
              refine Ok.ite (fun h1338 => ?_) (fun h1338 => ?_)
              · refine Ok.nmI (fun x1339 ex1339 => ?_)
                exact ih1327 x1339 M1336 (Kl.trans k1332 (Kl.mono k1337 C0_C1)) (nn_up (y := (M 391 10)) h1334 ex1339 n1333) (md_up h1334 ex1339 hm1328)
              · unfold J_PotSearch_tryHeats_121
                refine Ok.nmM (fun M1340 eM1340 => ?_)
                refine Ok.nmM (fun M1341 eM1341 => ?_)
                refine Ok.nmM (fun M1342 eM1342 => ?_)
                refine Ok.nmM (fun M1343 eM1343 => ?_)
                refine Ok.c1 (tf_Main_copyRow (by decide) (by decide)) (fun M1344 k1345 => ?_)
                exact ⟨_, rfl, (Kl.trans (Kl.wM (Kl.wM (Kl.wM (Kl.wM (Kl.trans k1332 (Kl.mono k1337 C0_C1)) rfl eM1340) rfl eM1341) rfl eM1342) rfl eM1343) (Kl.mono k1345 (oneL_S (fun _ => rfl))))⟩
        exact LP1329 _ 0 M Kl.rf (by decide) fu_up
      · unfold J_PotSearch_tryHeats_98
        have LP1349 : ∀ (f1346 : Nat) (v1350 : Int32) (M1351 : gM), Kl C1 M zL M1351 zL → ¬ v1350 < 0 → ((if (M 391 10) < (M 391 8) then (M 391 10) else (M 391 8)).toInt - v1350.toInt).toNat < f1346 → Ok (H_PotSearch_tryHeats_103 Ld1 p2 (if (M 391 10) < (M 391 8) then (M 391 10) else (M 391 8)) f1346 v1350 M1351) (fun M' => Kl C1 M zL M' zL) := by
          intro f1346
          induction f1346 with
          | zero => intro v1350 M1351 _ _ hm1348; exact absurd hm1348 (Nat.not_lt_zero _)
          | succ f1346 ih1347 =>
            intro v1350 M1351 k1352 n1353 hm1348
            show Ok (B_PotSearch_tryHeats_103 Ld1 p2 (if (M 391 10) < (M 391 8) then (M 391 10) else (M 391 8)) (H_PotSearch_tryHeats_103 Ld1 p2 (if (M 391 10) < (M 391 8) then (M 391 10) else (M 391 8)) f1346) v1350 M1351) _
            unfold B_PotSearch_tryHeats_103
            refine Ok.ite (fun h1354 => ?_) (fun h1354 => ?_)
            · exact ⟨_, rfl, k1352⟩
            · refine Ok.c2 (tf_PotSearch_isEnough hLd1) (fun r1355 M1356 ⟨hbr1355, k1357⟩ => ?_)
              refine Ok.ite (fun h1358 => ?_) (fun h1358 => ?_)
              · refine Ok.nmI (fun x1359 ex1359 => ?_)
                exact ih1347 x1359 M1356 (Kl.trans k1352 (Kl.mono k1357 C0_C1)) (nn_up (y := (if (M 391 10) < (M 391 8) then (M 391 10) else (M 391 8))) h1354 ex1359 n1353) (md_up h1354 ex1359 hm1348)
              · unfold J_PotSearch_tryHeats_121
                refine Ok.nmM (fun M1360 eM1360 => ?_)
                refine Ok.nmM (fun M1361 eM1361 => ?_)
                refine Ok.nmM (fun M1362 eM1362 => ?_)
                refine Ok.nmM (fun M1363 eM1363 => ?_)
                refine Ok.c1 (tf_Main_copyRow (by decide) (by decide)) (fun M1364 k1365 => ?_)
                exact ⟨_, rfl, (Kl.trans (Kl.wM (Kl.wM (Kl.wM (Kl.wM (Kl.trans k1352 (Kl.mono k1357 C0_C1)) rfl eM1360) rfl eM1361) rfl eM1362) rfl eM1363) (Kl.mono k1365 (oneL_S (fun _ => rfl))))⟩
        exact LP1349 _ 0 M Kl.rf (by decide) fu_up
    · refine Ok.ite (fun h1366 => ?_) (fun h1366 => ?_)
      · refine Ok.ite (fun h1367 => ?_) (fun h1367 => ?_)
        · unfold J_PotSearch_tryHeats_75
          refine Ok.ite (fun h1368 => ?_) (fun h1368 => ?_)
          · unfold J_PotSearch_tryHeats_98
            have LP1372 : ∀ (f1369 : Nat) (v1373 : Int32) (M1374 : gM), Kl C1 M zL M1374 zL → ¬ v1373 < 0 → ((M 391 10).toInt - v1373.toInt).toNat < f1369 → Ok (H_PotSearch_tryHeats_103 Ld1 p2 (M 391 10) f1369 v1373 M1374) (fun M' => Kl C1 M zL M' zL) := by
              intro f1369
              induction f1369 with
              | zero => intro v1373 M1374 _ _ hm1371; exact absurd hm1371 (Nat.not_lt_zero _)
              | succ f1369 ih1370 =>
                intro v1373 M1374 k1375 n1376 hm1371
                show Ok (B_PotSearch_tryHeats_103 Ld1 p2 (M 391 10) (H_PotSearch_tryHeats_103 Ld1 p2 (M 391 10) f1369) v1373 M1374) _
                unfold B_PotSearch_tryHeats_103
                refine Ok.ite (fun h1377 => ?_) (fun h1377 => ?_)
                · exact ⟨_, rfl, k1375⟩
                · refine Ok.c2 (tf_PotSearch_isEnough hLd1) (fun r1378 M1379 ⟨hbr1378, k1380⟩ => ?_)
                  refine Ok.ite (fun h1381 => ?_) (fun h1381 => ?_)
                  · refine Ok.nmI (fun x1382 ex1382 => ?_)
                    exact ih1370 x1382 M1379 (Kl.trans k1375 (Kl.mono k1380 C0_C1)) (nn_up (y := (M 391 10)) h1377 ex1382 n1376) (md_up h1377 ex1382 hm1371)
                  · unfold J_PotSearch_tryHeats_121
                    refine Ok.nmM (fun M1383 eM1383 => ?_)
                    refine Ok.nmM (fun M1384 eM1384 => ?_)
                    refine Ok.nmM (fun M1385 eM1385 => ?_)
                    refine Ok.nmM (fun M1386 eM1386 => ?_)
                    refine Ok.c1 (tf_Main_copyRow (by decide) (by decide)) (fun M1387 k1388 => ?_)
                    exact ⟨_, rfl, (Kl.trans (Kl.wM (Kl.wM (Kl.wM (Kl.wM (Kl.trans k1375 (Kl.mono k1380 C0_C1)) rfl eM1383) rfl eM1384) rfl eM1385) rfl eM1386) (Kl.mono k1388 (oneL_S (fun _ => rfl))))⟩
            exact LP1372 _ 0 M Kl.rf (by decide) fu_up
          · unfold J_PotSearch_tryHeats_98
            have LP1392 : ∀ (f1389 : Nat) (v1393 : Int32) (M1394 : gM), Kl C1 M zL M1394 zL → ¬ v1393 < 0 → ((if (M 391 10) < (M 391 8) then (M 391 10) else (M 391 8)).toInt - v1393.toInt).toNat < f1389 → Ok (H_PotSearch_tryHeats_103 Ld1 p2 (if (M 391 10) < (M 391 8) then (M 391 10) else (M 391 8)) f1389 v1393 M1394) (fun M' => Kl C1 M zL M' zL) := by
              intro f1389
              induction f1389 with
              | zero => intro v1393 M1394 _ _ hm1391; exact absurd hm1391 (Nat.not_lt_zero _)
              | succ f1389 ih1390 =>
                intro v1393 M1394 k1395 n1396 hm1391
                show Ok (B_PotSearch_tryHeats_103 Ld1 p2 (if (M 391 10) < (M 391 8) then (M 391 10) else (M 391 8)) (H_PotSearch_tryHeats_103 Ld1 p2 (if (M 391 10) < (M 391 8) then (M 391 10) else (M 391 8)) f1389) v1393 M1394) _
                unfold B_PotSearch_tryHeats_103
                refine Ok.ite (fun h1397 => ?_) (fun h1397 => ?_)
                · exact ⟨_, rfl, k1395⟩
                · refine Ok.c2 (tf_PotSearch_isEnough hLd1) (fun r1398 M1399 ⟨hbr1398, k1400⟩ => ?_)
                  refine Ok.ite (fun h1401 => ?_) (fun h1401 => ?_)
                  · refine Ok.nmI (fun x1402 ex1402 => ?_)
                    exact ih1390 x1402 M1399 (Kl.trans k1395 (Kl.mono k1400 C0_C1)) (nn_up (y := (if (M 391 10) < (M 391 8) then (M 391 10) else (M 391 8))) h1397 ex1402 n1396) (md_up h1397 ex1402 hm1391)
                  · unfold J_PotSearch_tryHeats_121
                    refine Ok.nmM (fun M1403 eM1403 => ?_)
                    refine Ok.nmM (fun M1404 eM1404 => ?_)
                    refine Ok.nmM (fun M1405 eM1405 => ?_)
                    refine Ok.nmM (fun M1406 eM1406 => ?_)
                    refine Ok.c1 (tf_Main_copyRow (by decide) (by decide)) (fun M1407 k1408 => ?_)
                    exact ⟨_, rfl, (Kl.trans (Kl.wM (Kl.wM (Kl.wM (Kl.wM (Kl.trans k1395 (Kl.mono k1400 C0_C1)) rfl eM1403) rfl eM1404) rfl eM1405) rfl eM1406) (Kl.mono k1408 (oneL_S (fun _ => rfl))))⟩
            exact LP1392 _ 0 M Kl.rf (by decide) fu_up
        · unfold J_PotSearch_tryHeats_74
          unfold J_PotSearch_tryHeats_75
          refine Ok.ite (fun h1409 => ?_) (fun h1409 => ?_)
          · unfold J_PotSearch_tryHeats_98
            have LP1413 : ∀ (f1410 : Nat) (v1414 : Int32) (M1415 : gM), Kl C1 M zL M1415 zL → ¬ v1414 < 0 → ((M 391 10).toInt - v1414.toInt).toNat < f1410 → Ok (H_PotSearch_tryHeats_103 Ld1 p2 (M 391 10) f1410 v1414 M1415) (fun M' => Kl C1 M zL M' zL) := by
              intro f1410
              induction f1410 with
              | zero => intro v1414 M1415 _ _ hm1412; exact absurd hm1412 (Nat.not_lt_zero _)
              | succ f1410 ih1411 =>
                intro v1414 M1415 k1416 n1417 hm1412
                show Ok (B_PotSearch_tryHeats_103 Ld1 p2 (M 391 10) (H_PotSearch_tryHeats_103 Ld1 p2 (M 391 10) f1410) v1414 M1415) _
                unfold B_PotSearch_tryHeats_103
                refine Ok.ite (fun h1418 => ?_) (fun h1418 => ?_)
                · exact ⟨_, rfl, k1416⟩
                · refine Ok.c2 (tf_PotSearch_isEnough hLd1) (fun r1419 M1420 ⟨hbr1419, k1421⟩ => ?_)
                  refine Ok.ite (fun h1422 => ?_) (fun h1422 => ?_)
                  · refine Ok.nmI (fun x1423 ex1423 => ?_)
                    exact ih1411 x1423 M1420 (Kl.trans k1416 (Kl.mono k1421 C0_C1)) (nn_up (y := (M 391 10)) h1418 ex1423 n1417) (md_up h1418 ex1423 hm1412)
                  · unfold J_PotSearch_tryHeats_121
                    refine Ok.nmM (fun M1424 eM1424 => ?_)
                    refine Ok.nmM (fun M1425 eM1425 => ?_)
                    refine Ok.nmM (fun M1426 eM1426 => ?_)
                    refine Ok.nmM (fun M1427 eM1427 => ?_)
                    refine Ok.c1 (tf_Main_copyRow (by decide) (by decide)) (fun M1428 k1429 => ?_)
                    exact ⟨_, rfl, (Kl.trans (Kl.wM (Kl.wM (Kl.wM (Kl.wM (Kl.trans k1416 (Kl.mono k1421 C0_C1)) rfl eM1424) rfl eM1425) rfl eM1426) rfl eM1427) (Kl.mono k1429 (oneL_S (fun _ => rfl))))⟩
            exact LP1413 _ 0 M Kl.rf (by decide) fu_up
          · unfold J_PotSearch_tryHeats_98
            have LP1433 : ∀ (f1430 : Nat) (v1434 : Int32) (M1435 : gM), Kl C1 M zL M1435 zL → ¬ v1434 < 0 → ((if (M 391 10) < (M 391 8) then (M 391 10) else (M 391 8)).toInt - v1434.toInt).toNat < f1430 → Ok (H_PotSearch_tryHeats_103 Ld1 p2 (if (M 391 10) < (M 391 8) then (M 391 10) else (M 391 8)) f1430 v1434 M1435) (fun M' => Kl C1 M zL M' zL) := by
              intro f1430
              induction f1430 with
              | zero => intro v1434 M1435 _ _ hm1432; exact absurd hm1432 (Nat.not_lt_zero _)
              | succ f1430 ih1431 =>
                intro v1434 M1435 k1436 n1437 hm1432
                show Ok (B_PotSearch_tryHeats_103 Ld1 p2 (if (M 391 10) < (M 391 8) then (M 391 10) else (M 391 8)) (H_PotSearch_tryHeats_103 Ld1 p2 (if (M 391 10) < (M 391 8) then (M 391 10) else (M 391 8)) f1430) v1434 M1435) _
                unfold B_PotSearch_tryHeats_103
                refine Ok.ite (fun h1438 => ?_) (fun h1438 => ?_)
                · exact ⟨_, rfl, k1436⟩
                · refine Ok.c2 (tf_PotSearch_isEnough hLd1) (fun r1439 M1440 ⟨hbr1439, k1441⟩ => ?_)
                  refine Ok.ite (fun h1442 => ?_) (fun h1442 => ?_)
                  · refine Ok.nmI (fun x1443 ex1443 => ?_)
                    exact ih1431 x1443 M1440 (Kl.trans k1436 (Kl.mono k1441 C0_C1)) (nn_up (y := (if (M 391 10) < (M 391 8) then (M 391 10) else (M 391 8))) h1438 ex1443 n1437) (md_up h1438 ex1443 hm1432)
                  · unfold J_PotSearch_tryHeats_121
                    refine Ok.nmM (fun M1444 eM1444 => ?_)
                    refine Ok.nmM (fun M1445 eM1445 => ?_)
                    refine Ok.nmM (fun M1446 eM1446 => ?_)
                    refine Ok.nmM (fun M1447 eM1447 => ?_)
                    refine Ok.c1 (tf_Main_copyRow (by decide) (by decide)) (fun M1448 k1449 => ?_)
                    exact ⟨_, rfl, (Kl.trans (Kl.wM (Kl.wM (Kl.wM (Kl.wM (Kl.trans k1436 (Kl.mono k1441 C0_C1)) rfl eM1444) rfl eM1445) rfl eM1446) rfl eM1447) (Kl.mono k1449 (oneL_S (fun _ => rfl))))⟩
            exact LP1433 _ 0 M Kl.rf (by decide) fu_up
      · unfold J_PotSearch_tryHeats_74
        unfold J_PotSearch_tryHeats_75
        refine Ok.ite (fun h1450 => ?_) (fun h1450 => ?_)
        · unfold J_PotSearch_tryHeats_98
          have LP1454 : ∀ (f1451 : Nat) (v1455 : Int32) (M1456 : gM), Kl C1 M zL M1456 zL → ¬ v1455 < 0 → ((M 391 10).toInt - v1455.toInt).toNat < f1451 → Ok (H_PotSearch_tryHeats_103 Ld1 p2 (M 391 10) f1451 v1455 M1456) (fun M' => Kl C1 M zL M' zL) := by
            intro f1451
            induction f1451 with
            | zero => intro v1455 M1456 _ _ hm1453; exact absurd hm1453 (Nat.not_lt_zero _)
            | succ f1451 ih1452 =>
              intro v1455 M1456 k1457 n1458 hm1453
              show Ok (B_PotSearch_tryHeats_103 Ld1 p2 (M 391 10) (H_PotSearch_tryHeats_103 Ld1 p2 (M 391 10) f1451) v1455 M1456) _
              unfold B_PotSearch_tryHeats_103
              refine Ok.ite (fun h1459 => ?_) (fun h1459 => ?_)
              · exact ⟨_, rfl, k1457⟩
              · refine Ok.c2 (tf_PotSearch_isEnough hLd1) (fun r1460 M1461 ⟨hbr1460, k1462⟩ => ?_)
                refine Ok.ite (fun h1463 => ?_) (fun h1463 => ?_)
                · refine Ok.nmI (fun x1464 ex1464 => ?_)
                  exact ih1452 x1464 M1461 (Kl.trans k1457 (Kl.mono k1462 C0_C1)) (nn_up (y := (M 391 10)) h1459 ex1464 n1458) (md_up h1459 ex1464 hm1453)
                · unfold J_PotSearch_tryHeats_121
                  refine Ok.nmM (fun M1465 eM1465 => ?_)
                  refine Ok.nmM (fun M1466 eM1466 => ?_)
                  refine Ok.nmM (fun M1467 eM1467 => ?_)
                  refine Ok.nmM (fun M1468 eM1468 => ?_)
                  refine Ok.c1 (tf_Main_copyRow (by decide) (by decide)) (fun M1469 k1470 => ?_)
                  exact ⟨_, rfl, (Kl.trans (Kl.wM (Kl.wM (Kl.wM (Kl.wM (Kl.trans k1457 (Kl.mono k1462 C0_C1)) rfl eM1465) rfl eM1466) rfl eM1467) rfl eM1468) (Kl.mono k1470 (oneL_S (fun _ => rfl))))⟩
          exact LP1454 _ 0 M Kl.rf (by decide) fu_up
        · unfold J_PotSearch_tryHeats_98
          have LP1474 : ∀ (f1471 : Nat) (v1475 : Int32) (M1476 : gM), Kl C1 M zL M1476 zL → ¬ v1475 < 0 → ((if (M 391 10) < (M 391 8) then (M 391 10) else (M 391 8)).toInt - v1475.toInt).toNat < f1471 → Ok (H_PotSearch_tryHeats_103 Ld1 p2 (if (M 391 10) < (M 391 8) then (M 391 10) else (M 391 8)) f1471 v1475 M1476) (fun M' => Kl C1 M zL M' zL) := by
            intro f1471
            induction f1471 with
            | zero => intro v1475 M1476 _ _ hm1473; exact absurd hm1473 (Nat.not_lt_zero _)
            | succ f1471 ih1472 =>
              intro v1475 M1476 k1477 n1478 hm1473
              show Ok (B_PotSearch_tryHeats_103 Ld1 p2 (if (M 391 10) < (M 391 8) then (M 391 10) else (M 391 8)) (H_PotSearch_tryHeats_103 Ld1 p2 (if (M 391 10) < (M 391 8) then (M 391 10) else (M 391 8)) f1471) v1475 M1476) _
              unfold B_PotSearch_tryHeats_103
              refine Ok.ite (fun h1479 => ?_) (fun h1479 => ?_)
              · exact ⟨_, rfl, k1477⟩
              · refine Ok.c2 (tf_PotSearch_isEnough hLd1) (fun r1480 M1481 ⟨hbr1480, k1482⟩ => ?_)
                refine Ok.ite (fun h1483 => ?_) (fun h1483 => ?_)
                · refine Ok.nmI (fun x1484 ex1484 => ?_)
                  exact ih1472 x1484 M1481 (Kl.trans k1477 (Kl.mono k1482 C0_C1)) (nn_up (y := (if (M 391 10) < (M 391 8) then (M 391 10) else (M 391 8))) h1479 ex1484 n1478) (md_up h1479 ex1484 hm1473)
                · unfold J_PotSearch_tryHeats_121
                  refine Ok.nmM (fun M1485 eM1485 => ?_)
                  refine Ok.nmM (fun M1486 eM1486 => ?_)
                  refine Ok.nmM (fun M1487 eM1487 => ?_)
                  refine Ok.nmM (fun M1488 eM1488 => ?_)
                  refine Ok.c1 (tf_Main_copyRow (by decide) (by decide)) (fun M1489 k1490 => ?_)
                  exact ⟨_, rfl, (Kl.trans (Kl.wM (Kl.wM (Kl.wM (Kl.wM (Kl.trans k1477 (Kl.mono k1482 C0_C1)) rfl eM1485) rfl eM1486) rfl eM1487) rfl eM1488) (Kl.mono k1490 (oneL_S (fun _ => rfl))))⟩
          exact LP1474 _ 0 M Kl.rf (by decide) fu_up
  · refine Ok.ite (fun h1491 => ?_) (fun h1491 => ?_)
    · exact ⟨_, rfl, Kl.rf⟩
    · refine Ok.ite (fun h1492 => ?_) (fun h1492 => ?_)
      · refine Ok.ite (fun h1493 => ?_) (fun h1493 => ?_)
        · unfold J_PotSearch_tryHeats_41
          refine Ok.ite (fun h1494 => ?_) (fun h1494 => ?_)
          · unfold J_PotSearch_tryHeats_74
            unfold J_PotSearch_tryHeats_75
            refine Ok.ite (fun h1495 => ?_) (fun h1495 => ?_)
            · unfold J_PotSearch_tryHeats_98
              have LP1499 : ∀ (f1496 : Nat) (v1500 : Int32) (M1501 : gM), Kl C1 M zL M1501 zL → ¬ v1500 < 0 → ((M 391 10).toInt - v1500.toInt).toNat < f1496 → Ok (H_PotSearch_tryHeats_103 Ld1 p2 (M 391 10) f1496 v1500 M1501) (fun M' => Kl C1 M zL M' zL) := by
                intro f1496
                induction f1496 with
                | zero => intro v1500 M1501 _ _ hm1498; exact absurd hm1498 (Nat.not_lt_zero _)
                | succ f1496 ih1497 =>
                  intro v1500 M1501 k1502 n1503 hm1498
                  show Ok (B_PotSearch_tryHeats_103 Ld1 p2 (M 391 10) (H_PotSearch_tryHeats_103 Ld1 p2 (M 391 10) f1496) v1500 M1501) _
                  unfold B_PotSearch_tryHeats_103
                  refine Ok.ite (fun h1504 => ?_) (fun h1504 => ?_)
                  · exact ⟨_, rfl, k1502⟩
                  · refine Ok.c2 (tf_PotSearch_isEnough hLd1) (fun r1505 M1506 ⟨hbr1505, k1507⟩ => ?_)
                    refine Ok.ite (fun h1508 => ?_) (fun h1508 => ?_)
                    · refine Ok.nmI (fun x1509 ex1509 => ?_)
                      exact ih1497 x1509 M1506 (Kl.trans k1502 (Kl.mono k1507 C0_C1)) (nn_up (y := (M 391 10)) h1504 ex1509 n1503) (md_up h1504 ex1509 hm1498)
                    · unfold J_PotSearch_tryHeats_121
                      refine Ok.nmM (fun M1510 eM1510 => ?_)
                      refine Ok.nmM (fun M1511 eM1511 => ?_)
                      refine Ok.nmM (fun M1512 eM1512 => ?_)
                      refine Ok.nmM (fun M1513 eM1513 => ?_)
                      refine Ok.c1 (tf_Main_copyRow (by decide) (by decide)) (fun M1514 k1515 => ?_)
                      exact ⟨_, rfl, (Kl.trans (Kl.wM (Kl.wM (Kl.wM (Kl.wM (Kl.trans k1502 (Kl.mono k1507 C0_C1)) rfl eM1510) rfl eM1511) rfl eM1512) rfl eM1513) (Kl.mono k1515 (oneL_S (fun _ => rfl))))⟩
              exact LP1499 _ 0 M Kl.rf (by decide) fu_up
            · unfold J_PotSearch_tryHeats_98
              have LP1519 : ∀ (f1516 : Nat) (v1520 : Int32) (M1521 : gM), Kl C1 M zL M1521 zL → ¬ v1520 < 0 → ((if (M 391 10) < (M 391 8) then (M 391 10) else (M 391 8)).toInt - v1520.toInt).toNat < f1516 → Ok (H_PotSearch_tryHeats_103 Ld1 p2 (if (M 391 10) < (M 391 8) then (M 391 10) else (M 391 8)) f1516 v1520 M1521) (fun M' => Kl C1 M zL M' zL) := by
                intro f1516
                induction f1516 with
                | zero => intro v1520 M1521 _ _ hm1518; exact absurd hm1518 (Nat.not_lt_zero _)
                | succ f1516 ih1517 =>
                  intro v1520 M1521 k1522 n1523 hm1518
                  show Ok (B_PotSearch_tryHeats_103 Ld1 p2 (if (M 391 10) < (M 391 8) then (M 391 10) else (M 391 8)) (H_PotSearch_tryHeats_103 Ld1 p2 (if (M 391 10) < (M 391 8) then (M 391 10) else (M 391 8)) f1516) v1520 M1521) _
                  unfold B_PotSearch_tryHeats_103
                  refine Ok.ite (fun h1524 => ?_) (fun h1524 => ?_)
                  · exact ⟨_, rfl, k1522⟩
                  · refine Ok.c2 (tf_PotSearch_isEnough hLd1) (fun r1525 M1526 ⟨hbr1525, k1527⟩ => ?_)
                    refine Ok.ite (fun h1528 => ?_) (fun h1528 => ?_)
                    · refine Ok.nmI (fun x1529 ex1529 => ?_)
                      exact ih1517 x1529 M1526 (Kl.trans k1522 (Kl.mono k1527 C0_C1)) (nn_up (y := (if (M 391 10) < (M 391 8) then (M 391 10) else (M 391 8))) h1524 ex1529 n1523) (md_up h1524 ex1529 hm1518)
                    · unfold J_PotSearch_tryHeats_121
                      refine Ok.nmM (fun M1530 eM1530 => ?_)
                      refine Ok.nmM (fun M1531 eM1531 => ?_)
                      refine Ok.nmM (fun M1532 eM1532 => ?_)
                      refine Ok.nmM (fun M1533 eM1533 => ?_)
                      refine Ok.c1 (tf_Main_copyRow (by decide) (by decide)) (fun M1534 k1535 => ?_)
                      exact ⟨_, rfl, (Kl.trans (Kl.wM (Kl.wM (Kl.wM (Kl.wM (Kl.trans k1522 (Kl.mono k1527 C0_C1)) rfl eM1530) rfl eM1531) rfl eM1532) rfl eM1533) (Kl.mono k1535 (oneL_S (fun _ => rfl))))⟩
              exact LP1519 _ 0 M Kl.rf (by decide) fu_up
          · refine Ok.ite (fun h1536 => ?_) (fun h1536 => ?_)
            · refine Ok.ite (fun h1537 => ?_) (fun h1537 => ?_)
              · unfold J_PotSearch_tryHeats_75
                refine Ok.ite (fun h1538 => ?_) (fun h1538 => ?_)
                · unfold J_PotSearch_tryHeats_98
                  have LP1542 : ∀ (f1539 : Nat) (v1543 : Int32) (M1544 : gM), Kl C1 M zL M1544 zL → ¬ v1543 < 0 → ((M 391 10).toInt - v1543.toInt).toNat < f1539 → Ok (H_PotSearch_tryHeats_103 Ld1 p2 (M 391 10) f1539 v1543 M1544) (fun M' => Kl C1 M zL M' zL) := by
                    intro f1539
                    induction f1539 with
                    | zero => intro v1543 M1544 _ _ hm1541; exact absurd hm1541 (Nat.not_lt_zero _)
                    | succ f1539 ih1540 =>
                      intro v1543 M1544 k1545 n1546 hm1541
                      show Ok (B_PotSearch_tryHeats_103 Ld1 p2 (M 391 10) (H_PotSearch_tryHeats_103 Ld1 p2 (M 391 10) f1539) v1543 M1544) _
                      unfold B_PotSearch_tryHeats_103
                      refine Ok.ite (fun h1547 => ?_) (fun h1547 => ?_)
                      · exact ⟨_, rfl, k1545⟩
                      · refine Ok.c2 (tf_PotSearch_isEnough hLd1) (fun r1548 M1549 ⟨hbr1548, k1550⟩ => ?_)
                        refine Ok.ite (fun h1551 => ?_) (fun h1551 => ?_)
                        · refine Ok.nmI (fun x1552 ex1552 => ?_)
                          exact ih1540 x1552 M1549 (Kl.trans k1545 (Kl.mono k1550 C0_C1)) (nn_up (y := (M 391 10)) h1547 ex1552 n1546) (md_up h1547 ex1552 hm1541)
                        · unfold J_PotSearch_tryHeats_121
                          refine Ok.nmM (fun M1553 eM1553 => ?_)
                          refine Ok.nmM (fun M1554 eM1554 => ?_)
                          refine Ok.nmM (fun M1555 eM1555 => ?_)
                          refine Ok.nmM (fun M1556 eM1556 => ?_)
                          refine Ok.c1 (tf_Main_copyRow (by decide) (by decide)) (fun M1557 k1558 => ?_)
                          exact ⟨_, rfl, (Kl.trans (Kl.wM (Kl.wM (Kl.wM (Kl.wM (Kl.trans k1545 (Kl.mono k1550 C0_C1)) rfl eM1553) rfl eM1554) rfl eM1555) rfl eM1556) (Kl.mono k1558 (oneL_S (fun _ => rfl))))⟩
                  exact LP1542 _ 0 M Kl.rf (by decide) fu_up
                · unfold J_PotSearch_tryHeats_98
                  have LP1562 : ∀ (f1559 : Nat) (v1563 : Int32) (M1564 : gM), Kl C1 M zL M1564 zL → ¬ v1563 < 0 → ((if (M 391 10) < (M 391 8) then (M 391 10) else (M 391 8)).toInt - v1563.toInt).toNat < f1559 → Ok (H_PotSearch_tryHeats_103 Ld1 p2 (if (M 391 10) < (M 391 8) then (M 391 10) else (M 391 8)) f1559 v1563 M1564) (fun M' => Kl C1 M zL M' zL) := by
                    intro f1559
                    induction f1559 with
                    | zero => intro v1563 M1564 _ _ hm1561; exact absurd hm1561 (Nat.not_lt_zero _)
                    | succ f1559 ih1560 =>
                      intro v1563 M1564 k1565 n1566 hm1561
                      show Ok (B_PotSearch_tryHeats_103 Ld1 p2 (if (M 391 10) < (M 391 8) then (M 391 10) else (M 391 8)) (H_PotSearch_tryHeats_103 Ld1 p2 (if (M 391 10) < (M 391 8) then (M 391 10) else (M 391 8)) f1559) v1563 M1564) _
                      unfold B_PotSearch_tryHeats_103
                      refine Ok.ite (fun h1567 => ?_) (fun h1567 => ?_)
                      · exact ⟨_, rfl, k1565⟩
                      · refine Ok.c2 (tf_PotSearch_isEnough hLd1) (fun r1568 M1569 ⟨hbr1568, k1570⟩ => ?_)
                        refine Ok.ite (fun h1571 => ?_) (fun h1571 => ?_)
                        · refine Ok.nmI (fun x1572 ex1572 => ?_)
                          exact ih1560 x1572 M1569 (Kl.trans k1565 (Kl.mono k1570 C0_C1)) (nn_up (y := (if (M 391 10) < (M 391 8) then (M 391 10) else (M 391 8))) h1567 ex1572 n1566) (md_up h1567 ex1572 hm1561)
                        · unfold J_PotSearch_tryHeats_121
                          refine Ok.nmM (fun M1573 eM1573 => ?_)
                          refine Ok.nmM (fun M1574 eM1574 => ?_)
                          refine Ok.nmM (fun M1575 eM1575 => ?_)
                          refine Ok.nmM (fun M1576 eM1576 => ?_)
                          refine Ok.c1 (tf_Main_copyRow (by decide) (by decide)) (fun M1577 k1578 => ?_)
                          exact ⟨_, rfl, (Kl.trans (Kl.wM (Kl.wM (Kl.wM (Kl.wM (Kl.trans k1565 (Kl.mono k1570 C0_C1)) rfl eM1573) rfl eM1574) rfl eM1575) rfl eM1576) (Kl.mono k1578 (oneL_S (fun _ => rfl))))⟩
                  exact LP1562 _ 0 M Kl.rf (by decide) fu_up
              · unfold J_PotSearch_tryHeats_74
                unfold J_PotSearch_tryHeats_75
                refine Ok.ite (fun h1579 => ?_) (fun h1579 => ?_)
                · unfold J_PotSearch_tryHeats_98
                  have LP1583 : ∀ (f1580 : Nat) (v1584 : Int32) (M1585 : gM), Kl C1 M zL M1585 zL → ¬ v1584 < 0 → ((M 391 10).toInt - v1584.toInt).toNat < f1580 → Ok (H_PotSearch_tryHeats_103 Ld1 p2 (M 391 10) f1580 v1584 M1585) (fun M' => Kl C1 M zL M' zL) := by
                    intro f1580
                    induction f1580 with
                    | zero => intro v1584 M1585 _ _ hm1582; exact absurd hm1582 (Nat.not_lt_zero _)
                    | succ f1580 ih1581 =>
                      intro v1584 M1585 k1586 n1587 hm1582
                      show Ok (B_PotSearch_tryHeats_103 Ld1 p2 (M 391 10) (H_PotSearch_tryHeats_103 Ld1 p2 (M 391 10) f1580) v1584 M1585) _
                      unfold B_PotSearch_tryHeats_103
                      refine Ok.ite (fun h1588 => ?_) (fun h1588 => ?_)
                      · exact ⟨_, rfl, k1586⟩
                      · refine Ok.c2 (tf_PotSearch_isEnough hLd1) (fun r1589 M1590 ⟨hbr1589, k1591⟩ => ?_)
                        refine Ok.ite (fun h1592 => ?_) (fun h1592 => ?_)
                        · refine Ok.nmI (fun x1593 ex1593 => ?_)
                          exact ih1581 x1593 M1590 (Kl.trans k1586 (Kl.mono k1591 C0_C1)) (nn_up (y := (M 391 10)) h1588 ex1593 n1587) (md_up h1588 ex1593 hm1582)
                        · unfold J_PotSearch_tryHeats_121
                          refine Ok.nmM (fun M1594 eM1594 => ?_)
                          refine Ok.nmM (fun M1595 eM1595 => ?_)
                          refine Ok.nmM (fun M1596 eM1596 => ?_)
                          refine Ok.nmM (fun M1597 eM1597 => ?_)
                          refine Ok.c1 (tf_Main_copyRow (by decide) (by decide)) (fun M1598 k1599 => ?_)
                          exact ⟨_, rfl, (Kl.trans (Kl.wM (Kl.wM (Kl.wM (Kl.wM (Kl.trans k1586 (Kl.mono k1591 C0_C1)) rfl eM1594) rfl eM1595) rfl eM1596) rfl eM1597) (Kl.mono k1599 (oneL_S (fun _ => rfl))))⟩
                  exact LP1583 _ 0 M Kl.rf (by decide) fu_up
                · unfold J_PotSearch_tryHeats_98
                  have LP1603 : ∀ (f1600 : Nat) (v1604 : Int32) (M1605 : gM), Kl C1 M zL M1605 zL → ¬ v1604 < 0 → ((if (M 391 10) < (M 391 8) then (M 391 10) else (M 391 8)).toInt - v1604.toInt).toNat < f1600 → Ok (H_PotSearch_tryHeats_103 Ld1 p2 (if (M 391 10) < (M 391 8) then (M 391 10) else (M 391 8)) f1600 v1604 M1605) (fun M' => Kl C1 M zL M' zL) := by
                    intro f1600
                    induction f1600 with
                    | zero => intro v1604 M1605 _ _ hm1602; exact absurd hm1602 (Nat.not_lt_zero _)
                    | succ f1600 ih1601 =>
                      intro v1604 M1605 k1606 n1607 hm1602
                      show Ok (B_PotSearch_tryHeats_103 Ld1 p2 (if (M 391 10) < (M 391 8) then (M 391 10) else (M 391 8)) (H_PotSearch_tryHeats_103 Ld1 p2 (if (M 391 10) < (M 391 8) then (M 391 10) else (M 391 8)) f1600) v1604 M1605) _
                      unfold B_PotSearch_tryHeats_103
                      refine Ok.ite (fun h1608 => ?_) (fun h1608 => ?_)
                      · exact ⟨_, rfl, k1606⟩
                      · refine Ok.c2 (tf_PotSearch_isEnough hLd1) (fun r1609 M1610 ⟨hbr1609, k1611⟩ => ?_)
                        refine Ok.ite (fun h1612 => ?_) (fun h1612 => ?_)
                        · refine Ok.nmI (fun x1613 ex1613 => ?_)
                          exact ih1601 x1613 M1610 (Kl.trans k1606 (Kl.mono k1611 C0_C1)) (nn_up (y := (if (M 391 10) < (M 391 8) then (M 391 10) else (M 391 8))) h1608 ex1613 n1607) (md_up h1608 ex1613 hm1602)
                        · unfold J_PotSearch_tryHeats_121
                          refine Ok.nmM (fun M1614 eM1614 => ?_)
                          refine Ok.nmM (fun M1615 eM1615 => ?_)
                          refine Ok.nmM (fun M1616 eM1616 => ?_)
                          refine Ok.nmM (fun M1617 eM1617 => ?_)
                          refine Ok.c1 (tf_Main_copyRow (by decide) (by decide)) (fun M1618 k1619 => ?_)
                          exact ⟨_, rfl, (Kl.trans (Kl.wM (Kl.wM (Kl.wM (Kl.wM (Kl.trans k1606 (Kl.mono k1611 C0_C1)) rfl eM1614) rfl eM1615) rfl eM1616) rfl eM1617) (Kl.mono k1619 (oneL_S (fun _ => rfl))))⟩
                  exact LP1603 _ 0 M Kl.rf (by decide) fu_up
            · unfold J_PotSearch_tryHeats_74
              unfold J_PotSearch_tryHeats_75
              refine Ok.ite (fun h1620 => ?_) (fun h1620 => ?_)
              · unfold J_PotSearch_tryHeats_98
                have LP1624 : ∀ (f1621 : Nat) (v1625 : Int32) (M1626 : gM), Kl C1 M zL M1626 zL → ¬ v1625 < 0 → ((M 391 10).toInt - v1625.toInt).toNat < f1621 → Ok (H_PotSearch_tryHeats_103 Ld1 p2 (M 391 10) f1621 v1625 M1626) (fun M' => Kl C1 M zL M' zL) := by
                  intro f1621
                  induction f1621 with
                  | zero => intro v1625 M1626 _ _ hm1623; exact absurd hm1623 (Nat.not_lt_zero _)
                  | succ f1621 ih1622 =>
                    intro v1625 M1626 k1627 n1628 hm1623
                    show Ok (B_PotSearch_tryHeats_103 Ld1 p2 (M 391 10) (H_PotSearch_tryHeats_103 Ld1 p2 (M 391 10) f1621) v1625 M1626) _
                    unfold B_PotSearch_tryHeats_103
                    refine Ok.ite (fun h1629 => ?_) (fun h1629 => ?_)
                    · exact ⟨_, rfl, k1627⟩
                    · refine Ok.c2 (tf_PotSearch_isEnough hLd1) (fun r1630 M1631 ⟨hbr1630, k1632⟩ => ?_)
                      refine Ok.ite (fun h1633 => ?_) (fun h1633 => ?_)
                      · refine Ok.nmI (fun x1634 ex1634 => ?_)
                        exact ih1622 x1634 M1631 (Kl.trans k1627 (Kl.mono k1632 C0_C1)) (nn_up (y := (M 391 10)) h1629 ex1634 n1628) (md_up h1629 ex1634 hm1623)
                      · unfold J_PotSearch_tryHeats_121
                        refine Ok.nmM (fun M1635 eM1635 => ?_)
                        refine Ok.nmM (fun M1636 eM1636 => ?_)
                        refine Ok.nmM (fun M1637 eM1637 => ?_)
                        refine Ok.nmM (fun M1638 eM1638 => ?_)
                        refine Ok.c1 (tf_Main_copyRow (by decide) (by decide)) (fun M1639 k1640 => ?_)
                        exact ⟨_, rfl, (Kl.trans (Kl.wM (Kl.wM (Kl.wM (Kl.wM (Kl.trans k1627 (Kl.mono k1632 C0_C1)) rfl eM1635) rfl eM1636) rfl eM1637) rfl eM1638) (Kl.mono k1640 (oneL_S (fun _ => rfl))))⟩
                exact LP1624 _ 0 M Kl.rf (by decide) fu_up
              · unfold J_PotSearch_tryHeats_98
                have LP1644 : ∀ (f1641 : Nat) (v1645 : Int32) (M1646 : gM), Kl C1 M zL M1646 zL → ¬ v1645 < 0 → ((if (M 391 10) < (M 391 8) then (M 391 10) else (M 391 8)).toInt - v1645.toInt).toNat < f1641 → Ok (H_PotSearch_tryHeats_103 Ld1 p2 (if (M 391 10) < (M 391 8) then (M 391 10) else (M 391 8)) f1641 v1645 M1646) (fun M' => Kl C1 M zL M' zL) := by
                  intro f1641
                  induction f1641 with
                  | zero => intro v1645 M1646 _ _ hm1643; exact absurd hm1643 (Nat.not_lt_zero _)
                  | succ f1641 ih1642 =>
                    intro v1645 M1646 k1647 n1648 hm1643
                    show Ok (B_PotSearch_tryHeats_103 Ld1 p2 (if (M 391 10) < (M 391 8) then (M 391 10) else (M 391 8)) (H_PotSearch_tryHeats_103 Ld1 p2 (if (M 391 10) < (M 391 8) then (M 391 10) else (M 391 8)) f1641) v1645 M1646) _
                    unfold B_PotSearch_tryHeats_103
                    refine Ok.ite (fun h1649 => ?_) (fun h1649 => ?_)
                    · exact ⟨_, rfl, k1647⟩
                    · refine Ok.c2 (tf_PotSearch_isEnough hLd1) (fun r1650 M1651 ⟨hbr1650, k1652⟩ => ?_)
                      refine Ok.ite (fun h1653 => ?_) (fun h1653 => ?_)
                      · refine Ok.nmI (fun x1654 ex1654 => ?_)
                        exact ih1642 x1654 M1651 (Kl.trans k1647 (Kl.mono k1652 C0_C1)) (nn_up (y := (if (M 391 10) < (M 391 8) then (M 391 10) else (M 391 8))) h1649 ex1654 n1648) (md_up h1649 ex1654 hm1643)
                      · unfold J_PotSearch_tryHeats_121
                        refine Ok.nmM (fun M1655 eM1655 => ?_)
                        refine Ok.nmM (fun M1656 eM1656 => ?_)
                        refine Ok.nmM (fun M1657 eM1657 => ?_)
                        refine Ok.nmM (fun M1658 eM1658 => ?_)
                        refine Ok.c1 (tf_Main_copyRow (by decide) (by decide)) (fun M1659 k1660 => ?_)
                        exact ⟨_, rfl, (Kl.trans (Kl.wM (Kl.wM (Kl.wM (Kl.wM (Kl.trans k1647 (Kl.mono k1652 C0_C1)) rfl eM1655) rfl eM1656) rfl eM1657) rfl eM1658) (Kl.mono k1660 (oneL_S (fun _ => rfl))))⟩
                exact LP1644 _ 0 M Kl.rf (by decide) fu_up
        · exact ⟨_, rfl, Kl.rf⟩
      · unfold J_PotSearch_tryHeats_41
        refine Ok.ite (fun h1661 => ?_) (fun h1661 => ?_)
        · unfold J_PotSearch_tryHeats_74
          unfold J_PotSearch_tryHeats_75
          refine Ok.ite (fun h1662 => ?_) (fun h1662 => ?_)
          · unfold J_PotSearch_tryHeats_98
            have LP1666 : ∀ (f1663 : Nat) (v1667 : Int32) (M1668 : gM), Kl C1 M zL M1668 zL → ¬ v1667 < 0 → ((M 391 10).toInt - v1667.toInt).toNat < f1663 → Ok (H_PotSearch_tryHeats_103 Ld1 p2 (M 391 10) f1663 v1667 M1668) (fun M' => Kl C1 M zL M' zL) := by
              intro f1663
              induction f1663 with
              | zero => intro v1667 M1668 _ _ hm1665; exact absurd hm1665 (Nat.not_lt_zero _)
              | succ f1663 ih1664 =>
                intro v1667 M1668 k1669 n1670 hm1665
                show Ok (B_PotSearch_tryHeats_103 Ld1 p2 (M 391 10) (H_PotSearch_tryHeats_103 Ld1 p2 (M 391 10) f1663) v1667 M1668) _
                unfold B_PotSearch_tryHeats_103
                refine Ok.ite (fun h1671 => ?_) (fun h1671 => ?_)
                · exact ⟨_, rfl, k1669⟩
                · refine Ok.c2 (tf_PotSearch_isEnough hLd1) (fun r1672 M1673 ⟨hbr1672, k1674⟩ => ?_)
                  refine Ok.ite (fun h1675 => ?_) (fun h1675 => ?_)
                  · refine Ok.nmI (fun x1676 ex1676 => ?_)
                    exact ih1664 x1676 M1673 (Kl.trans k1669 (Kl.mono k1674 C0_C1)) (nn_up (y := (M 391 10)) h1671 ex1676 n1670) (md_up h1671 ex1676 hm1665)
                  · unfold J_PotSearch_tryHeats_121
                    refine Ok.nmM (fun M1677 eM1677 => ?_)
                    refine Ok.nmM (fun M1678 eM1678 => ?_)
                    refine Ok.nmM (fun M1679 eM1679 => ?_)
                    refine Ok.nmM (fun M1680 eM1680 => ?_)
                    refine Ok.c1 (tf_Main_copyRow (by decide) (by decide)) (fun M1681 k1682 => ?_)
                    exact ⟨_, rfl, (Kl.trans (Kl.wM (Kl.wM (Kl.wM (Kl.wM (Kl.trans k1669 (Kl.mono k1674 C0_C1)) rfl eM1677) rfl eM1678) rfl eM1679) rfl eM1680) (Kl.mono k1682 (oneL_S (fun _ => rfl))))⟩
            exact LP1666 _ 0 M Kl.rf (by decide) fu_up
          · unfold J_PotSearch_tryHeats_98
            have LP1686 : ∀ (f1683 : Nat) (v1687 : Int32) (M1688 : gM), Kl C1 M zL M1688 zL → ¬ v1687 < 0 → ((if (M 391 10) < (M 391 8) then (M 391 10) else (M 391 8)).toInt - v1687.toInt).toNat < f1683 → Ok (H_PotSearch_tryHeats_103 Ld1 p2 (if (M 391 10) < (M 391 8) then (M 391 10) else (M 391 8)) f1683 v1687 M1688) (fun M' => Kl C1 M zL M' zL) := by
              intro f1683
              induction f1683 with
              | zero => intro v1687 M1688 _ _ hm1685; exact absurd hm1685 (Nat.not_lt_zero _)
              | succ f1683 ih1684 =>
                intro v1687 M1688 k1689 n1690 hm1685
                show Ok (B_PotSearch_tryHeats_103 Ld1 p2 (if (M 391 10) < (M 391 8) then (M 391 10) else (M 391 8)) (H_PotSearch_tryHeats_103 Ld1 p2 (if (M 391 10) < (M 391 8) then (M 391 10) else (M 391 8)) f1683) v1687 M1688) _
                unfold B_PotSearch_tryHeats_103
                refine Ok.ite (fun h1691 => ?_) (fun h1691 => ?_)
                · exact ⟨_, rfl, k1689⟩
                · refine Ok.c2 (tf_PotSearch_isEnough hLd1) (fun r1692 M1693 ⟨hbr1692, k1694⟩ => ?_)
                  refine Ok.ite (fun h1695 => ?_) (fun h1695 => ?_)
                  · refine Ok.nmI (fun x1696 ex1696 => ?_)
                    exact ih1684 x1696 M1693 (Kl.trans k1689 (Kl.mono k1694 C0_C1)) (nn_up (y := (if (M 391 10) < (M 391 8) then (M 391 10) else (M 391 8))) h1691 ex1696 n1690) (md_up h1691 ex1696 hm1685)
                  · unfold J_PotSearch_tryHeats_121
                    refine Ok.nmM (fun M1697 eM1697 => ?_)
                    refine Ok.nmM (fun M1698 eM1698 => ?_)
                    refine Ok.nmM (fun M1699 eM1699 => ?_)
                    refine Ok.nmM (fun M1700 eM1700 => ?_)
                    refine Ok.c1 (tf_Main_copyRow (by decide) (by decide)) (fun M1701 k1702 => ?_)
                    exact ⟨_, rfl, (Kl.trans (Kl.wM (Kl.wM (Kl.wM (Kl.wM (Kl.trans k1689 (Kl.mono k1694 C0_C1)) rfl eM1697) rfl eM1698) rfl eM1699) rfl eM1700) (Kl.mono k1702 (oneL_S (fun _ => rfl))))⟩
            exact LP1686 _ 0 M Kl.rf (by decide) fu_up
        · refine Ok.ite (fun h1703 => ?_) (fun h1703 => ?_)
          · refine Ok.ite (fun h1704 => ?_) (fun h1704 => ?_)
            · unfold J_PotSearch_tryHeats_75
              refine Ok.ite (fun h1705 => ?_) (fun h1705 => ?_)
              · unfold J_PotSearch_tryHeats_98
                have LP1709 : ∀ (f1706 : Nat) (v1710 : Int32) (M1711 : gM), Kl C1 M zL M1711 zL → ¬ v1710 < 0 → ((M 391 10).toInt - v1710.toInt).toNat < f1706 → Ok (H_PotSearch_tryHeats_103 Ld1 p2 (M 391 10) f1706 v1710 M1711) (fun M' => Kl C1 M zL M' zL) := by
                  intro f1706
                  induction f1706 with
                  | zero => intro v1710 M1711 _ _ hm1708; exact absurd hm1708 (Nat.not_lt_zero _)
                  | succ f1706 ih1707 =>
                    intro v1710 M1711 k1712 n1713 hm1708
                    show Ok (B_PotSearch_tryHeats_103 Ld1 p2 (M 391 10) (H_PotSearch_tryHeats_103 Ld1 p2 (M 391 10) f1706) v1710 M1711) _
                    unfold B_PotSearch_tryHeats_103
                    refine Ok.ite (fun h1714 => ?_) (fun h1714 => ?_)
                    · exact ⟨_, rfl, k1712⟩
                    · refine Ok.c2 (tf_PotSearch_isEnough hLd1) (fun r1715 M1716 ⟨hbr1715, k1717⟩ => ?_)
                      refine Ok.ite (fun h1718 => ?_) (fun h1718 => ?_)
                      · refine Ok.nmI (fun x1719 ex1719 => ?_)
                        exact ih1707 x1719 M1716 (Kl.trans k1712 (Kl.mono k1717 C0_C1)) (nn_up (y := (M 391 10)) h1714 ex1719 n1713) (md_up h1714 ex1719 hm1708)
                      · unfold J_PotSearch_tryHeats_121
                        refine Ok.nmM (fun M1720 eM1720 => ?_)
                        refine Ok.nmM (fun M1721 eM1721 => ?_)
                        refine Ok.nmM (fun M1722 eM1722 => ?_)
                        refine Ok.nmM (fun M1723 eM1723 => ?_)
                        refine Ok.c1 (tf_Main_copyRow (by decide) (by decide)) (fun M1724 k1725 => ?_)
                        exact ⟨_, rfl, (Kl.trans (Kl.wM (Kl.wM (Kl.wM (Kl.wM (Kl.trans k1712 (Kl.mono k1717 C0_C1)) rfl eM1720) rfl eM1721) rfl eM1722) rfl eM1723) (Kl.mono k1725 (oneL_S (fun _ => rfl))))⟩
                exact LP1709 _ 0 M Kl.rf (by decide) fu_up
              · unfold J_PotSearch_tryHeats_98
                have LP1729 : ∀ (f1726 : Nat) (v1730 : Int32) (M1731 : gM), Kl C1 M zL M1731 zL → ¬ v1730 < 0 → ((if (M 391 10) < (M 391 8) then (M 391 10) else (M 391 8)).toInt - v1730.toInt).toNat < f1726 → Ok (H_PotSearch_tryHeats_103 Ld1 p2 (if (M 391 10) < (M 391 8) then (M 391 10) else (M 391 8)) f1726 v1730 M1731) (fun M' => Kl C1 M zL M' zL) := by
                  intro f1726
                  induction f1726 with
                  | zero => intro v1730 M1731 _ _ hm1728; exact absurd hm1728 (Nat.not_lt_zero _)
                  | succ f1726 ih1727 =>
                    intro v1730 M1731 k1732 n1733 hm1728
                    show Ok (B_PotSearch_tryHeats_103 Ld1 p2 (if (M 391 10) < (M 391 8) then (M 391 10) else (M 391 8)) (H_PotSearch_tryHeats_103 Ld1 p2 (if (M 391 10) < (M 391 8) then (M 391 10) else (M 391 8)) f1726) v1730 M1731) _
                    unfold B_PotSearch_tryHeats_103
                    refine Ok.ite (fun h1734 => ?_) (fun h1734 => ?_)
                    · exact ⟨_, rfl, k1732⟩
                    · refine Ok.c2 (tf_PotSearch_isEnough hLd1) (fun r1735 M1736 ⟨hbr1735, k1737⟩ => ?_)
                      refine Ok.ite (fun h1738 => ?_) (fun h1738 => ?_)
                      · refine Ok.nmI (fun x1739 ex1739 => ?_)
                        exact ih1727 x1739 M1736 (Kl.trans k1732 (Kl.mono k1737 C0_C1)) (nn_up (y := (if (M 391 10) < (M 391 8) then (M 391 10) else (M 391 8))) h1734 ex1739 n1733) (md_up h1734 ex1739 hm1728)
                      · unfold J_PotSearch_tryHeats_121
                        refine Ok.nmM (fun M1740 eM1740 => ?_)
                        refine Ok.nmM (fun M1741 eM1741 => ?_)
                        refine Ok.nmM (fun M1742 eM1742 => ?_)
                        refine Ok.nmM (fun M1743 eM1743 => ?_)
                        refine Ok.c1 (tf_Main_copyRow (by decide) (by decide)) (fun M1744 k1745 => ?_)
                        exact ⟨_, rfl, (Kl.trans (Kl.wM (Kl.wM (Kl.wM (Kl.wM (Kl.trans k1732 (Kl.mono k1737 C0_C1)) rfl eM1740) rfl eM1741) rfl eM1742) rfl eM1743) (Kl.mono k1745 (oneL_S (fun _ => rfl))))⟩
                exact LP1729 _ 0 M Kl.rf (by decide) fu_up
            · unfold J_PotSearch_tryHeats_74
              unfold J_PotSearch_tryHeats_75
              refine Ok.ite (fun h1746 => ?_) (fun h1746 => ?_)
              · unfold J_PotSearch_tryHeats_98
                have LP1750 : ∀ (f1747 : Nat) (v1751 : Int32) (M1752 : gM), Kl C1 M zL M1752 zL → ¬ v1751 < 0 → ((M 391 10).toInt - v1751.toInt).toNat < f1747 → Ok (H_PotSearch_tryHeats_103 Ld1 p2 (M 391 10) f1747 v1751 M1752) (fun M' => Kl C1 M zL M' zL) := by
                  intro f1747
                  induction f1747 with
                  | zero => intro v1751 M1752 _ _ hm1749; exact absurd hm1749 (Nat.not_lt_zero _)
                  | succ f1747 ih1748 =>
                    intro v1751 M1752 k1753 n1754 hm1749
                    show Ok (B_PotSearch_tryHeats_103 Ld1 p2 (M 391 10) (H_PotSearch_tryHeats_103 Ld1 p2 (M 391 10) f1747) v1751 M1752) _
                    unfold B_PotSearch_tryHeats_103
                    refine Ok.ite (fun h1755 => ?_) (fun h1755 => ?_)
                    · exact ⟨_, rfl, k1753⟩
                    · refine Ok.c2 (tf_PotSearch_isEnough hLd1) (fun r1756 M1757 ⟨hbr1756, k1758⟩ => ?_)
                      refine Ok.ite (fun h1759 => ?_) (fun h1759 => ?_)
                      · refine Ok.nmI (fun x1760 ex1760 => ?_)
                        exact ih1748 x1760 M1757 (Kl.trans k1753 (Kl.mono k1758 C0_C1)) (nn_up (y := (M 391 10)) h1755 ex1760 n1754) (md_up h1755 ex1760 hm1749)
                      · unfold J_PotSearch_tryHeats_121
                        refine Ok.nmM (fun M1761 eM1761 => ?_)
                        refine Ok.nmM (fun M1762 eM1762 => ?_)
                        refine Ok.nmM (fun M1763 eM1763 => ?_)
                        refine Ok.nmM (fun M1764 eM1764 => ?_)
                        refine Ok.c1 (tf_Main_copyRow (by decide) (by decide)) (fun M1765 k1766 => ?_)
                        exact ⟨_, rfl, (Kl.trans (Kl.wM (Kl.wM (Kl.wM (Kl.wM (Kl.trans k1753 (Kl.mono k1758 C0_C1)) rfl eM1761) rfl eM1762) rfl eM1763) rfl eM1764) (Kl.mono k1766 (oneL_S (fun _ => rfl))))⟩
                exact LP1750 _ 0 M Kl.rf (by decide) fu_up
              · unfold J_PotSearch_tryHeats_98
                have LP1770 : ∀ (f1767 : Nat) (v1771 : Int32) (M1772 : gM), Kl C1 M zL M1772 zL → ¬ v1771 < 0 → ((if (M 391 10) < (M 391 8) then (M 391 10) else (M 391 8)).toInt - v1771.toInt).toNat < f1767 → Ok (H_PotSearch_tryHeats_103 Ld1 p2 (if (M 391 10) < (M 391 8) then (M 391 10) else (M 391 8)) f1767 v1771 M1772) (fun M' => Kl C1 M zL M' zL) := by
                  intro f1767
                  induction f1767 with
                  | zero => intro v1771 M1772 _ _ hm1769; exact absurd hm1769 (Nat.not_lt_zero _)
                  | succ f1767 ih1768 =>
                    intro v1771 M1772 k1773 n1774 hm1769
                    show Ok (B_PotSearch_tryHeats_103 Ld1 p2 (if (M 391 10) < (M 391 8) then (M 391 10) else (M 391 8)) (H_PotSearch_tryHeats_103 Ld1 p2 (if (M 391 10) < (M 391 8) then (M 391 10) else (M 391 8)) f1767) v1771 M1772) _
                    unfold B_PotSearch_tryHeats_103
                    refine Ok.ite (fun h1775 => ?_) (fun h1775 => ?_)
                    · exact ⟨_, rfl, k1773⟩
                    · refine Ok.c2 (tf_PotSearch_isEnough hLd1) (fun r1776 M1777 ⟨hbr1776, k1778⟩ => ?_)
                      refine Ok.ite (fun h1779 => ?_) (fun h1779 => ?_)
                      · refine Ok.nmI (fun x1780 ex1780 => ?_)
                        exact ih1768 x1780 M1777 (Kl.trans k1773 (Kl.mono k1778 C0_C1)) (nn_up (y := (if (M 391 10) < (M 391 8) then (M 391 10) else (M 391 8))) h1775 ex1780 n1774) (md_up h1775 ex1780 hm1769)
                      · unfold J_PotSearch_tryHeats_121
                        refine Ok.nmM (fun M1781 eM1781 => ?_)
                        refine Ok.nmM (fun M1782 eM1782 => ?_)
                        refine Ok.nmM (fun M1783 eM1783 => ?_)
                        refine Ok.nmM (fun M1784 eM1784 => ?_)
                        refine Ok.c1 (tf_Main_copyRow (by decide) (by decide)) (fun M1785 k1786 => ?_)
                        exact ⟨_, rfl, (Kl.trans (Kl.wM (Kl.wM (Kl.wM (Kl.wM (Kl.trans k1773 (Kl.mono k1778 C0_C1)) rfl eM1781) rfl eM1782) rfl eM1783) rfl eM1784) (Kl.mono k1786 (oneL_S (fun _ => rfl))))⟩
                exact LP1770 _ 0 M Kl.rf (by decide) fu_up
          · unfold J_PotSearch_tryHeats_74
            unfold J_PotSearch_tryHeats_75
            refine Ok.ite (fun h1787 => ?_) (fun h1787 => ?_)
            · unfold J_PotSearch_tryHeats_98
              have LP1791 : ∀ (f1788 : Nat) (v1792 : Int32) (M1793 : gM), Kl C1 M zL M1793 zL → ¬ v1792 < 0 → ((M 391 10).toInt - v1792.toInt).toNat < f1788 → Ok (H_PotSearch_tryHeats_103 Ld1 p2 (M 391 10) f1788 v1792 M1793) (fun M' => Kl C1 M zL M' zL) := by
                intro f1788
                induction f1788 with
                | zero => intro v1792 M1793 _ _ hm1790; exact absurd hm1790 (Nat.not_lt_zero _)
                | succ f1788 ih1789 =>
                  intro v1792 M1793 k1794 n1795 hm1790
                  show Ok (B_PotSearch_tryHeats_103 Ld1 p2 (M 391 10) (H_PotSearch_tryHeats_103 Ld1 p2 (M 391 10) f1788) v1792 M1793) _
                  unfold B_PotSearch_tryHeats_103
                  refine Ok.ite (fun h1796 => ?_) (fun h1796 => ?_)
                  · exact ⟨_, rfl, k1794⟩
                  · refine Ok.c2 (tf_PotSearch_isEnough hLd1) (fun r1797 M1798 ⟨hbr1797, k1799⟩ => ?_)
                    refine Ok.ite (fun h1800 => ?_) (fun h1800 => ?_)
                    · refine Ok.nmI (fun x1801 ex1801 => ?_)
                      exact ih1789 x1801 M1798 (Kl.trans k1794 (Kl.mono k1799 C0_C1)) (nn_up (y := (M 391 10)) h1796 ex1801 n1795) (md_up h1796 ex1801 hm1790)
                    · unfold J_PotSearch_tryHeats_121
                      refine Ok.nmM (fun M1802 eM1802 => ?_)
                      refine Ok.nmM (fun M1803 eM1803 => ?_)
                      refine Ok.nmM (fun M1804 eM1804 => ?_)
                      refine Ok.nmM (fun M1805 eM1805 => ?_)
                      refine Ok.c1 (tf_Main_copyRow (by decide) (by decide)) (fun M1806 k1807 => ?_)
                      exact ⟨_, rfl, (Kl.trans (Kl.wM (Kl.wM (Kl.wM (Kl.wM (Kl.trans k1794 (Kl.mono k1799 C0_C1)) rfl eM1802) rfl eM1803) rfl eM1804) rfl eM1805) (Kl.mono k1807 (oneL_S (fun _ => rfl))))⟩
              exact LP1791 _ 0 M Kl.rf (by decide) fu_up
            · unfold J_PotSearch_tryHeats_98
              have LP1811 : ∀ (f1808 : Nat) (v1812 : Int32) (M1813 : gM), Kl C1 M zL M1813 zL → ¬ v1812 < 0 → ((if (M 391 10) < (M 391 8) then (M 391 10) else (M 391 8)).toInt - v1812.toInt).toNat < f1808 → Ok (H_PotSearch_tryHeats_103 Ld1 p2 (if (M 391 10) < (M 391 8) then (M 391 10) else (M 391 8)) f1808 v1812 M1813) (fun M' => Kl C1 M zL M' zL) := by
                intro f1808
                induction f1808 with
                | zero => intro v1812 M1813 _ _ hm1810; exact absurd hm1810 (Nat.not_lt_zero _)
                | succ f1808 ih1809 =>
                  intro v1812 M1813 k1814 n1815 hm1810
                  show Ok (B_PotSearch_tryHeats_103 Ld1 p2 (if (M 391 10) < (M 391 8) then (M 391 10) else (M 391 8)) (H_PotSearch_tryHeats_103 Ld1 p2 (if (M 391 10) < (M 391 8) then (M 391 10) else (M 391 8)) f1808) v1812 M1813) _
                  unfold B_PotSearch_tryHeats_103
                  refine Ok.ite (fun h1816 => ?_) (fun h1816 => ?_)
                  · exact ⟨_, rfl, k1814⟩
                  · refine Ok.c2 (tf_PotSearch_isEnough hLd1) (fun r1817 M1818 ⟨hbr1817, k1819⟩ => ?_)
                    refine Ok.ite (fun h1820 => ?_) (fun h1820 => ?_)
                    · refine Ok.nmI (fun x1821 ex1821 => ?_)
                      exact ih1809 x1821 M1818 (Kl.trans k1814 (Kl.mono k1819 C0_C1)) (nn_up (y := (if (M 391 10) < (M 391 8) then (M 391 10) else (M 391 8))) h1816 ex1821 n1815) (md_up h1816 ex1821 hm1810)
                    · unfold J_PotSearch_tryHeats_121
                      refine Ok.nmM (fun M1822 eM1822 => ?_)
                      refine Ok.nmM (fun M1823 eM1823 => ?_)
                      refine Ok.nmM (fun M1824 eM1824 => ?_)
                      refine Ok.nmM (fun M1825 eM1825 => ?_)
                      refine Ok.c1 (tf_Main_copyRow (by decide) (by decide)) (fun M1826 k1827 => ?_)
                      exact ⟨_, rfl, (Kl.trans (Kl.wM (Kl.wM (Kl.wM (Kl.wM (Kl.trans k1814 (Kl.mono k1819 C0_C1)) rfl eM1822) rfl eM1823) rfl eM1824) rfl eM1825) (Kl.mono k1827 (oneL_S (fun _ => rfl))))⟩
              exact LP1811 _ 0 M Kl.rf (by decide) fu_up
set_option maxHeartbeats 4000000 in
set_option maxRecDepth 20000 in
theorem tf_State_freeOf {X0 : Nat} {Ld1 : Nat} {p2 : Int32} {p3 : Int32} {M : gM} (hX0 : isSt X0) (hLd1 : isLa Ld1) : ∃ r M', F_State_freeOf X0 Ld1 p2 p3 M = some (r, M') ∧ True ∧ Kl C0 M zL M' zL := by
  refine Ok.x2 (A := fun (r : Int32) (M' : gM) => True ∧ Kl C0 M zL M' zL) ?_
  unfold F_State_freeOf
  have LP1831 : ∀ (f1828 : Nat) (v1832 : Int32) (v1833 : Int32) (M1834 : gM), Kl C0 M zL M1834 zL → ¬ v1833 < 0 → ((3 : Int32).toInt - v1833.toInt).toNat < f1828 → Ok (H_State_freeOf_6 X0 Ld1 p2 p3 f1828 v1832 v1833 M1834) (fun q => True ∧ Kl C0 M zL q.2 zL) := by
    intro f1828
    induction f1828 with
    | zero => intro v1832 v1833 M1834 _ _ hm1830; exact absurd hm1830 (Nat.not_lt_zero _)
    | succ f1828 ih1829 =>
      intro v1832 v1833 M1834 k1835 n1836 hm1830
      show Ok (B_State_freeOf_6 X0 Ld1 p2 p3 (H_State_freeOf_6 X0 Ld1 p2 p3 f1828) v1832 v1833 M1834) _
      unfold B_State_freeOf_6
      refine Ok.ite (fun h1837 => ?_) (fun h1837 => ?_)
      · exact ⟨_, rfl, trivial, k1835⟩
      · refine Ok.c2 (tf_State_boundOf hX0 hLd1) (fun r1838 M1839 ⟨_, k1840⟩ => ?_)
        refine Ok.c1 (tf_Land_freeUnder hLd1) (fun r1841 _ => ?_)
        refine Ok.nmI (fun x1842 ex1842 => ?_)
        refine Ok.nmI (fun x1843 ex1843 => ?_)
        exact ih1829 x1842 x1843 M1839 (Kl.trans k1835 k1840) (nn_up (y := (3 : Int32)) h1837 ex1843 n1836) (md_up h1837 ex1843 hm1830)
  exact LP1831 _ 0 0 M Kl.rf (by decide) fu_up
set_option maxHeartbeats 4000000 in
set_option maxRecDepth 20000 in
theorem tf_State_slipInto {X0 : Nat} {Ld1 : Nat} {p2 : Int32} {p3 : Int32} {M : gM} (hX0 : isSt X0) (hLd1 : isLa Ld1) : ∃ r M', F_State_slipInto X0 Ld1 p2 p3 M = some (r, M') ∧ True ∧ Kl C0 M zL M' zL := by
  refine Ok.x2 (A := fun (r : Int32) (M' : gM) => True ∧ Kl C0 M zL M' zL) ?_
  unfold F_State_slipInto
  refine Ok.nmI (fun x1844 ex1844 => ?_)
  refine Ok.c1 (tf_Land_lot ) (fun r1845 _ => ?_)
  refine Ok.c2 (tf_Land_slipsOf hLd1) (fun r1846 M1847 ⟨_, k1848⟩ => ?_)
  refine Ok.ite (fun h1849 => ?_) (fun h1849 => ?_)
  · refine Ok.c1 (tf_Land_lot ) (fun r1850 _ => ?_)
    refine Ok.c1 (tf_Main_at (by decide)) (fun r1851 _ => ?_)
    refine Ok.c1 (tf_Land_inDish hLd1) (fun r1852 _ => ?_)
    refine Ok.ite (fun h1853 => ?_) (fun h1853 => ?_)
    · exact ⟨_, rfl, trivial, (Kl.trans Kl.rf k1848)⟩
    · exact ⟨_, rfl, trivial, (Kl.trans Kl.rf k1848)⟩
  · exact ⟨_, rfl, trivial, (Kl.trans Kl.rf k1848)⟩
set_option maxHeartbeats 4000000 in
set_option maxRecDepth 20000 in
theorem tf_Told_isAsKnown {Ld1 : Nat} {p2 : Int32} {p3 : Int32} {M : gM} (hLd1 : isLa Ld1) : ∃ r M', F_Told_isAsKnown Ld1 p2 p3 M = some (r, M') ∧ (r = 0 ∨ r = 1) ∧ Kl C0 M zL M' zL := by
  refine Ok.x2 (A := fun (r : Int32) (M' : gM) => (r = 0 ∨ r = 1) ∧ Kl C0 M zL M' zL) ?_
  unfold F_Told_isAsKnown
  have LP1857 : ∀ (f1854 : Nat) (v1858 : Int32) (M1859 : gM), Kl C0 M zL M1859 zL → ¬ v1858 < 0 → (p3.toInt - v1858.toInt).toNat < f1854 → Ok (H_Told_isAsKnown_3 Ld1 p2 p3 f1854 v1858 M1859) (fun q => (q.1 = 0 ∨ q.1 = 1) ∧ Kl C0 M zL q.2 zL) := by
    intro f1854
    induction f1854 with
    | zero => intro v1858 M1859 _ _ hm1856; exact absurd hm1856 (Nat.not_lt_zero _)
    | succ f1854 ih1855 =>
      intro v1858 M1859 k1860 n1861 hm1856
      show Ok (B_Told_isAsKnown_3 Ld1 p2 p3 (H_Told_isAsKnown_3 Ld1 p2 p3 f1854) v1858 M1859) _
      unfold B_Told_isAsKnown_3
      refine Ok.ite (fun h1862 => ?_) (fun h1862 => ?_)
      · exact ⟨_, rfl, (Or.inr rfl), k1860⟩
      · refine Ok.c1 (tf_Main_at (by decide)) (fun r1863 _ => ?_)
        refine Ok.c1 (tf_Main_at (by decide)) (fun r1864 _ => ?_)
        refine Ok.c2 (tf_Told_forceOf hLd1) (fun r1865 M1866 ⟨_, k1867⟩ => ?_)
        refine Ok.c1 (tf_Main_at (by decide)) (fun r1868 _ => ?_)
        refine Ok.ite (fun h1869 => ?_) (fun h1869 => ?_)
        · refine Ok.nmI (fun x1870 ex1870 => ?_)
          exact ih1855 x1870 M1866 (Kl.trans k1860 k1867) (nn_up (y := p3) h1862 ex1870 n1861) (md_up h1862 ex1870 hm1856)
        · exact ⟨_, rfl, (Or.inl rfl), (Kl.trans k1860 k1867)⟩
  exact LP1857 _ 0 M Kl.rf (by decide) fu_up
set_option maxHeartbeats 4000000 in
set_option maxRecDepth 20000 in
theorem tf_Told_mostAlike {Ld1 : Nat} {p2 : Int32} {p3 : Int32} {p4 : Int32} {M : gM} (hLd1 : isLa Ld1) : ∃ r M', F_Told_mostAlike Ld1 p2 p3 p4 M = some (r, M') ∧ True ∧ Kl C0 M zL M' zL := by
  refine Ok.x2 (A := fun (r : Int32) (M' : gM) => True ∧ Kl C0 M zL M' zL) ?_
  unfold F_Told_mostAlike
  refine Ok.c1 (tf_Main_wipe (by decide)) (fun M1871 k1872 => ?_)
  have LP1876 : ∀ (f1873 : Nat) (v1877 : Int32) (v1878 : Int32) (M1879 : gM), Kl C0 M zL M1879 zL → ¬ v1878 < 0 → ((M 383 7).toInt - v1878.toInt).toNat < f1873 → Ok (H_Told_mostAlike_13 Ld1 p2 p3 p4 f1873 v1877 v1878 M1879) (fun q => True ∧ Kl C0 M zL q.2 zL) := by
    intro f1873
    induction f1873 with
    | zero => intro v1877 v1878 M1879 _ _ hm1875; exact absurd hm1875 (Nat.not_lt_zero _)
    | succ f1873 ih1874 =>
      intro v1877 v1878 M1879 k1880 n1881 hm1875
      show Ok (B_Told_mostAlike_13 Ld1 p2 p3 p4 (H_Told_mostAlike_13 Ld1 p2 p3 p4 f1873) v1877 v1878 M1879) _
      unfold B_Told_mostAlike_13
      refine Ok.ite (fun h1882 => ?_) (fun h1882 => ?_)
      · exact ⟨_, rfl, trivial, k1880⟩
      · refine Ok.c2 (tf_Told_forceOf hLd1) (fun r1883 M1884 ⟨_, k1885⟩ => ?_)
        refine Ok.c1 (tf_Main_at (by decide)) (fun r1886 _ => ?_)
        refine Ok.nmI (fun x1887 ex1887 => ?_)
        refine Ok.c1 (tf_Main_put (by decide)) (fun M1888 k1889 => ?_)
        refine Ok.nmI (fun x1890 ex1890 => ?_)
        refine Ok.nmI (fun x1891 ex1891 => ?_)
        exact ih1874 x1890 x1891 M1888 (Kl.trans (Kl.trans k1880 k1885) (Kl.mono k1889 (oneL_S (fun _ => rfl)))) (nn_up (y := (M 383 7)) (by rw [← Kl.m k1880 rfl]; exact h1882) ex1891 n1881) (md_up (by rw [← Kl.m k1880 rfl]; exact h1882) ex1891 hm1875)
  exact LP1876 _ 0 0 M1871 (Kl.trans Kl.rf (Kl.mono k1872 (oneL_S (fun _ => rfl)))) (by decide) fu_up
set_option maxHeartbeats 4000000 in
set_option maxRecDepth 20000 in
theorem tf_Main_freeBehind {ld : Nat} {p1 : Int32} {p2 : Int32} {M : gM} (hld : isLa ld) : ∃ r M', F_Main_freeBehind ld p1 p2 M = some (r, M') ∧ True ∧ Kl C0 M zL M' zL := by
  refine Ok.x2 (A := fun (r : Int32) (M' : gM) => True ∧ Kl C0 M zL M' zL) ?_
  unfold F_Main_freeBehind
  refine Ok.c2 (tf_Land_freeByDish hld) (fun r1892 M1893 ⟨_, k1894⟩ => ?_)
  exact ⟨_, rfl, trivial, (Kl.trans Kl.rf k1894)⟩
set_option maxHeartbeats 4000000 in
set_option maxRecDepth 20000 in
theorem tf_Main_guestsFreeTo {ld : Nat} {p1 : Int32} {M : gM} (hld : isLa ld) : ∃ r M', F_Main_guestsFreeTo ld p1 M = some (r, M') ∧ True ∧ Kl C0 M zL M' zL := by
  refine Ok.x2 (A := fun (r : Int32) (M' : gM) => True ∧ Kl C0 M zL M' zL) ?_
  unfold F_Main_guestsFreeTo
  have LP1898 : ∀ (f1895 : Nat) (v1899 : Int32) (v1900 : Int32) (M1901 : gM), Kl C0 M zL M1901 zL → ¬ v1900 < 0 → ((M ld 2).toInt - v1900.toInt).toNat < f1895 → Ok (H_Main_guestsFreeTo_4 ld p1 f1895 v1899 v1900 M1901) (fun q => True ∧ Kl C0 M zL q.2 zL) := by
    intro f1895
    induction f1895 with
    | zero => intro v1899 v1900 M1901 _ _ hm1897; exact absurd hm1897 (Nat.not_lt_zero _)
    | succ f1895 ih1896 =>
      intro v1899 v1900 M1901 k1902 n1903 hm1897
      show Ok (B_Main_guestsFreeTo_4 ld p1 (H_Main_guestsFreeTo_4 ld p1 f1895) v1899 v1900 M1901) _
      unfold B_Main_guestsFreeTo_4
      refine Ok.ite (fun h1904 => ?_) (fun h1904 => ?_)
      · exact ⟨_, rfl, trivial, k1902⟩
      · refine Ok.c2 (tf_State_freeOf isSt_64 hld) (fun r1905 M1906 ⟨_, k1907⟩ => ?_)
        refine Ok.c1 (tf_Main_hasBit ) (fun r1908 hbr1908 => ?_)
        refine Ok.ite (fun h1909 => ?_) (fun h1909 => ?_)
        · unfold J_Main_guestsFreeTo_41
          refine Ok.nmI (fun x1910 ex1910 => ?_)
          exact ih1896 v1899 x1910 M1906 (Kl.trans k1902 k1907) (nn_up (y := (M ld 2)) (by rw [← Kl.m k1902 (C0_La_0f hld)]; exact h1904) ex1910 n1903) (md_up (by rw [← Kl.m k1902 (C0_La_0f hld)]; exact h1904) ex1910 hm1897)
        · refine Ok.nmI (fun x1911 ex1911 => ?_)
          unfold J_Main_guestsFreeTo_41
          refine Ok.nmI (fun x1912 ex1912 => ?_)
          exact ih1896 x1911 x1912 M1906 (Kl.trans k1902 k1907) (nn_up (y := (M ld 2)) (by rw [← Kl.m k1902 (C0_La_0f hld)]; exact h1904) ex1912 n1903) (md_up (by rw [← Kl.m k1902 (C0_La_0f hld)]; exact h1904) ex1912 hm1897)
  exact LP1898 _ 0 0 M Kl.rf (by decide) fu_up
set_option maxHeartbeats 4000000 in
set_option maxRecDepth 20000 in
theorem tf_Main_pinch {ld : Nat} {p1 : Int32} {p2 : Int32} {M : gM} (hld : isLa ld) : ∃ r M', F_Main_pinch ld p1 p2 M = some (r, M') ∧ True ∧ Kl C0 M zL M' zL := by
  refine Ok.x2 (A := fun (r : Int32) (M' : gM) => True ∧ Kl C0 M zL M' zL) ?_
  unfold F_Main_pinch
  refine Ok.c1 (tf_Main_isOne ) (fun r1913 hbr1913 => ?_)
  refine Ok.ite (fun h1914 => ?_) (fun h1914 => ?_)
  · exact ⟨_, rfl, trivial, Kl.rf⟩
  · refine Ok.c1 (tf_Main_isOne ) (fun r1915 hbr1915 => ?_)
    refine Ok.ite (fun h1916 => ?_) (fun h1916 => ?_)
    · exact ⟨_, rfl, trivial, Kl.rf⟩
    · have LP1920 : ∀ (f1917 : Nat) (v1921 : Int32) (v1922 : Int32) (v1923 : Int32) (M1924 : gM), Kl C0 M zL M1924 zL → ¬ v1923 < 0 → ((M ld 0).toInt - v1923.toInt).toNat < f1917 → Ok (H_Main_pinch_32 ld p1 p2 f1917 v1921 v1922 v1923 M1924) (fun q => True ∧ Kl C0 M zL q.2 zL) := by
        intro f1917
        induction f1917 with
        | zero => intro v1921 v1922 v1923 M1924 _ _ hm1919; exact absurd hm1919 (Nat.not_lt_zero _)
        | succ f1917 ih1918 =>
          intro v1921 v1922 v1923 M1924 k1925 n1926 hm1919
          show Ok (B_Main_pinch_32 ld p1 p2 (H_Main_pinch_32 ld p1 p2 f1917) v1921 v1922 v1923 M1924) _
          unfold B_Main_pinch_32
          refine Ok.ite (fun h1927 => ?_) (fun h1927 => ?_)
          · unfold J_Main_pinch_72
            refine Ok.ite (fun h1928 => ?_) (fun h1928 => ?_)
            · exact ⟨_, rfl, trivial, k1925⟩
            · exact ⟨_, rfl, trivial, k1925⟩
          · refine Ok.c2 (tf_Main_changeBy hld) (fun r1929 M1930 ⟨_, k1931⟩ => ?_)
            refine Ok.ite (fun h1932 => ?_) (fun h1932 => ?_)
            · unfold J_Main_pinch_66
              refine Ok.nmI (fun x1933 ex1933 => ?_)
              exact ih1918 v1921 v1922 x1933 M1930 (Kl.trans k1925 k1931) (nn_up (y := (M ld 0)) (by rw [← Kl.m k1925 (C0_La_0f hld)]; exact h1927) ex1933 n1926) (md_up (by rw [← Kl.m k1925 (C0_La_0f hld)]; exact h1927) ex1933 hm1919)
            · unfold J_Main_pinch_66
              refine Ok.nmI (fun x1934 ex1934 => ?_)
              exact ih1918 r1929 v1923 x1934 M1930 (Kl.trans k1925 k1931) (nn_up (y := (M ld 0)) (by rw [← Kl.m k1925 (C0_La_0f hld)]; exact h1927) ex1934 n1926) (md_up (by rw [← Kl.m k1925 (C0_La_0f hld)]; exact h1927) ex1934 hm1919)
      exact LP1920 _ (-1) (-1) 0 M Kl.rf (by decide) fu_up
set_option maxHeartbeats 4000000 in
set_option maxRecDepth 20000 in
theorem tf_Main_year {ld : Nat} {p1 : Int32} {p2 : Int32} {p3 : Int32} {p4 : Int32} {M : gM} (hld : isLa ld) : ∃ r M', F_Main_year ld p1 p2 p3 p4 M = some (r, M') ∧ True ∧ Kl C0 M zL M' zL := by
  refine Ok.x2 (A := fun (r : Int32) (M' : gM) => True ∧ Kl C0 M zL M' zL) ?_
  unfold F_Main_year
  refine Ok.c1 (tf_Main_isOne ) (fun r1935 hbr1935 => ?_)
  refine Ok.ite (fun h1936 => ?_) (fun h1936 => ?_)
  · exact ⟨_, rfl, trivial, Kl.rf⟩
  · refine Ok.c1 (tf_Main_isOne ) (fun r1937 hbr1937 => ?_)
    refine Ok.ite (fun h1938 => ?_) (fun h1938 => ?_)
    · exact ⟨_, rfl, trivial, Kl.rf⟩
    · refine Ok.c1 (tf_Main_isOne ) (fun r1939 hbr1939 => ?_)
      refine Ok.ite (fun h1940 => ?_) (fun h1940 => ?_)
      · exact ⟨_, rfl, trivial, Kl.rf⟩
      · refine Ok.ite (fun h1941 => ?_) (fun h1941 => ?_)
        · exact ⟨_, rfl, trivial, Kl.rf⟩
        · refine Ok.ite (fun h1942 => ?_) (fun h1942 => ?_)
          · refine Ok.c1 (tf_State_inStore isSt_64 hld) (fun r1943 hbr1943 => ?_)
            refine Ok.ite (fun h1944 => ?_) (fun h1944 => ?_)
            · exact ⟨_, rfl, trivial, Kl.rf⟩
            · have LP1948 : ∀ (f1945 : Nat) (v1949 : Int32) (v1950 : Int32) (M1951 : gM), Kl C0 M zL M1951 zL → ¬ v1950 < 0 → (p4.toInt - v1950.toInt).toNat < f1945 → Ok (H_Main_year_70 ld p1 p2 p3 p4 f1945 v1949 v1950 M1951) (fun q => True ∧ Kl C0 M zL q.2 zL) := by
                intro f1945
                induction f1945 with
                | zero => intro v1949 v1950 M1951 _ _ hm1947; exact absurd hm1947 (Nat.not_lt_zero _)
                | succ f1945 ih1946 =>
                  intro v1949 v1950 M1951 k1952 n1953 hm1947
                  show Ok (B_Main_year_70 ld p1 p2 p3 p4 (H_Main_year_70 ld p1 p2 p3 p4 f1945) v1949 v1950 M1951) _
                  unfold B_Main_year_70
                  refine Ok.ite (fun h1954 => ?_) (fun h1954 => ?_)
                  · exact ⟨_, rfl, trivial, k1952⟩
                  · refine Ok.c2 (tf_State_slipInto isSt_64 hld) (fun r1955 M1956 ⟨_, k1957⟩ => ?_)
                    refine Ok.c2 (tf_Land_dishForce hld) (fun r1958 M1959 ⟨_, k1960⟩ => ?_)
                    refine Ok.ite (fun h1961 => ?_) (fun h1961 => ?_)
                    · unfold J_Main_year_126
                      refine Ok.nmI (fun x1962 ex1962 => ?_)
                      exact ih1946 v1949 x1962 M1959 (Kl.trans (Kl.trans k1952 k1957) k1960) (nn_up (y := p4) h1954 ex1962 n1953) (md_up h1954 ex1962 hm1947)
                    · refine Ok.nmI (fun x1963 ex1963 => ?_)
                      unfold J_Main_year_126
                      refine Ok.nmI (fun x1964 ex1964 => ?_)
                      exact ih1946 x1963 x1964 M1959 (Kl.trans (Kl.trans k1952 k1957) k1960) (nn_up (y := p4) h1954 ex1964 n1953) (md_up h1954 ex1964 hm1947)
              exact LP1948 _ 0 0 M Kl.rf (by decide) fu_up
          · exact ⟨_, rfl, trivial, Kl.rf⟩
set_option maxHeartbeats 4000000 in
set_option maxRecDepth 20000 in
theorem tf_MenuSearch_lookFed {Ld1 : Nat} {p2 : Int32} {p3 : Int32} {p4 : Int32} {p5 : Int32} {M : gM} (hLd1 : isLa Ld1) : ∃ M', F_MenuSearch_lookFed Ld1 p2 p3 p4 p5 M = some M' ∧ Kl C1 M zL M' zL := by
  show Ok _ _
  unfold F_MenuSearch_lookFed
  have LP1968 : ∀ (f1965 : Nat) (v1969 : Int32) (M1970 : gM), Kl C1 M zL M1970 zL → ¬ v1969 < 0 → (p4.toInt - v1969.toInt).toNat < f1965 → Ok (H_MenuSearch_lookFed_3 Ld1 p2 p3 p4 p5 f1965 v1969 M1970) (fun M' => Kl C1 M zL M' zL) := by
    intro f1965
    induction f1965 with
    | zero => intro v1969 M1970 _ _ hm1967; exact absurd hm1967 (Nat.not_lt_zero _)
    | succ f1965 ih1966 =>
      intro v1969 M1970 k1971 n1972 hm1967
      show Ok (B_MenuSearch_lookFed_3 Ld1 p2 p3 p4 p5 (H_MenuSearch_lookFed_3 Ld1 p2 p3 p4 p5 f1965) v1969 M1970) _
      unfold B_MenuSearch_lookFed_3
      refine Ok.ite (fun h1973 => ?_) (fun h1973 => ?_)
      · exact ⟨_, rfl, k1971⟩
      · have LP1977 : ∀ (f1974 : Nat) (v1978 : Int32) (M1979 : gM), Kl C1 M zL M1979 zL → ¬ v1978 < 0 → ((M Ld1 1).toInt - v1978.toInt).toNat < f1974 → Ok (H_MenuSearch_lookFed_13 Ld1 (H_MenuSearch_lookFed_3 Ld1 p2 p3 p4 p5 f1965) p2 p3 p4 p5 v1969 f1974 v1978 M1979) (fun M' => Kl C1 M zL M' zL) := by
          intro f1974
          induction f1974 with
          | zero => intro v1978 M1979 _ _ hm1976; exact absurd hm1976 (Nat.not_lt_zero _)
          | succ f1974 ih1975 =>
            intro v1978 M1979 k1980 n1981 hm1976
            show Ok (B_MenuSearch_lookFed_13 Ld1 (H_MenuSearch_lookFed_3 Ld1 p2 p3 p4 p5 f1965) p2 p3 p4 p5 v1969 (H_MenuSearch_lookFed_13 Ld1 (H_MenuSearch_lookFed_3 Ld1 p2 p3 p4 p5 f1965) p2 p3 p4 p5 v1969 f1974) v1978 M1979) _
            unfold B_MenuSearch_lookFed_13
            refine Ok.ite (fun h1982 => ?_) (fun h1982 => ?_)
            · unfold J_MenuSearch_lookFed_111
              refine Ok.nmI (fun x1983 ex1983 => ?_)
              exact ih1966 x1983 M1979 k1980 (nn_up (y := p4) h1973 ex1983 n1972) (md_up h1973 ex1983 hm1967)
            · have LP1987 : ∀ (f1984 : Nat) (v1988 : Int32) (M1989 : gM), Kl C1 M zL M1989 zL → (p4.toInt - v1988.toInt).toNat < f1984 → Ok (H_MenuSearch_lookFed_26 Ld1 (H_MenuSearch_lookFed_3 Ld1 p2 p3 p4 p5 f1965) (H_MenuSearch_lookFed_13 Ld1 (H_MenuSearch_lookFed_3 Ld1 p2 p3 p4 p5 f1965) p2 p3 p4 p5 v1969 f1974) p2 p3 p4 p5 v1969 v1978 f1984 v1988 M1989) (fun M' => Kl C1 M zL M' zL) := by
                intro f1984
                induction f1984 with
                | zero => intro v1988 M1989 _ hm1986; exact absurd hm1986 (Nat.not_lt_zero _)
                | succ f1984 ih1985 =>
                  intro v1988 M1989 k1990 hm1986
                  show Ok (B_MenuSearch_lookFed_26 Ld1 (H_MenuSearch_lookFed_3 Ld1 p2 p3 p4 p5 f1965) (H_MenuSearch_lookFed_13 Ld1 (H_MenuSearch_lookFed_3 Ld1 p2 p3 p4 p5 f1965) p2 p3 p4 p5 v1969 f1974) p2 p3 p4 p5 v1969 v1978 (H_MenuSearch_lookFed_26 Ld1 (H_MenuSearch_lookFed_3 Ld1 p2 p3 p4 p5 f1965) (H_MenuSearch_lookFed_13 Ld1 (H_MenuSearch_lookFed_3 Ld1 p2 p3 p4 p5 f1965) p2 p3 p4 p5 v1969 f1974) p2 p3 p4 p5 v1969 v1978 f1984) v1988 M1989) _
                  unfold B_MenuSearch_lookFed_26
                  refine Ok.ite (fun h1991 => ?_) (fun h1991 => ?_)
                  · unfold J_MenuSearch_lookFed_105
                    refine Ok.nmI (fun x1992 ex1992 => ?_)
                    exact ih1975 x1992 M1989 k1990 (nn_up (y := (M Ld1 1)) (by rw [← Kl.m k1980 (C1_La_0f hLd1)]; exact h1982) ex1992 n1981) (md_up (by rw [← Kl.m k1980 (C1_La_0f hLd1)]; exact h1982) ex1992 hm1976)
                  · refine Ok.c2 (tf_Land_freeByDish hLd1) (fun r1993 M1994 ⟨_, k1995⟩ => ?_)
                    refine Ok.c1 (tf_MenuSearch_indexOf ) (fun r1996 _ => ?_)
                    refine Ok.ite (fun h1997 => ?_) (fun h1997 => ?_)
                    · unfold J_MenuSearch_lookFed_99
                      refine Ok.nmI (fun x1998 ex1998 => ?_)
                      exact ih1985 x1998 M1994 (Kl.trans k1990 (Kl.mono k1995 C0_C1)) (md_up h1991 ex1998 hm1986)
                    · refine Ok.ite (fun h1999 => ?_) (fun h1999 => ?_)
                      · unfold J_MenuSearch_lookFed_99
                        refine Ok.nmI (fun x2000 ex2000 => ?_)
                        exact ih1985 x2000 M1994 (Kl.trans k1990 (Kl.mono k1995 C0_C1)) (md_up h1991 ex2000 hm1986)
                      · refine Ok.ite (fun h2001 => ?_) (fun h2001 => ?_)
                        · unfold J_MenuSearch_lookFed_98
                          refine Ok.gd (vin_of h1997 h1999 (by decide)) ?_
                          refine Ok.nmM (fun M2002 eM2002 => ?_)
                          unfold J_MenuSearch_lookFed_99
                          refine Ok.nmI (fun x2003 ex2003 => ?_)
                          exact ih1985 x2003 M2002 (Kl.wM (Kl.trans k1990 (Kl.mono k1995 C0_C1)) rfl eM2002) (md_up h1991 ex2003 hm1986)
                        · unfold J_MenuSearch_lookFed_98
                          refine Ok.gd (vin_of h1997 h1999 (by decide)) ?_
                          refine Ok.nmM (fun M2004 eM2004 => ?_)
                          unfold J_MenuSearch_lookFed_99
                          refine Ok.nmI (fun x2005 ex2005 => ?_)
                          exact ih1985 x2005 M2004 (Kl.wM (Kl.trans k1990 (Kl.mono k1995 C0_C1)) rfl eM2004) (md_up h1991 ex2005 hm1986)
              exact LP1987 _ v1969 M1979 k1980 fu_up
        exact LP1977 _ 0 M1970 k1971 (by decide) fu_up
  exact LP1968 _ 0 M Kl.rf (by decide) fu_up
set_option maxHeartbeats 4000000 in
set_option maxRecDepth 20000 in
theorem tf_MenuSearch_lookUnfed {Ld1 : Nat} {X2 : Nat} {p3 : Int32} {p4 : Int32} {M : gM} (hLd1 : isLa Ld1) (hX2 : isSt X2) : ∃ M', F_MenuSearch_lookUnfed Ld1 X2 p3 p4 M = some M' ∧ Kl C1 M zL M' zL := by
  show Ok _ _
  unfold F_MenuSearch_lookUnfed
  have LP2009 : ∀ (f2006 : Nat) (v2010 : Int32) (M2011 : gM), Kl C1 M zL M2011 zL → ¬ v2010 < 0 → ((4 : Int32).toInt - v2010.toInt).toNat < f2006 → Ok (H_MenuSearch_lookUnfed_3 Ld1 X2 p3 p4 f2006 v2010 M2011) (fun M' => Kl C1 M zL M' zL) := by
    intro f2006
    induction f2006 with
    | zero => intro v2010 M2011 _ _ hm2008; exact absurd hm2008 (Nat.not_lt_zero _)
    | succ f2006 ih2007 =>
      intro v2010 M2011 k2012 n2013 hm2008
      show Ok (B_MenuSearch_lookUnfed_3 Ld1 X2 p3 p4 (H_MenuSearch_lookUnfed_3 Ld1 X2 p3 p4 f2006) v2010 M2011) _
      unfold B_MenuSearch_lookUnfed_3
      refine Ok.ite (fun h2014 => ?_) (fun h2014 => ?_)
      · exact ⟨_, rfl, k2012⟩
      · refine Ok.c2 (tf_State_freeOf hX2 hLd1) (fun r2015 M2016 ⟨_, k2017⟩ => ?_)
        refine Ok.ite (fun h2018 => ?_) (fun h2018 => ?_)
        · unfold J_MenuSearch_lookUnfed_40
          refine Ok.gd (vin_of n2013 h2014 (by decide)) ?_
          refine Ok.nmM (fun M2019 eM2019 => ?_)
          refine Ok.nmI (fun x2020 ex2020 => ?_)
          exact ih2007 x2020 M2019 (Kl.wM (Kl.trans k2012 (Kl.mono k2017 C0_C1)) rfl eM2019) (nn_up (y := (4 : Int32)) h2014 ex2020 n2013) (md_up h2014 ex2020 hm2008)
        · unfold J_MenuSearch_lookUnfed_40
          refine Ok.gd (vin_of n2013 h2014 (by decide)) ?_
          refine Ok.nmM (fun M2021 eM2021 => ?_)
          refine Ok.nmI (fun x2022 ex2022 => ?_)
          exact ih2007 x2022 M2021 (Kl.wM (Kl.trans k2012 (Kl.mono k2017 C0_C1)) rfl eM2021) (nn_up (y := (4 : Int32)) h2014 ex2022 n2013) (md_up h2014 ex2022 hm2008)
  exact LP2009 _ 0 M Kl.rf (by decide) fu_up
set_option maxHeartbeats 4000000 in
set_option maxRecDepth 20000 in
theorem tf_PotSearch_find {Ld1 : Nat} {X2 : Nat} {p3 : Int32} {p4 : Int32} {p5 : Int32} {M : gM} (hLd1 : isLa Ld1) (hX2 : isSt X2) : ∃ r M', F_PotSearch_find Ld1 X2 p3 p4 p5 M = some (r, M') ∧ (r = 0 ∨ r = 1) ∧ Kl C1 M zL M' zL := by
  refine Ok.x2 (A := fun (r : Int32) (M' : gM) => (r = 0 ∨ r = 1) ∧ Kl C1 M zL M' zL) ?_
  unfold F_PotSearch_find
  refine Ok.c1 (tf_Main_put (by decide)) (fun M2023 k2024 => ?_)
  refine Ok.c1 (tf_Main_put (by decide)) (fun M2025 k2026 => ?_)
  refine Ok.c1 (tf_Main_put (by decide)) (fun M2027 k2028 => ?_)
  refine Ok.nmM (fun M2029 eM2029 => ?_)
  refine Ok.c1 (tf_Law_looksAt (isLw_9 hLd1)) (fun r2030 hbr2030 => ?_)
  refine Ok.ite (fun h2031 => ?_) (fun h2031 => ?_)
  · unfold J_PotSearch_find_52
    refine Ok.nmM (fun M2032 eM2032 => ?_)
    refine Ok.c1 (tf_PotSearch_fillFrom hX2) (fun M2033 k2034 => ?_)
    have LP2038 : ∀ (f2035 : Nat) (v2039 : Int32) (M2040 : gM), Kl C1 M zL M2040 zL → ¬ v2039 < 0 → ((924 : Int32).toInt - v2039.toInt).toNat < f2035 → Ok (H_PotSearch_find_66 Ld1 X2 f2035 v2039 M2040) (fun q => (q.1 = 0 ∨ q.1 = 1) ∧ Kl C1 M zL q.2 zL) := by
      intro f2035
      induction f2035 with
      | zero => intro v2039 M2040 _ _ hm2037; exact absurd hm2037 (Nat.not_lt_zero _)
      | succ f2035 ih2036 =>
        intro v2039 M2040 k2041 n2042 hm2037
        show Ok (B_PotSearch_find_66 Ld1 X2 (H_PotSearch_find_66 Ld1 X2 f2035) v2039 M2040) _
        unfold B_PotSearch_find_66
        refine Ok.ite (fun h2043 => ?_) (fun h2043 => ?_)
        · refine Ok.gp (b01_01 _) ?_
          exact ⟨_, rfl, (b01_01 _), k2041⟩
        · refine Ok.c1 (tf_PotSearch_weigh hLd1) (fun M2044 k2045 => ?_)
          refine Ok.ite (fun h2046 => ?_) (fun h2046 => ?_)
          · unfold J_PotSearch_find_86
            refine Ok.gp (b01_01 _) ?_
            exact ⟨_, rfl, (b01_01 _), (Kl.trans k2041 k2045)⟩
          · refine Ok.c1 (tf_PotSearch_tryHeats hLd1) (fun M2047 k2048 => ?_)
            refine Ok.c1 (tf_PotSearch_stepDown hX2) (fun M2049 k2050 => ?_)
            refine Ok.nmI (fun x2051 ex2051 => ?_)
            exact ih2036 x2051 M2049 (Kl.trans (Kl.trans (Kl.trans k2041 k2045) k2048) k2050) (nn_up (y := (924 : Int32)) h2043 ex2051 n2042) (md_up h2043 ex2051 hm2037)
    exact LP2038 _ 0 M2033 (Kl.trans (Kl.wM (Kl.wM (Kl.trans (Kl.trans (Kl.trans Kl.rf (Kl.mono k2024 (oneL_S (fun _ => rfl)))) (Kl.mono k2026 (oneL_S (fun _ => rfl)))) (Kl.mono k2028 (oneL_S (fun _ => rfl)))) rfl eM2029) rfl eM2032) k2034) (by decide) fu_up
  · unfold J_PotSearch_find_52
    refine Ok.nmM (fun M2052 eM2052 => ?_)
    refine Ok.c1 (tf_PotSearch_fillFrom hX2) (fun M2053 k2054 => ?_)
    have LP2058 : ∀ (f2055 : Nat) (v2059 : Int32) (M2060 : gM), Kl C1 M zL M2060 zL → ¬ v2059 < 0 → ((924 : Int32).toInt - v2059.toInt).toNat < f2055 → Ok (H_PotSearch_find_66 Ld1 X2 f2055 v2059 M2060) (fun q => (q.1 = 0 ∨ q.1 = 1) ∧ Kl C1 M zL q.2 zL) := by
      intro f2055
      induction f2055 with
      | zero => intro v2059 M2060 _ _ hm2057; exact absurd hm2057 (Nat.not_lt_zero _)
      | succ f2055 ih2056 =>
        intro v2059 M2060 k2061 n2062 hm2057
        show Ok (B_PotSearch_find_66 Ld1 X2 (H_PotSearch_find_66 Ld1 X2 f2055) v2059 M2060) _
        unfold B_PotSearch_find_66
        refine Ok.ite (fun h2063 => ?_) (fun h2063 => ?_)
        · refine Ok.gp (b01_01 _) ?_
          exact ⟨_, rfl, (b01_01 _), k2061⟩
        · refine Ok.c1 (tf_PotSearch_weigh hLd1) (fun M2064 k2065 => ?_)
          refine Ok.ite (fun h2066 => ?_) (fun h2066 => ?_)
          · unfold J_PotSearch_find_86
            refine Ok.gp (b01_01 _) ?_
            exact ⟨_, rfl, (b01_01 _), (Kl.trans k2061 k2065)⟩
          · refine Ok.c1 (tf_PotSearch_tryHeats hLd1) (fun M2067 k2068 => ?_)
            refine Ok.c1 (tf_PotSearch_stepDown hX2) (fun M2069 k2070 => ?_)
            refine Ok.nmI (fun x2071 ex2071 => ?_)
            exact ih2056 x2071 M2069 (Kl.trans (Kl.trans (Kl.trans k2061 k2065) k2068) k2070) (nn_up (y := (924 : Int32)) h2063 ex2071 n2062) (md_up h2063 ex2071 hm2057)
    exact LP2058 _ 0 M2053 (Kl.trans (Kl.wM (Kl.wM (Kl.trans (Kl.trans (Kl.trans Kl.rf (Kl.mono k2024 (oneL_S (fun _ => rfl)))) (Kl.mono k2026 (oneL_S (fun _ => rfl)))) (Kl.mono k2028 (oneL_S (fun _ => rfl)))) rfl eM2029) rfl eM2052) k2054) (by decide) fu_up
set_option maxHeartbeats 4000000 in
set_option maxRecDepth 20000 in
theorem tf_State_cookOne {X0 : Nat} {Ld1 : Nat} {p2 : Int32} {M : gM} (hX0 : isSt X0) (hLd1 : isLa Ld1) : ∃ r M', F_State_cookOne X0 Ld1 p2 M = some (r, M') ∧ True ∧ Kl (CX X0) M zL M' zL := by
  refine Ok.x2 (A := fun (r : Int32) (M' : gM) => True ∧ Kl (CX X0) M zL M' zL) ?_
  unfold F_State_cookOne
  refine Ok.c2 (tf_State_slipInto hX0 hLd1) (fun r2072 M2073 ⟨_, k2074⟩ => ?_)
  have LP2078 : ∀ (f2075 : Nat) (v2079 : Int32) (M2080 : gM), Kl (CX X0) M zL M2080 zL → ¬ v2079 < 0 → ((M Ld1 0).toInt - v2079.toInt).toNat < f2075 → Ok (H_State_cookOne_14 X0 Ld1 p2 r2072 f2075 v2079 M2080) (fun q => True ∧ Kl (CX X0) M zL q.2 zL) := by
    intro f2075
    induction f2075 with
    | zero => intro v2079 M2080 _ _ hm2077; exact absurd hm2077 (Nat.not_lt_zero _)
    | succ f2075 ih2076 =>
      intro v2079 M2080 k2081 n2082 hm2077
      show Ok (B_State_cookOne_14 X0 Ld1 p2 r2072 (H_State_cookOne_14 X0 Ld1 p2 r2072 f2075) v2079 M2080) _
      unfold B_State_cookOne_14
      refine Ok.ite (fun h2083 => ?_) (fun h2083 => ?_)
      · unfold J_State_cookOne_71
        have LP2087 : ∀ (f2084 : Nat) (v2088 : Int32) (M2089 : gM), Kl (CX X0) M zL M2089 zL → ¬ v2088 < 0 → ((3 : Int32).toInt - v2088.toInt).toNat < f2084 → Ok (H_State_cookOne_74 X0 Ld1 p2 r2072 f2084 v2088 M2089) (fun q => True ∧ Kl (CX X0) M zL q.2 zL) := by
          intro f2084
          induction f2084 with
          | zero => intro v2088 M2089 _ _ hm2086; exact absurd hm2086 (Nat.not_lt_zero _)
          | succ f2084 ih2085 =>
            intro v2088 M2089 k2090 n2091 hm2086
            show Ok (B_State_cookOne_74 X0 Ld1 p2 r2072 (H_State_cookOne_74 X0 Ld1 p2 r2072 f2084) v2088 M2089) _
            unfold B_State_cookOne_74
            refine Ok.ite (fun h2092 => ?_) (fun h2092 => ?_)
            · unfold J_State_cookOne_107
              refine Ok.c1 (tf_Land_priceOf hLd1) (fun r2093 _ => ?_)
              refine Ok.nmM (fun M2094 eM2094 => ?_)
              refine Ok.nmM (fun M2095 eM2095 => ?_)
              refine Ok.nmM (fun M2096 eM2096 => ?_)
              refine Ok.c1 (tf_Main_at (by decide)) (fun r2097 _ => ?_)
              refine Ok.c1 (tf_Main_put (by decide)) (fun M2098 k2099 => ?_)
              exact ⟨_, rfl, trivial, (Kl.trans (Kl.wM (Kl.wM (Kl.wM k2090 (CX_o ⟨by omega, by omega⟩) eM2094) (CX_o ⟨by omega, by omega⟩) eM2095) (CX_o ⟨by omega, by omega⟩) eM2096) (Kl.mono k2099 (oneL_S (fun _ => CX_o ⟨by omega, by omega⟩))))⟩
            · refine Ok.c2 (tf_Land_dishForce hLd1) (fun r2100 M2101 ⟨_, k2102⟩ => ?_)
              refine Ok.c1 (tf_Main_put (by decide)) (fun M2103 k2104 => ?_)
              refine Ok.nmI (fun x2105 ex2105 => ?_)
              exact ih2085 x2105 M2103 (Kl.trans (Kl.trans k2090 (Kl.mono k2102 C0_CX)) (Kl.mono k2104 (oneL_S (fun _ => CX_o ⟨by omega, by omega⟩)))) (nn_up (y := (3 : Int32)) h2092 ex2105 n2091) (md_up h2092 ex2105 hm2086)
        exact LP2087 _ 0 M2080 k2081 (by decide) fu_up
      · refine Ok.c1 (tf_Land_inDish hLd1) (fun r2106 _ => ?_)
        refine Ok.ite (fun h2107 => ?_) (fun h2107 => ?_)
        · unfold J_State_cookOne_41
          refine Ok.nmI (fun x2108 ex2108 => ?_)
          refine Ok.c1 (tf_Main_at (by decide)) (fun r2109 _ => ?_)
          refine Ok.c1 (tf_Main_put (by decide)) (fun M2110 k2111 => ?_)
          refine Ok.nmI (fun x2112 ex2112 => ?_)
          exact ih2076 x2112 M2110 (Kl.trans k2081 (Kl.mono k2111 (oneL_S (fun _ => CX_o ⟨by omega, by omega⟩)))) (nn_up (y := (M Ld1 0)) (by rw [← Kl.m k2081 (CX_Laf hX0 hLd1)]; exact h2083) ex2112 n2082) (md_up (by rw [← Kl.m k2081 (CX_Laf hX0 hLd1)]; exact h2083) ex2112 hm2077)
        · unfold J_State_cookOne_41
          refine Ok.nmI (fun x2113 ex2113 => ?_)
          refine Ok.c1 (tf_Main_at (by decide)) (fun r2114 _ => ?_)
          refine Ok.c1 (tf_Main_put (by decide)) (fun M2115 k2116 => ?_)
          refine Ok.nmI (fun x2117 ex2117 => ?_)
          exact ih2076 x2117 M2115 (Kl.trans k2081 (Kl.mono k2116 (oneL_S (fun _ => CX_o ⟨by omega, by omega⟩)))) (nn_up (y := (M Ld1 0)) (by rw [← Kl.m k2081 (CX_Laf hX0 hLd1)]; exact h2083) ex2117 n2082) (md_up (by rw [← Kl.m k2081 (CX_Laf hX0 hLd1)]; exact h2083) ex2117 hm2077)
  exact LP2078 _ 0 M2073 (Kl.trans Kl.rf (Kl.mono k2074 C0_CX)) (by decide) fu_up
set_option maxHeartbeats 4000000 in
set_option maxRecDepth 20000 in
theorem tf_Told_gather {Ld1 : Nat} {p2 : Int32} {p3 : Int32} {M : gM} (hLd1 : isLa Ld1) : ∃ M', F_Told_gather Ld1 p2 p3 M = some M' ∧ Kl C1 M zL M' zL := by
  show Ok _ _
  unfold F_Told_gather
  refine Ok.nmM (fun M2118 eM2118 => ?_)
  have LP2122 : ∀ (f2119 : Nat) (v2123 : Int32) (M2124 : gM), Kl C1 M zL M2124 zL → ¬ v2123 < 0 → ((M Ld1 1).toInt - v2123.toInt).toNat < f2119 → Ok (H_Told_gather_8 Ld1 p2 p3 f2119 v2123 M2124) (fun M' => Kl C1 M zL M' zL) := by
    intro f2119
    induction f2119 with
    | zero => intro v2123 M2124 _ _ hm2121; exact absurd hm2121 (Nat.not_lt_zero _)
    | succ f2119 ih2120 =>
      intro v2123 M2124 k2125 n2126 hm2121
      show Ok (B_Told_gather_8 Ld1 p2 p3 (H_Told_gather_8 Ld1 p2 p3 f2119) v2123 M2124) _
      unfold B_Told_gather_8
      refine Ok.ite (fun h2127 => ?_) (fun h2127 => ?_)
      · exact ⟨_, rfl, k2125⟩
      · have LP2131 : ∀ (f2128 : Nat) (v2132 : Int32) (M2133 : gM), Kl C1 M zL M2133 zL → ¬ v2132 < 0 → ((13 : Int32).toInt - v2132.toInt).toNat < f2128 → Ok (H_Told_gather_20 Ld1 (H_Told_gather_8 Ld1 p2 p3 f2119) p2 p3 v2123 f2128 v2132 M2133) (fun M' => Kl C1 M zL M' zL) := by
          intro f2128
          induction f2128 with
          | zero => intro v2132 M2133 _ _ hm2130; exact absurd hm2130 (Nat.not_lt_zero _)
          | succ f2128 ih2129 =>
            intro v2132 M2133 k2134 n2135 hm2130
            show Ok (B_Told_gather_20 Ld1 (H_Told_gather_8 Ld1 p2 p3 f2119) p2 p3 v2123 (H_Told_gather_20 Ld1 (H_Told_gather_8 Ld1 p2 p3 f2119) p2 p3 v2123 f2128) v2132 M2133) _
            unfold B_Told_gather_20
            refine Ok.ite (fun h2136 => ?_) (fun h2136 => ?_)
            · unfold J_Told_gather_65
              refine Ok.nmI (fun x2137 ex2137 => ?_)
              exact ih2120 x2137 M2133 k2134 (nn_up (y := (M Ld1 1)) (by rw [← Kl.m k2125 (C1_La_0f hLd1)]; exact h2127) ex2137 n2126) (md_up (by rw [← Kl.m k2125 (C1_La_0f hLd1)]; exact h2127) ex2137 hm2121)
            · refine Ok.c2 (tf_Told_lay hLd1) (fun r2138 M2139 ⟨hbr2138, k2140⟩ => ?_)
              refine Ok.ite (fun h2141 => ?_) (fun h2141 => ?_)
              · unfold J_Told_gather_59
                refine Ok.nmI (fun x2142 ex2142 => ?_)
                exact ih2129 x2142 M2139 (Kl.trans k2134 k2140) (nn_up (y := (13 : Int32)) h2136 ex2142 n2135) (md_up h2136 ex2142 hm2130)
              · refine Ok.c2 (tf_Told_isAsKnown hLd1) (fun r2143 M2144 ⟨hbr2143, k2145⟩ => ?_)
                refine Ok.ite (fun h2146 => ?_) (fun h2146 => ?_)
                · unfold J_Told_gather_59
                  refine Ok.nmI (fun x2147 ex2147 => ?_)
                  exact ih2129 x2147 M2144 (Kl.trans (Kl.trans k2134 k2140) (Kl.mono k2145 C0_C1)) (nn_up (y := (13 : Int32)) h2136 ex2147 n2135) (md_up h2136 ex2147 hm2130)
                · refine Ok.nmM (fun M2148 eM2148 => ?_)
                  unfold J_Told_gather_59
                  refine Ok.nmI (fun x2149 ex2149 => ?_)
                  exact ih2129 x2149 M2148 (Kl.wM (Kl.trans (Kl.trans k2134 k2140) (Kl.mono k2145 C0_C1)) rfl eM2148) (nn_up (y := (13 : Int32)) h2136 ex2149 n2135) (md_up h2136 ex2149 hm2130)
        exact LP2131 _ 0 M2124 k2125 (by decide) fu_up
  exact LP2122 _ 0 M2118 (Kl.wM Kl.rf rfl eM2118) (by decide) fu_up
set_option maxHeartbeats 4000000 in
set_option maxRecDepth 20000 in
theorem tf_Told_nextTaste {Ld1 : Nat} {p2 : Int32} {M : gM} (hLd1 : isLa Ld1) : ∃ r M', F_Told_nextTaste Ld1 p2 M = some (r, M') ∧ True ∧ Kl C0 M zL M' zL := by
  refine Ok.x2 (A := fun (r : Int32) (M' : gM) => True ∧ Kl C0 M zL M' zL) ?_
  unfold F_Told_nextTaste
  refine Ok.nmI (fun x2150 ex2150 => ?_)
  have LP2154 : ∀ (f2151 : Nat) (v2155 : Int32) (v2156 : Int32) (v2157 : Int32) (M2158 : gM), Kl C0 M zL M2158 zL → ¬ v2157 < 0 → ((3 : Int32).toInt - v2157.toInt).toNat < f2151 → Ok (H_Told_nextTaste_14 Ld1 p2 f2151 v2155 v2156 v2157 M2158) (fun q => True ∧ Kl C0 M zL q.2 zL) := by
    intro f2151
    induction f2151 with
    | zero => intro v2155 v2156 v2157 M2158 _ _ hm2153; exact absurd hm2153 (Nat.not_lt_zero _)
    | succ f2151 ih2152 =>
      intro v2155 v2156 v2157 M2158 k2159 n2160 hm2153
      show Ok (B_Told_nextTaste_14 Ld1 p2 (H_Told_nextTaste_14 Ld1 p2 f2151) v2155 v2156 v2157 M2158) _
      unfold B_Told_nextTaste_14
      refine Ok.ite (fun h2161 => ?_) (fun h2161 => ?_)
      · exact ⟨_, rfl, trivial, k2159⟩
      · refine Ok.ite (fun h2162 => ?_) (fun h2162 => ?_)
        · exact ⟨_, rfl, trivial, k2159⟩
        · have LP2166 : ∀ (f2163 : Nat) (v2167 : Int32) (v2168 : Int32) (v2169 : Int32) (M2170 : gM), Kl C0 M zL M2170 zL → ¬ v2169 < 0 → ((10 : Int32).toInt - v2169.toInt).toNat < f2163 → Ok (H_Told_nextTaste_30 Ld1 (H_Told_nextTaste_14 Ld1 p2 f2151) p2 v2157 f2163 v2167 v2168 v2169 M2170) (fun q => True ∧ Kl C0 M zL q.2 zL) := by
            intro f2163
            induction f2163 with
            | zero => intro v2167 v2168 v2169 M2170 _ _ hm2165; exact absurd hm2165 (Nat.not_lt_zero _)
            | succ f2163 ih2164 =>
              intro v2167 v2168 v2169 M2170 k2171 n2172 hm2165
              show Ok (B_Told_nextTaste_30 Ld1 (H_Told_nextTaste_14 Ld1 p2 f2151) p2 v2157 (H_Told_nextTaste_30 Ld1 (H_Told_nextTaste_14 Ld1 p2 f2151) p2 v2157 f2163) v2167 v2168 v2169 M2170) _
              unfold B_Told_nextTaste_30
              refine Ok.ite (fun h2173 => ?_) (fun h2173 => ?_)
              · unfold J_Told_nextTaste_74
                refine Ok.nmI (fun x2174 ex2174 => ?_)
                exact ih2152 v2167 v2168 x2174 M2170 k2171 (nn_up (y := (3 : Int32)) h2162 ex2174 n2160) (md_up h2162 ex2174 hm2153)
              · refine Ok.c2 (tf_Told_mostAlike hLd1) (fun r2175 M2176 ⟨_, k2177⟩ => ?_)
                refine Ok.ite (fun h2178 => ?_) (fun h2178 => ?_)
                · unfold J_Told_nextTaste_68
                  refine Ok.nmI (fun x2179 ex2179 => ?_)
                  exact ih2164 v2167 v2168 x2179 M2176 (Kl.trans k2171 k2177) (nn_up (y := (10 : Int32)) h2173 ex2179 n2172) (md_up h2173 ex2179 hm2165)
                · refine Ok.nmI (fun x2180 ex2180 => ?_)
                  unfold J_Told_nextTaste_68
                  refine Ok.nmI (fun x2181 ex2181 => ?_)
                  exact ih2164 r2175 x2180 x2181 M2176 (Kl.trans k2171 k2177) (nn_up (y := (10 : Int32)) h2173 ex2181 n2172) (md_up h2173 ex2181 hm2165)
          exact LP2166 _ v2155 v2156 0 M2158 k2159 (by decide) fu_up
  exact LP2154 _ x2150 (-2) 0 M Kl.rf (by decide) fu_up
set_option maxHeartbeats 4000000 in
set_option maxRecDepth 20000 in
theorem tf_Main_blame {ld : Nat} {p1 : Int32} {M : gM} (hld : isLa ld) : ∃ r M', F_Main_blame ld p1 M = some (r, M') ∧ True ∧ Kl C1 M zL M' zL := by
  refine Ok.x2 (A := fun (r : Int32) (M' : gM) => True ∧ Kl C1 M zL M' zL) ?_
  unfold F_Main_blame
  refine Ok.c1 (tf_Main_isOne ) (fun r2182 hbr2182 => ?_)
  refine Ok.ite (fun h2183 => ?_) (fun h2183 => ?_)
  · exact ⟨_, rfl, trivial, Kl.rf⟩
  · refine Ok.c1 (tf_Told_gather hld) (fun M2184 k2185 => ?_)
    exact ⟨_, rfl, trivial, (Kl.trans Kl.rf k2185)⟩
set_option maxHeartbeats 4000000 in
set_option maxRecDepth 20000 in
theorem tf_Main_deed {ld : Nat} {p1 : Int32} {p2 : Int32} {M : gM} (hld : isLa ld) : ∃ r M', F_Main_deed ld p1 p2 M = some (r, M') ∧ True ∧ Kl C0 M zL M' zL := by
  refine Ok.x2 (A := fun (r : Int32) (M' : gM) => True ∧ Kl C0 M zL M' zL) ?_
  unfold F_Main_deed
  refine Ok.c1 (tf_Main_isOne ) (fun r2186 hbr2186 => ?_)
  refine Ok.ite (fun h2187 => ?_) (fun h2187 => ?_)
  · exact ⟨_, rfl, trivial, Kl.rf⟩
  · refine Ok.ite (fun h2188 => ?_) (fun h2188 => ?_)
    · refine Ok.c1 (tf_Main_at (by decide)) (fun r2189 _ => ?_)
      exact ⟨_, rfl, trivial, Kl.rf⟩
    refine Ok.ite (fun h2190 => ?_) (fun h2190 => ?_)
    · refine Ok.c1 (tf_Main_at (by decide)) (fun r2191 _ => ?_)
      exact ⟨_, rfl, trivial, Kl.rf⟩
    refine Ok.ite (fun h2192 => ?_) (fun h2192 => ?_)
    · refine Ok.c2 (tf_Main_guestsFreeTo hld) (fun r2193 M2194 ⟨_, k2195⟩ => ?_)
      exact ⟨_, rfl, trivial, (Kl.trans Kl.rf k2195)⟩
    exact ⟨_, rfl, trivial, Kl.rf⟩
set_option maxHeartbeats 4000000 in
set_option maxRecDepth 20000 in
theorem tf_Main_feud {ld : Nat} {p1 : Int32} {p2 : Int32} {p3 : Int32} {M : gM} (hld : isLa ld) : ∃ r M', F_Main_feud ld p1 p2 p3 M = some (r, M') ∧ True ∧ Kl C0 M zL M' zL := by
  refine Ok.x2 (A := fun (r : Int32) (M' : gM) => True ∧ Kl C0 M zL M' zL) ?_
  unfold F_Main_feud
  refine Ok.c1 (tf_Main_isOne ) (fun r2196 hbr2196 => ?_)
  refine Ok.ite (fun h2197 => ?_) (fun h2197 => ?_)
  · exact ⟨_, rfl, trivial, Kl.rf⟩
  · refine Ok.c1 (tf_Main_isOne ) (fun r2198 hbr2198 => ?_)
    refine Ok.ite (fun h2199 => ?_) (fun h2199 => ?_)
    · exact ⟨_, rfl, trivial, Kl.rf⟩
    · refine Ok.c1 (tf_Main_isOne ) (fun r2200 hbr2200 => ?_)
      refine Ok.ite (fun h2201 => ?_) (fun h2201 => ?_)
      · exact ⟨_, rfl, trivial, Kl.rf⟩
      · refine Ok.ite (fun h2202 => ?_) (fun h2202 => ?_)
        · exact ⟨_, rfl, trivial, Kl.rf⟩
        · have LP2206 : ∀ (f2203 : Nat) (v2207 : Int32) (v2208 : Int32) (M2209 : gM), Kl C0 M zL M2209 zL → ¬ v2208 < 0 → ((M ld 1).toInt - v2208.toInt).toNat < f2203 → Ok (H_Main_feud_55 ld p1 p2 p3 f2203 v2207 v2208 M2209) (fun q => True ∧ Kl C0 M zL q.2 zL) := by
            intro f2203
            induction f2203 with
            | zero => intro v2207 v2208 M2209 _ _ hm2205; exact absurd hm2205 (Nat.not_lt_zero _)
            | succ f2203 ih2204 =>
              intro v2207 v2208 M2209 k2210 n2211 hm2205
              show Ok (B_Main_feud_55 ld p1 p2 p3 (H_Main_feud_55 ld p1 p2 p3 f2203) v2207 v2208 M2209) _
              unfold B_Main_feud_55
              refine Ok.ite (fun h2212 => ?_) (fun h2212 => ?_)
              · exact ⟨_, rfl, trivial, k2210⟩
              · refine Ok.c2 (tf_Main_freeBehind hld) (fun r2213 M2214 ⟨_, k2215⟩ => ?_)
                refine Ok.c1 (tf_Main_hasBit ) (fun r2216 hbr2216 => ?_)
                refine Ok.c1 (tf_Main_hasBit ) (fun r2217 hbr2217 => ?_)
                refine Ok.ite (fun h2218 => ?_) (fun h2218 => ?_)
                · unfold J_Main_feud_100
                  refine Ok.nmI (fun x2219 ex2219 => ?_)
                  exact ih2204 v2207 x2219 M2214 (Kl.trans k2210 k2215) (nn_up (y := (M ld 1)) (by rw [← Kl.m k2210 (C0_La_0f hld)]; exact h2212) ex2219 n2211) (md_up (by rw [← Kl.m k2210 (C0_La_0f hld)]; exact h2212) ex2219 hm2205)
                · refine Ok.nmI (fun x2220 ex2220 => ?_)
                  unfold J_Main_feud_100
                  refine Ok.nmI (fun x2221 ex2221 => ?_)
                  exact ih2204 x2220 x2221 M2214 (Kl.trans k2210 k2215) (nn_up (y := (M ld 1)) (by rw [← Kl.m k2210 (C0_La_0f hld)]; exact h2212) ex2221 n2211) (md_up (by rw [← Kl.m k2210 (C0_La_0f hld)]; exact h2212) ex2221 hm2205)
          exact LP2206 _ 0 0 M Kl.rf (by decide) fu_up
set_option maxHeartbeats 4000000 in
set_option maxRecDepth 20000 in
theorem tf_Main_freestDish {ld : Nat} {p1 : Int32} {M : gM} (hld : isLa ld) : ∃ r M', F_Main_freestDish ld p1 M = some (r, M') ∧ True ∧ Kl C0 M zL M' zL := by
  refine Ok.x2 (A := fun (r : Int32) (M' : gM) => True ∧ Kl C0 M zL M' zL) ?_
  unfold F_Main_freestDish
  have LP2225 : ∀ (f2222 : Nat) (v2226 : Int32) (v2227 : Int32) (v2228 : Int32) (M2229 : gM), Kl C0 M zL M2229 zL → ¬ v2228 < 0 → ((M ld 1).toInt - v2228.toInt).toNat < f2222 → Ok (H_Main_freestDish_7 ld p1 f2222 v2226 v2227 v2228 M2229) (fun q => True ∧ Kl C0 M zL q.2 zL) := by
    intro f2222
    induction f2222 with
    | zero => intro v2226 v2227 v2228 M2229 _ _ hm2224; exact absurd hm2224 (Nat.not_lt_zero _)
    | succ f2222 ih2223 =>
      intro v2226 v2227 v2228 M2229 k2230 n2231 hm2224
      show Ok (B_Main_freestDish_7 ld p1 (H_Main_freestDish_7 ld p1 f2222) v2226 v2227 v2228 M2229) _
      unfold B_Main_freestDish_7
      refine Ok.ite (fun h2232 => ?_) (fun h2232 => ?_)
      · exact ⟨_, rfl, trivial, k2230⟩
      · refine Ok.c2 (tf_Main_freeBehind hld) (fun r2233 M2234 ⟨_, k2235⟩ => ?_)
        refine Ok.c1 (tf_Int_bitCount ) (fun r2236 _ => ?_)
        refine Ok.ite (fun h2237 => ?_) (fun h2237 => ?_)
        · unfold J_Main_freestDish_43
          refine Ok.nmI (fun x2238 ex2238 => ?_)
          exact ih2223 v2226 v2227 x2238 M2234 (Kl.trans k2230 k2235) (nn_up (y := (M ld 1)) (by rw [← Kl.m k2230 (C0_La_0f hld)]; exact h2232) ex2238 n2231) (md_up (by rw [← Kl.m k2230 (C0_La_0f hld)]; exact h2232) ex2238 hm2224)
        · unfold J_Main_freestDish_43
          refine Ok.nmI (fun x2239 ex2239 => ?_)
          exact ih2223 r2236 v2228 x2239 M2234 (Kl.trans k2230 k2235) (nn_up (y := (M ld 1)) (by rw [← Kl.m k2230 (C0_La_0f hld)]; exact h2232) ex2239 n2231) (md_up (by rw [← Kl.m k2230 (C0_La_0f hld)]; exact h2232) ex2239 hm2224)
  exact LP2225 _ (-1) (-1) 0 M Kl.rf (by decide) fu_up
set_option maxHeartbeats 4000000 in
set_option maxRecDepth 20000 in
theorem tf_Main_often {ld : Nat} {p1 : Int32} {M : gM} (hld : isLa ld) : ∃ r M', F_Main_often ld p1 M = some (r, M') ∧ True ∧ Kl C1 M zL M' zL := by
  refine Ok.x2 (A := fun (r : Int32) (M' : gM) => True ∧ Kl C1 M zL M' zL) ?_
  unfold F_Main_often
  refine Ok.c1 (tf_Main_isOne ) (fun r2240 hbr2240 => ?_)
  refine Ok.ite (fun h2241 => ?_) (fun h2241 => ?_)
  · exact ⟨_, rfl, trivial, Kl.rf⟩
  · refine Ok.c1 (tf_State_copyFrom isSt_71 isSt_64) (fun M2242 k2243 => ?_)
    have LP2247 : ∀ (f2244 : Nat) (v2248 : Int32) (M2249 : gM), Kl C1 M zL M2249 zL → ¬ v2248 < 0 → ((99 : Int32).toInt + 1 - v2248.toInt).toNat < f2244 → Ok (H_Main_often_29 ld p1 f2244 v2248 M2249) (fun q => True ∧ Kl C1 M zL q.2 zL) := by
      intro f2244
      induction f2244 with
      | zero => intro v2248 M2249 _ _ hm2246; exact absurd hm2246 (Nat.not_lt_zero _)
      | succ f2244 ih2245 =>
        intro v2248 M2249 k2250 n2251 hm2246
        show Ok (B_Main_often_29 ld p1 (H_Main_often_29 ld p1 f2244) v2248 M2249) _
        unfold B_Main_often_29
        refine Ok.ite (fun h2252 => ?_) (fun h2252 => ?_)
        · exact ⟨_, rfl, trivial, k2250⟩
        · refine Ok.c1 (tf_State_inStore isSt_71 hld) (fun r2253 hbr2253 => ?_)
          refine Ok.ite (fun h2254 => ?_) (fun h2254 => ?_)
          · exact ⟨_, rfl, trivial, k2250⟩
          · refine Ok.c2 (tf_State_cookOne isSt_71 hld) (fun r2255 M2256 ⟨_, k2257⟩ => ?_)
            refine Ok.nmI (fun x2258 ex2258 => ?_)
            exact ih2245 x2258 M2256 (Kl.trans k2250 (Kl.mono k2257 CX_C1)) (nn_upe (y := (99 : Int32)) h2252 (by decide) ex2258 n2251) (md_upe h2252 (by decide) ex2258 hm2246)
    exact LP2247 _ 0 M2242 (Kl.trans Kl.rf (Kl.mono k2243 CX_C1)) (by decide) fu_upe
set_option maxHeartbeats 4000000 in
set_option maxRecDepth 20000 in
theorem tf_Main_pot {ld : Nat} {p1 : Int32} {p2 : Int32} {p3 : Int32} {p4 : Int32} {M : gM} (hld : isLa ld) : ∃ r M', F_Main_pot ld p1 p2 p3 p4 M = some (r, M') ∧ True ∧ Kl C1 M zL M' zL := by
  refine Ok.x2 (A := fun (r : Int32) (M' : gM) => True ∧ Kl C1 M zL M' zL) ?_
  unfold F_Main_pot
  refine Ok.c1 (tf_Main_isOne ) (fun r2259 hbr2259 => ?_)
  refine Ok.ite (fun h2260 => ?_) (fun h2260 => ?_)
  · exact ⟨_, rfl, trivial, Kl.rf⟩
  · refine Ok.c1 (tf_Main_isOne ) (fun r2261 hbr2261 => ?_)
    refine Ok.ite (fun h2262 => ?_) (fun h2262 => ?_)
    · exact ⟨_, rfl, trivial, Kl.rf⟩
    · refine Ok.c1 (tf_Main_isOne ) (fun r2263 hbr2263 => ?_)
      refine Ok.ite (fun h2264 => ?_) (fun h2264 => ?_)
      · exact ⟨_, rfl, trivial, Kl.rf⟩
      · refine Ok.c1 (tf_Main_isOne ) (fun r2265 hbr2265 => ?_)
        refine Ok.ite (fun h2266 => ?_) (fun h2266 => ?_)
        · exact ⟨_, rfl, trivial, Kl.rf⟩
        · refine Ok.c2 (tf_PotSearch_find hld isSt_64) (fun r2267 M2268 ⟨hbr2267, k2269⟩ => ?_)
          refine Ok.ite (fun h2270 => ?_) (fun h2270 => ?_)
          · exact ⟨_, rfl, trivial, (Kl.trans Kl.rf k2269)⟩
          · refine Ok.ite (fun h2271 => ?_) (fun h2271 => ?_)
            · exact ⟨_, rfl, trivial, (Kl.trans Kl.rf k2269)⟩
            · refine Ok.ite (fun h2272 => ?_) (fun h2272 => ?_)
              · exact ⟨_, rfl, trivial, (Kl.trans Kl.rf k2269)⟩
              · refine Ok.c1 (tf_Main_at (by decide)) (fun r2273 _ => ?_)
                exact ⟨_, rfl, trivial, (Kl.trans Kl.rf k2269)⟩
set_option maxHeartbeats 4000000 in
set_option maxRecDepth 20000 in
theorem tf_Main_sure {ld : Nat} {p1 : Int32} {M : gM} (hld : isLa ld) : ∃ r M', F_Main_sure ld p1 M = some (r, M') ∧ True ∧ Kl C1 M zL M' zL := by
  refine Ok.x2 (A := fun (r : Int32) (M' : gM) => True ∧ Kl C1 M zL M' zL) ?_
  unfold F_Main_sure
  refine Ok.c1 (tf_Main_isOne ) (fun r2274 hbr2274 => ?_)
  refine Ok.ite (fun h2275 => ?_) (fun h2275 => ?_)
  · exact ⟨_, rfl, trivial, Kl.rf⟩
  · refine Ok.c1 (tf_Told_gather hld) (fun M2276 k2277 => ?_)
    refine Ok.c1 (tf_Told_onlyDish ) (fun r2278 _ => ?_)
    exact ⟨_, rfl, trivial, (Kl.trans Kl.rf k2277)⟩
set_option maxHeartbeats 4000000 in
set_option maxRecDepth 20000 in
theorem tf_Main_taste {ld : Nat} {p1 : Int32} {M : gM} (hld : isLa ld) : ∃ r M', F_Main_taste ld p1 M = some (r, M') ∧ True ∧ Kl C1 M zL M' zL := by
  refine Ok.x2 (A := fun (r : Int32) (M' : gM) => True ∧ Kl C1 M zL M' zL) ?_
  unfold F_Main_taste
  refine Ok.c1 (tf_Main_isOne ) (fun r2279 hbr2279 => ?_)
  refine Ok.ite (fun h2280 => ?_) (fun h2280 => ?_)
  · exact ⟨_, rfl, trivial, Kl.rf⟩
  · refine Ok.c1 (tf_Told_gather hld) (fun M2281 k2282 => ?_)
    refine Ok.c2 (tf_Told_nextTaste hld) (fun r2283 M2284 ⟨_, k2285⟩ => ?_)
    exact ⟨_, rfl, trivial, (Kl.trans (Kl.trans Kl.rf k2282) (Kl.mono k2285 C0_C1))⟩
set_option maxHeartbeats 4000000 in
set_option maxRecDepth 20000 in
theorem tf_MenuSearch_find {Ld1 : Nat} {X2 : Nat} {p3 : Int32} {p4 : Int32} {p5 : Int32} {M : gM} (hLd1 : isLa Ld1) (hX2 : isSt X2) : ∃ r M', F_MenuSearch_find Ld1 X2 p3 p4 p5 M = some (r, M') ∧ (r = 0 ∨ r = 1) ∧ Kl C1 M zL M' zL := by
  refine Ok.x2 (A := fun (r : Int32) (M' : gM) => (r = 0 ∨ r = 1) ∧ Kl C1 M zL M' zL) ?_
  unfold F_MenuSearch_find
  refine Ok.c1 (tf_MenuSearch_lookUnfed hLd1 hX2) (fun M2286 k2287 => ?_)
  refine Ok.c1 (tf_MenuSearch_lookFed hLd1) (fun M2288 k2289 => ?_)
  refine Ok.c1 (tf_Main_wipe (by decide)) (fun M2290 k2291 => ?_)
  refine Ok.nmM (fun M2292 eM2292 => ?_)
  have LP2296 : ∀ (f2293 : Nat) (v2297 : Int32) (M2298 : gM), Kl C1 M zL M2298 zL → ¬ v2297 < 0 → ((1296 : Int32).toInt - v2297.toInt).toNat < f2293 → Ok (H_MenuSearch_find_38 Ld1 X2 p4 f2293 v2297 M2298) (fun q => (q.1 = 0 ∨ q.1 = 1) ∧ Kl C1 M zL q.2 zL) := by
    intro f2293
    induction f2293 with
    | zero => intro v2297 M2298 _ _ hm2295; exact absurd hm2295 (Nat.not_lt_zero _)
    | succ f2293 ih2294 =>
      intro v2297 M2298 k2299 n2300 hm2295
      show Ok (B_MenuSearch_find_38 Ld1 X2 p4 (H_MenuSearch_find_38 Ld1 X2 p4 f2293) v2297 M2298) _
      unfold B_MenuSearch_find_38
      refine Ok.ite (fun h2301 => ?_) (fun h2301 => ?_)
      · unfold J_MenuSearch_find_107
        refine Ok.ite (fun h2302 => ?_) (fun h2302 => ?_)
        · exact ⟨_, rfl, (Or.inl rfl), k2299⟩
        · exact ⟨_, rfl, (Or.inr rfl), k2299⟩
      · refine Ok.c1 (tf_MenuSearch_mealsIfAllFree ) (fun r2303 _ => ?_)
        refine Ok.ite (fun h2304 => ?_) (fun h2304 => ?_)
        · unfold J_MenuSearch_find_85
          refine Ok.c2 (tf_MenuSearch_step ) (fun r2305 M2306 ⟨hbr2305, k2307⟩ => ?_)
          refine Ok.ite (fun h2308 => ?_) (fun h2308 => ?_)
          · unfold J_MenuSearch_find_98
            unfold J_MenuSearch_find_107
            refine Ok.ite (fun h2309 => ?_) (fun h2309 => ?_)
            · exact ⟨_, rfl, (Or.inl rfl), (Kl.trans k2299 k2307)⟩
            · exact ⟨_, rfl, (Or.inr rfl), (Kl.trans k2299 k2307)⟩
          · refine Ok.nmI (fun x2310 ex2310 => ?_)
            exact ih2294 x2310 M2306 (Kl.trans k2299 k2307) (nn_up (y := (1296 : Int32)) h2301 ex2310 n2300) (md_up h2301 ex2310 hm2295)
        · refine Ok.ite (fun h2311 => ?_) (fun h2311 => ?_)
          · unfold J_MenuSearch_find_85
            refine Ok.c2 (tf_MenuSearch_step ) (fun r2312 M2313 ⟨hbr2312, k2314⟩ => ?_)
            refine Ok.ite (fun h2315 => ?_) (fun h2315 => ?_)
            · unfold J_MenuSearch_find_98
              unfold J_MenuSearch_find_107
              refine Ok.ite (fun h2316 => ?_) (fun h2316 => ?_)
              · exact ⟨_, rfl, (Or.inl rfl), (Kl.trans k2299 k2314)⟩
              · exact ⟨_, rfl, (Or.inr rfl), (Kl.trans k2299 k2314)⟩
            · refine Ok.nmI (fun x2317 ex2317 => ?_)
              exact ih2294 x2317 M2313 (Kl.trans k2299 k2314) (nn_up (y := (1296 : Int32)) h2301 ex2317 n2300) (md_up h2301 ex2317 hm2295)
          · refine Ok.nmM (fun M2318 eM2318 => ?_)
            refine Ok.c1 (tf_Main_copyRow (by decide) (by decide)) (fun M2319 k2320 => ?_)
            unfold J_MenuSearch_find_85
            refine Ok.c2 (tf_MenuSearch_step ) (fun r2321 M2322 ⟨hbr2321, k2323⟩ => ?_)
            refine Ok.ite (fun h2324 => ?_) (fun h2324 => ?_)
            · unfold J_MenuSearch_find_98
              unfold J_MenuSearch_find_107
              refine Ok.ite (fun h2325 => ?_) (fun h2325 => ?_)
              · exact ⟨_, rfl, (Or.inl rfl), (Kl.trans (Kl.trans (Kl.wM k2299 rfl eM2318) (Kl.mono k2320 (oneL_S (fun _ => rfl)))) k2323)⟩
              · exact ⟨_, rfl, (Or.inr rfl), (Kl.trans (Kl.trans (Kl.wM k2299 rfl eM2318) (Kl.mono k2320 (oneL_S (fun _ => rfl)))) k2323)⟩
            · refine Ok.nmI (fun x2326 ex2326 => ?_)
              exact ih2294 x2326 M2322 (Kl.trans (Kl.trans (Kl.wM k2299 rfl eM2318) (Kl.mono k2320 (oneL_S (fun _ => rfl)))) k2323) (nn_up (y := (1296 : Int32)) h2301 ex2326 n2300) (md_up h2301 ex2326 hm2295)
  exact LP2296 _ 0 M2292 (Kl.wM (Kl.trans (Kl.trans (Kl.trans Kl.rf k2287) k2289) (Kl.mono k2291 (oneL_S (fun _ => rfl)))) rfl eM2292) (by decide) fu_up
set_option maxHeartbeats 4000000 in
set_option maxRecDepth 20000 in
theorem tf_Main_freest {ld : Nat} {p1 : Int32} {p2 : Int32} {M : gM} (hld : isLa ld) : ∃ r M', F_Main_freest ld p1 p2 M = some (r, M') ∧ True ∧ Kl C0 M zL M' zL := by
  refine Ok.x2 (A := fun (r : Int32) (M' : gM) => True ∧ Kl C0 M zL M' zL) ?_
  unfold F_Main_freest
  refine Ok.c1 (tf_Main_isOne ) (fun r2327 hbr2327 => ?_)
  refine Ok.ite (fun h2328 => ?_) (fun h2328 => ?_)
  · exact ⟨_, rfl, trivial, Kl.rf⟩
  · refine Ok.c1 (tf_Main_isOne ) (fun r2329 hbr2329 => ?_)
    refine Ok.ite (fun h2330 => ?_) (fun h2330 => ?_)
    · exact ⟨_, rfl, trivial, Kl.rf⟩
    · refine Ok.ite (fun h2331 => ?_) (fun h2331 => ?_)
      · exact ⟨_, rfl, trivial, Kl.rf⟩
      · refine Ok.c2 (tf_Main_freestDish hld) (fun r2332 M2333 ⟨_, k2334⟩ => ?_)
        refine Ok.ite (fun h2335 => ?_) (fun h2335 => ?_)
        · exact ⟨_, rfl, trivial, (Kl.trans Kl.rf k2334)⟩
        · refine Ok.c2 (tf_Main_freeBehind hld) (fun r2336 M2337 ⟨_, k2338⟩ => ?_)
          refine Ok.c1 (tf_Int_bitCount ) (fun r2339 _ => ?_)
          exact ⟨_, rfl, trivial, (Kl.trans (Kl.trans Kl.rf k2334) k2338)⟩
set_option maxHeartbeats 4000000 in
set_option maxRecDepth 20000 in
theorem tf_Main_menu {ld : Nat} {p1 : Int32} {p2 : Int32} {p3 : Int32} {p4 : Int32} {M : gM} (hld : isLa ld) : ∃ r M', F_Main_menu ld p1 p2 p3 p4 M = some (r, M') ∧ True ∧ Kl C1 M zL M' zL := by
  refine Ok.x2 (A := fun (r : Int32) (M' : gM) => True ∧ Kl C1 M zL M' zL) ?_
  unfold F_Main_menu
  refine Ok.c1 (tf_Main_isOne ) (fun r2340 hbr2340 => ?_)
  refine Ok.ite (fun h2341 => ?_) (fun h2341 => ?_)
  · exact ⟨_, rfl, trivial, Kl.rf⟩
  · refine Ok.ite (fun h2342 => ?_) (fun h2342 => ?_)
    · exact ⟨_, rfl, trivial, Kl.rf⟩
    · refine Ok.ite (fun h2343 => ?_) (fun h2343 => ?_)
      · exact ⟨_, rfl, trivial, Kl.rf⟩
      · refine Ok.c1 (tf_Main_isOne ) (fun r2344 hbr2344 => ?_)
        refine Ok.ite (fun h2345 => ?_) (fun h2345 => ?_)
        · exact ⟨_, rfl, trivial, Kl.rf⟩
        · refine Ok.ite (fun h2346 => ?_) (fun h2346 => ?_)
          · exact ⟨_, rfl, trivial, Kl.rf⟩
          · refine Ok.ite (fun h2347 => ?_) (fun h2347 => ?_)
            · refine Ok.c2 (tf_MenuSearch_find hld isSt_64) (fun r2348 M2349 ⟨hbr2348, k2350⟩ => ?_)
              refine Ok.ite (fun h2351 => ?_) (fun h2351 => ?_)
              · refine Ok.ite (fun h2352 => ?_) (fun h2352 => ?_)
                · exact ⟨_, rfl, trivial, (Kl.trans Kl.rf k2350)⟩
                · exact ⟨_, rfl, trivial, (Kl.trans Kl.rf k2350)⟩
              · refine Ok.ite (fun h2353 => ?_) (fun h2353 => ?_)
                · exact ⟨_, rfl, trivial, (Kl.trans Kl.rf k2350)⟩
                · refine Ok.c1 (tf_Main_at (by decide)) (fun r2354 _ => ?_)
                  refine Ok.ite (fun h2355 => ?_) (fun h2355 => ?_)
                  · exact ⟨_, rfl, trivial, (Kl.trans Kl.rf k2350)⟩
                  · exact ⟨_, rfl, trivial, (Kl.trans Kl.rf k2350)⟩
            · exact ⟨_, rfl, trivial, Kl.rf⟩
set_option maxHeartbeats 4000000 in
set_option maxRecDepth 20000 in
theorem tf_Main_supper {ld : Nat} {M : gM} (hld : isLa ld) : ∃ r M', F_Main_supper ld M = some (r, M') ∧ True ∧ Kl C0 M zL M' zL := by
  refine Ok.x2 (A := fun (r : Int32) (M' : gM) => True ∧ Kl C0 M zL M' zL) ?_
  unfold F_Main_supper
  refine Ok.ite (fun h2356 => ?_) (fun h2356 => ?_)
  · exact ⟨_, rfl, trivial, Kl.rf⟩
  · have LP2360 : ∀ (f2357 : Nat) (v2361 : Int32) (v2362 : Int32) (M2363 : gM), Kl C0 M zL M2363 zL → ¬ v2362 < 0 → ((M ld 2).toInt - v2362.toInt).toNat < f2357 → Ok (H_Main_supper_16 ld f2357 v2361 v2362 M2363) (fun q => True ∧ Kl C0 M zL q.2 zL) := by
      intro f2357
      induction f2357 with
      | zero => intro v2361 v2362 M2363 _ _ hm2359; exact absurd hm2359 (Nat.not_lt_zero _)
      | succ f2357 ih2358 =>
        intro v2361 v2362 M2363 k2364 n2365 hm2359
        show Ok (B_Main_supper_16 ld (H_Main_supper_16 ld f2357) v2361 v2362 M2363) _
        unfold B_Main_supper_16
        refine Ok.ite (fun h2366 => ?_) (fun h2366 => ?_)
        · exact ⟨_, rfl, trivial, k2364⟩
        · refine Ok.c2 (tf_Main_freestDish hld) (fun r2367 M2368 ⟨_, k2369⟩ => ?_)
          refine Ok.c2 (tf_Main_freeBehind hld) (fun r2370 M2371 ⟨_, k2372⟩ => ?_)
          refine Ok.c1 (tf_Int_bitCount ) (fun r2373 _ => ?_)
          refine Ok.nmI (fun x2374 ex2374 => ?_)
          refine Ok.nmI (fun x2375 ex2375 => ?_)
          exact ih2358 x2374 x2375 M2371 (Kl.trans (Kl.trans k2364 k2369) k2372) (nn_up (y := (M ld 2)) (by rw [← Kl.m k2364 (C0_La_0f hld)]; exact h2366) ex2375 n2365) (md_up (by rw [← Kl.m k2364 (C0_La_0f hld)]; exact h2366) ex2375 hm2359)
    exact LP2360 _ 0 0 M Kl.rf (by decide) fu_up
