set_option maxHeartbeats 4000000 in
set_option maxRecDepth 20000 in
theorem tf_Main_at {a1 N1 : Nat} {p2 : Int32} {M : gM} (hN1 : N1 < 2 ^ 31) : ∃ r, F_Main_at a1 N1 p2 M = some r ∧ True := by
  show Ok _ _
  unfold F_Main_at
  refine Ok.ite (fun h1 => ?_) (fun h1 => ?_)
  · exact ⟨_, rfl, trivial⟩
  · refine Ok.ite (fun h2 => ?_) (fun h2 => ?_)
    · exact ⟨_, rfl, trivial⟩
    · refine Ok.gd (vin_of h1 h2 hN1) ?_
      exact ⟨_, rfl, trivial⟩
set_option maxHeartbeats 4000000 in
set_option maxRecDepth 20000 in
theorem tf_Main_copyRow {a1 N1 : Nat} {a2 N2 : Nat} {M : gM} (hN1 : N1 < 2 ^ 31) (hN2 : N2 < 2 ^ 31) : ∃ M', F_Main_copyRow a1 N1 a2 N2 M = some M' ∧ Kl (oneL a2) M zL M' zL := by
  show Ok _ _
  unfold F_Main_copyRow
  have LP6 : ∀ (f3 : Nat) (v7 : Int32) (M8 : gM), Kl (oneL a2) M zL M8 zL → ¬ v7 < 0 → (((Int32.ofNat N1) : Int32).toInt - v7.toInt).toNat < f3 → Ok (H_Main_copyRow_2 a1 N1 a2 N2 f3 v7 M8) (fun M' => Kl (oneL a2) M zL M' zL) := by
    intro f3
    induction f3 with
    | zero => intro v7 M8 _ _ hm5; exact absurd hm5 (Nat.not_lt_zero _)
    | succ f3 ih4 =>
      intro v7 M8 k9 n10 hm5
      show Ok (B_Main_copyRow_2 a1 N1 a2 N2 (H_Main_copyRow_2 a1 N1 a2 N2 f3) v7 M8) _
      unfold B_Main_copyRow_2
      refine Ok.ite (fun h11 => ?_) (fun h11 => ?_)
      · exact ⟨_, rfl, k9⟩
      · refine Ok.ite (fun h12 => ?_) (fun h12 => ?_)
        · exact ⟨_, rfl, k9⟩
        · refine Ok.gd (vin_of n10 h11 hN1) ?_
          refine Ok.gd (vin_of n10 h12 hN2) ?_
          refine Ok.nmM (fun M13 eM13 => ?_)
          refine Ok.nmI (fun x14 ex14 => ?_)
          exact ih4 x14 M13 (Kl.wM k9 (oneL_self a2 _) eM13) (nn_up (y := ((Int32.ofNat N1) : Int32)) h11 ex14 n10) (md_up h11 ex14 hm5)
  exact LP6 _ 0 M Kl.rf (by decide) fu_up
set_option maxHeartbeats 4000000 in
set_option maxRecDepth 20000 in
theorem tf_Main_hasBit {p1 : Int32} {p2 : Int32}  : ∃ r, F_Main_hasBit p1 p2 = some r ∧ (r = 0 ∨ r = 1) := by
  show Ok _ _
  unfold F_Main_hasBit
  refine Ok.ite (fun h15 => ?_) (fun h15 => ?_)
  · exact ⟨_, rfl, (Or.inl rfl)⟩
  · exact ⟨_, rfl, (Or.inr rfl)⟩
set_option maxHeartbeats 4000000 in
set_option maxRecDepth 20000 in
theorem tf_Main_isOne {p1 : Int32} {p2 : Int32}  : ∃ r, F_Main_isOne p1 p2 = some r ∧ (r = 0 ∨ r = 1) := by
  show Ok _ _
  unfold F_Main_isOne
  refine Ok.ite (fun h16 => ?_) (fun h16 => ?_)
  · exact ⟨_, rfl, (Or.inl rfl)⟩
  · refine Ok.ite (fun h17 => ?_) (fun h17 => ?_)
    · exact ⟨_, rfl, (Or.inl rfl)⟩
    · exact ⟨_, rfl, (Or.inr rfl)⟩
set_option maxHeartbeats 4000000 in
set_option maxRecDepth 20000 in
theorem tf_Main_place  {M : gM} : ∃ r, F_Main_place M = some r ∧ True := by
  show Ok _ _
  unfold F_Main_place
  exact ⟨_, rfl, trivial⟩
set_option maxHeartbeats 4000000 in
set_option maxRecDepth 20000 in
theorem tf_Main_put {a1 N1 : Nat} {p2 : Int32} {p3 : Int32} {M : gM} (hN1 : N1 < 2 ^ 31) : ∃ M', F_Main_put a1 N1 p2 p3 M = some M' ∧ Kl (oneL a1) M zL M' zL := by
  show Ok _ _
  unfold F_Main_put
  refine Ok.ite (fun h18 => ?_) (fun h18 => ?_)
  · exact ⟨_, rfl, Kl.rf⟩
  · refine Ok.ite (fun h19 => ?_) (fun h19 => ?_)
    · exact ⟨_, rfl, Kl.rf⟩
    · refine Ok.gd (vin_of h18 h19 hN1) ?_
      refine Ok.nmM (fun M20 eM20 => ?_)
      exact ⟨_, rfl, (Kl.wM Kl.rf (oneL_self a1 _) eM20)⟩
set_option maxHeartbeats 4000000 in
set_option maxRecDepth 20000 in
theorem tf_Main_wipe {a1 N1 : Nat} {M : gM} (hN1 : N1 < 2 ^ 31) : ∃ M', F_Main_wipe a1 N1 M = some M' ∧ Kl (oneL a1) M zL M' zL := by
  show Ok _ _
  unfold F_Main_wipe
  have LP24 : ∀ (f21 : Nat) (v25 : Int32) (M26 : gM), Kl (oneL a1) M zL M26 zL → ¬ v25 < 0 → (((Int32.ofNat N1) : Int32).toInt - v25.toInt).toNat < f21 → Ok (H_Main_wipe_2 a1 N1 f21 v25 M26) (fun M' => Kl (oneL a1) M zL M' zL) := by
    intro f21
    induction f21 with
    | zero => intro v25 M26 _ _ hm23; exact absurd hm23 (Nat.not_lt_zero _)
    | succ f21 ih22 =>
      intro v25 M26 k27 n28 hm23
      show Ok (B_Main_wipe_2 a1 N1 (H_Main_wipe_2 a1 N1 f21) v25 M26) _
      unfold B_Main_wipe_2
      refine Ok.ite (fun h29 => ?_) (fun h29 => ?_)
      · exact ⟨_, rfl, k27⟩
      · refine Ok.gd (vin_of n28 h29 hN1) ?_
        refine Ok.nmM (fun M30 eM30 => ?_)
        refine Ok.nmI (fun x31 ex31 => ?_)
        exact ih22 x31 M30 (Kl.wM k27 (oneL_self a1 _) eM30) (nn_up (y := ((Int32.ofNat N1) : Int32)) h29 ex31 n28) (md_up h29 ex31 hm23)
  exact LP24 _ 0 M Kl.rf (by decide) fu_up
set_option maxHeartbeats 4000000 in
set_option maxRecDepth 20000 in
theorem tf_Land_stirred {p1 : Int32} {p2 : Int32}  : ∃ r, F_Land_stirred p1 p2 = some r ∧ True := by
  show Ok _ _
  unfold F_Land_stirred
  refine Ok.nmI (fun x32 ex32 => ?_)
  exact ⟨_, rfl, trivial⟩
set_option maxHeartbeats 4000000 in
set_option maxRecDepth 20000 in
theorem tf_Law_isTold {Wl0 : Nat} {M : gM} (hWl0 : isLw Wl0) : ∃ r, F_Law_isTold Wl0 M = some r ∧ (r = 0 ∨ r = 1) := by
  show Ok _ _
  unfold F_Law_isTold
  refine Ok.ite (fun h33 => ?_) (fun h33 => ?_)
  · exact ⟨_, rfl, (Or.inl rfl)⟩
  · exact ⟨_, rfl, (Or.inr rfl)⟩
set_option maxHeartbeats 4000000 in
set_option maxRecDepth 20000 in
theorem tf_Law_looksAt {Wl0 : Nat} {p1 : Int32} {M : gM} (hWl0 : isLw Wl0) : ∃ r, F_Law_looksAt Wl0 p1 M = some r ∧ (r = 0 ∨ r = 1) := by
  show Ok _ _
  unfold F_Law_looksAt
  have LP37 : ∀ (f34 : Nat) (v38 : Int32), ¬ v38 < 0 → ((M Wl0 1).toInt - v38.toInt).toNat < f34 → Ok (H_Law_looksAt_2 Wl0 p1 M f34 v38) (fun r => (r = 0 ∨ r = 1)) := by
    intro f34
    induction f34 with
    | zero => intro v38 _ hm36; exact absurd hm36 (Nat.not_lt_zero _)
    | succ f34 ih35 =>
      intro v38 n39 hm36
      show Ok (B_Law_looksAt_2 Wl0 p1 M (H_Law_looksAt_2 Wl0 p1 M f34) v38) _
      unfold B_Law_looksAt_2
      refine Ok.ite (fun h40 => ?_) (fun h40 => ?_)
      · exact ⟨_, rfl, (Or.inl rfl)⟩
      · refine Ok.ite (fun h41 => ?_) (fun h41 => ?_)
        · exact ⟨_, rfl, (Or.inl rfl)⟩
        · refine Ok.gd (vin_of n39 h41 (by decide)) ?_
          refine Ok.ite (fun h42 => ?_) (fun h42 => ?_)
          · exact ⟨_, rfl, (Or.inr rfl)⟩
          · refine Ok.nmI (fun x43 ex43 => ?_)
            exact ih35 x43 (nn_up (y := (M Wl0 1)) h40 ex43 n39) (md_up h40 ex43 hm36)
  exact LP37 _ 0 (by decide) fu_up
set_option maxHeartbeats 4000000 in
set_option maxRecDepth 20000 in
theorem tf_Law_reckon {p1 : Int32} {p2 : Int32} {p3 : Int32}  : ∃ r, F_Law_reckon p1 p2 p3 = some r ∧ True := by
  show Ok _ _
  unfold F_Law_reckon
  refine Ok.ite (fun h44 => ?_) (fun h44 => ?_)
  · exact ⟨_, rfl, trivial⟩
  refine Ok.ite (fun h45 => ?_) (fun h45 => ?_)
  · exact ⟨_, rfl, trivial⟩
  refine Ok.ite (fun h46 => ?_) (fun h46 => ?_)
  · refine Ok.ite (fun h47 => ?_) (fun h47 => ?_)
    · exact ⟨_, rfl, trivial⟩
    · refine Ok.gd h47 ?_
      exact ⟨_, rfl, trivial⟩
  refine Ok.ite (fun h48 => ?_) (fun h48 => ?_)
  · exact ⟨_, rfl, trivial⟩
  refine Ok.ite (fun h49 => ?_) (fun h49 => ?_)
  · exact ⟨_, rfl, trivial⟩
  · refine Ok.gd h49 ?_
    exact ⟨_, rfl, trivial⟩
set_option maxHeartbeats 4000000 in
set_option maxRecDepth 20000 in
theorem tf_MenuSearch_indexOf {p1 : Int32} {p2 : Int32} {p3 : Int32}  : ∃ r, F_MenuSearch_indexOf p1 p2 p3 = some r ∧ True := by
  show Ok _ _
  unfold F_MenuSearch_indexOf
  exact ⟨_, rfl, trivial⟩
set_option maxHeartbeats 4000000 in
set_option maxRecDepth 20000 in
theorem tf_Int_bitCount {p1 : Int32}  : ∃ r, F_Int_bitCount p1 = some r ∧ True := by
  show Ok _ _
  unfold F_Int_bitCount
  refine Ok.nmI (fun x50 ex50 => ?_)
  refine Ok.nmI (fun x51 ex51 => ?_)
  refine Ok.nmI (fun x52 ex52 => ?_)
  refine Ok.nmI (fun x53 ex53 => ?_)
  refine Ok.nmI (fun x54 ex54 => ?_)
  exact ⟨_, rfl, trivial⟩
set_option maxHeartbeats 4000000 in
set_option maxRecDepth 20000 in
theorem tf_Main_within {p1 : Int32} {p2 : Int32} {p3 : Int32}  : ∃ r, F_Main_within p1 p2 p3 = some r ∧ True := by
  show Ok _ _
  unfold F_Main_within
  exact ⟨_, rfl, trivial⟩
set_option maxHeartbeats 4000000 in
set_option maxRecDepth 20000 in
theorem tf_Land_broughtBy {Ld0 : Nat} {p1 : Int32} {p2 : Int32} {M : gM} (hLd0 : isLa Ld0) : ∃ r, F_Land_broughtBy Ld0 p1 p2 M = some r ∧ True := by
  show Ok _ _
  unfold F_Land_broughtBy
  refine Ok.c1 (tf_Main_at (by decide)) (fun r55 _ => ?_)
  exact ⟨_, rfl, trivial⟩
set_option maxHeartbeats 4000000 in
set_option maxRecDepth 20000 in
theorem tf_Land_freeUnder {Ld0 : Nat} {p1 : Int32} {p2 : Int32} {M : gM} (hLd0 : isLa Ld0) : ∃ r, F_Land_freeUnder Ld0 p1 p2 M = some r ∧ True := by
  show Ok _ _
  unfold F_Land_freeUnder
  have LP59 : ∀ (f56 : Nat) (v60 : Int32) (v61 : Int32), ¬ v61 < 0 → ((M Ld0 3).toInt - v61.toInt).toNat < f56 → Ok (H_Land_freeUnder_5 Ld0 p1 p2 M f56 v60 v61) (fun r => True) := by
    intro f56
    induction f56 with
    | zero => intro v60 v61 _ hm58; exact absurd hm58 (Nat.not_lt_zero _)
    | succ f56 ih57 =>
      intro v60 v61 n62 hm58
      show Ok (B_Land_freeUnder_5 Ld0 p1 p2 M (H_Land_freeUnder_5 Ld0 p1 p2 M f56) v60 v61) _
      unfold B_Land_freeUnder_5
      refine Ok.ite (fun h63 => ?_) (fun h63 => ?_)
      · exact ⟨_, rfl, trivial⟩
      · refine Ok.c1 (tf_Main_at (by decide)) (fun r64 _ => ?_)
        refine Ok.ite (fun h65 => ?_) (fun h65 => ?_)
        · refine Ok.c1 (tf_Main_at (by decide)) (fun r66 _ => ?_)
          refine Ok.ite (fun h67 => ?_) (fun h67 => ?_)
          · unfold J_Land_freeUnder_47
            refine Ok.nmI (fun x68 ex68 => ?_)
            exact ih57 v60 x68 (nn_up (y := (M Ld0 3)) h63 ex68 n62) (md_up h63 ex68 hm58)
          · refine Ok.nmI (fun x69 ex69 => ?_)
            unfold J_Land_freeUnder_47
            refine Ok.nmI (fun x70 ex70 => ?_)
            exact ih57 x69 x70 (nn_up (y := (M Ld0 3)) h63 ex70 n62) (md_up h63 ex70 hm58)
        · unfold J_Land_freeUnder_47
          refine Ok.nmI (fun x71 ex71 => ?_)
          exact ih57 v60 x71 (nn_up (y := (M Ld0 3)) h63 ex71 n62) (md_up h63 ex71 hm58)
  exact LP59 _ 0 0 (by decide) fu_up
set_option maxHeartbeats 4000000 in
set_option maxRecDepth 20000 in
theorem tf_Land_inDish {Ld0 : Nat} {p1 : Int32} {p2 : Int32} {M : gM} (hLd0 : isLa Ld0) : ∃ r, F_Land_inDish Ld0 p1 p2 M = some r ∧ True := by
  show Ok _ _
  unfold F_Land_inDish
  refine Ok.c1 (tf_Main_at (by decide)) (fun r72 _ => ?_)
  exact ⟨_, rfl, trivial⟩
set_option maxHeartbeats 4000000 in
set_option maxRecDepth 20000 in
theorem tf_Land_lot {p1 : Int32} {p2 : Int32} {p3 : Int32}  : ∃ r, F_Land_lot p1 p2 p3 = some r ∧ True := by
  show Ok _ _
  unfold F_Land_lot
  refine Ok.c1 (tf_Land_stirred ) (fun r73 _ => ?_)
  refine Ok.c1 (tf_Land_stirred ) (fun r74 _ => ?_)
  refine Ok.ite (fun h75 => ?_) (fun h75 => ?_)
  · exact ⟨_, rfl, trivial⟩
  · refine Ok.gd (fun q => h75 (by rw [q]; decide)) ?_
    exact ⟨_, rfl, trivial⟩
set_option maxHeartbeats 4000000 in
set_option maxRecDepth 20000 in
theorem tf_Law_let {Wl0 : Nat} {p1 : Int32} {p2 : Int32} {M : gM} (hWl0 : isLw Wl0) : ∃ M', F_Law_let Wl0 p1 p2 M = some M' ∧ Kl C0 M zL M' zL := by
  show Ok _ _
  unfold F_Law_let
  refine Ok.c1 (tf_Main_put (by decide)) (fun M76 k77 => ?_)
  exact ⟨_, rfl, (Kl.trans Kl.rf (Kl.mono k77 (oneL_S (fun j => C0_Lw_2 hWl0 j))))⟩
set_option maxHeartbeats 4000000 in
set_option maxRecDepth 20000 in
theorem tf_Law_value {Wl0 : Nat} {M : gM} (hWl0 : isLw Wl0) : ∃ r M', F_Law_value Wl0 M = some (r, M') ∧ True ∧ Kl C0 M zL M' zL := by
  refine Ok.x2 (A := fun r M' => True ∧ Kl C0 M zL M' zL) ?_
  unfold F_Law_value
  have LP81 : ∀ (f78 : Nat) (v82 : Int32) (v83 : Int32) (v84 : Int32) (M85 : gM), Kl C0 M zL M85 zL → ¬ v84 < 0 → ((400 : Int32).toInt - v84.toInt).toNat < f78 → Ok (H_Law_value_6 Wl0 f78 v82 v83 v84 M85) (fun q => True ∧ Kl C0 M zL q.2 zL) := by
    intro f78
    induction f78 with
    | zero => intro v82 v83 v84 M85 _ _ hm80; exact absurd hm80 (Nat.not_lt_zero _)
    | succ f78 ih79 =>
      intro v82 v83 v84 M85 k86 n87 hm80
      show Ok (B_Law_value_6 Wl0 (H_Law_value_6 Wl0 f78) v82 v83 v84 M85) _
      unfold B_Law_value_6
      refine Ok.ite (fun h88 => ?_) (fun h88 => ?_)
      · unfold J_Law_value_232
        refine Ok.c1 (tf_Main_at (by decide)) (fun r89 _ => ?_)
        exact ⟨_, rfl, trivial, k86⟩
      · refine Ok.ite (fun h90 => ?_) (fun h90 => ?_)
        · unfold J_Law_value_232
          refine Ok.c1 (tf_Main_at (by decide)) (fun r91 _ => ?_)
          exact ⟨_, rfl, trivial, k86⟩
        · refine Ok.ite (fun h92 => ?_) (fun h92 => ?_)
          · unfold J_Law_value_232
            refine Ok.c1 (tf_Main_at (by decide)) (fun r93 _ => ?_)
            exact ⟨_, rfl, trivial, k86⟩
          · refine Ok.ite (fun h94 => ?_) (fun h94 => ?_)
            · unfold J_Law_value_232
              refine Ok.c1 (tf_Main_at (by decide)) (fun r95 _ => ?_)
              exact ⟨_, rfl, trivial, k86⟩
            · refine Ok.gd (vin_of h90 h94 (by decide)) ?_
              refine Ok.nmI (fun x96 ex96 => ?_)
              refine Ok.nmI (fun x97 ex97 => ?_)
              refine Ok.ite (fun h98 => ?_) (fun h98 => ?_)
              · unfold J_Law_value_53
                unfold J_Law_value_232
                refine Ok.c1 (tf_Main_at (by decide)) (fun r99 _ => ?_)
                exact ⟨_, rfl, trivial, k86⟩
              · refine Ok.ite (fun h100 => ?_) (fun h100 => ?_)
                · refine Ok.ite (fun h101 => ?_) (fun h101 => ?_)
                  · exact ⟨_, rfl, trivial, k86⟩
                  · refine Ok.ite (fun h102 => ?_) (fun h102 => ?_)
                    · refine Ok.gd (vin_s2 h101 h102) ?_
                      refine Ok.nmI (fun x103 ex103 => ?_)
                      refine Ok.gd (vin_s1 h101 h102) ?_
                      refine Ok.nmI (fun x104 ex104 => ?_)
                      refine Ok.nmI (fun x105 ex105 => ?_)
                      refine Ok.ite (fun h106 => ?_) (fun h106 => ?_)
                      · refine Ok.ite (fun h107 => ?_) (fun h107 => ?_)
                        · refine Ok.c1 (tf_Main_at (by decide)) (fun r108 _ => ?_)
                          unfold J_Law_value_185
                          unfold J_Law_value_226
                          refine Ok.nmI (fun x109 ex109 => ?_)
                          exact ih79 x105 r108 x109 M85 k86 (nn_up (y := (400 : Int32)) h88 ex109 n87) (md_up h88 ex109 hm80)
                        · unfold J_Law_value_185
                          refine Ok.nmI (fun x110 ex110 => ?_)
                          unfold J_Law_value_226
                          refine Ok.nmI (fun x111 ex111 => ?_)
                          exact ih79 x105 x110 x111 M85 k86 (nn_up (y := (400 : Int32)) h88 ex111 n87) (md_up h88 ex111 hm80)
                      · refine Ok.ite (fun h112 => ?_) (fun h112 => ?_)
                        · refine Ok.ite (fun h113 => ?_) (fun h113 => ?_)
                          · exact ⟨_, rfl, trivial, k86⟩
                          · unfold J_Law_value_204
                            refine Ok.c1 (tf_Law_reckon ) (fun r114 _ => ?_)
                            refine Ok.gd (by rw [ex105]; exact vin_a2 h101 h102) ?_
                            refine Ok.nmM (fun M115 eM115 => ?_)
                            refine Ok.nmI (fun x116 ex116 => ?_)
                            unfold J_Law_value_226
                            refine Ok.nmI (fun x117 ex117 => ?_)
                            exact ih79 x116 x97 x117 M115 (Kl.wM k86 (C0_Lw_3 hWl0 _) eM115) (nn_up (y := (400 : Int32)) h88 ex117 n87) (md_up h88 ex117 hm80)
                        · unfold J_Law_value_204
                          refine Ok.c1 (tf_Law_reckon ) (fun r118 _ => ?_)
                          refine Ok.gd (by rw [ex105]; exact vin_a2 h101 h102) ?_
                          refine Ok.nmM (fun M119 eM119 => ?_)
                          refine Ok.nmI (fun x120 ex120 => ?_)
                          unfold J_Law_value_226
                          refine Ok.nmI (fun x121 ex121 => ?_)
                          exact ih79 x120 x97 x121 M119 (Kl.wM k86 (C0_Lw_3 hWl0 _) eM119) (nn_up (y := (400 : Int32)) h88 ex121 n87) (md_up h88 ex121 hm80)
                    · exact ⟨_, rfl, trivial, k86⟩
                · refine Ok.ite (fun h122 => ?_) (fun h122 => ?_)
                  · exact ⟨_, rfl, trivial, k86⟩
                  · refine Ok.ite (fun h123 => ?_) (fun h123 => ?_)
                    · refine Ok.ite (fun h124 => ?_) (fun h124 => ?_)
                      · refine Ok.c1 (tf_Main_at (by decide)) (fun r125 _ => ?_)
                        unfold J_Law_value_110
                        refine Ok.gd (vin_of h122 (fun q => i_nl q h123) (by decide)) ?_
                        refine Ok.nmM (fun M126 eM126 => ?_)
                        refine Ok.nmI (fun x127 ex127 => ?_)
                        unfold J_Law_value_226
                        refine Ok.nmI (fun x128 ex128 => ?_)
                        exact ih79 x127 x97 x128 M126 (Kl.wM k86 (C0_Lw_3 hWl0 _) eM126) (nn_up (y := (400 : Int32)) h88 ex128 n87) (md_up h88 ex128 hm80)
                      · unfold J_Law_value_110
                        refine Ok.gd (vin_of h122 (fun q => i_nl q h123) (by decide)) ?_
                        refine Ok.nmM (fun M129 eM129 => ?_)
                        refine Ok.nmI (fun x130 ex130 => ?_)
                        unfold J_Law_value_226
                        refine Ok.nmI (fun x131 ex131 => ?_)
                        exact ih79 x130 x97 x131 M129 (Kl.wM k86 (C0_Lw_3 hWl0 _) eM129) (nn_up (y := (400 : Int32)) h88 ex131 n87) (md_up h88 ex131 hm80)
                    · exact ⟨_, rfl, trivial, k86⟩
  exact LP81 _ 0 0 0 M Kl.rf (by decide) fu_up
set_option maxHeartbeats 4000000 in
set_option maxRecDepth 20000 in
theorem tf_MenuSearch_isFree {p1 : Int32} {p2 : Int32} {p3 : Int32} {M : gM} : ∃ r, F_MenuSearch_isFree p1 p2 p3 M = some r ∧ (r = 0 ∨ r = 1) := by
  show Ok _ _
  unfold F_MenuSearch_isFree
  refine Ok.ite (fun h132 => ?_) (fun h132 => ?_)
  · refine Ok.c1 (tf_MenuSearch_indexOf ) (fun r133 _ => ?_)
    refine Ok.ite (fun h134 => ?_) (fun h134 => ?_)
    · exact ⟨_, rfl, (Or.inl rfl)⟩
    · refine Ok.ite (fun h135 => ?_) (fun h135 => ?_)
      · exact ⟨_, rfl, (Or.inl rfl)⟩
      · refine Ok.gd (vin_of h134 h135 (by decide)) ?_
        refine Ok.ite (fun h136 => ?_) (fun h136 => ?_)
        · exact ⟨_, rfl, (Or.inl rfl)⟩
        · exact ⟨_, rfl, (Or.inr rfl)⟩
  · refine Ok.ite (fun h137 => ?_) (fun h137 => ?_)
    · exact ⟨_, rfl, (Or.inl rfl)⟩
    · refine Ok.ite (fun h138 => ?_) (fun h138 => ?_)
      · exact ⟨_, rfl, (Or.inl rfl)⟩
      · refine Ok.gd (vin_of h137 h138 (by decide)) ?_
        refine Ok.ite (fun h139 => ?_) (fun h139 => ?_)
        · exact ⟨_, rfl, (Or.inl rfl)⟩
        · exact ⟨_, rfl, (Or.inr rfl)⟩
set_option maxHeartbeats 4000000 in
set_option maxRecDepth 20000 in
theorem tf_MenuSearch_step {p1 : Int32} {p2 : Int32} {M : gM} : ∃ r M', F_MenuSearch_step p1 p2 M = some (r, M') ∧ (r = 0 ∨ r = 1) ∧ Kl C1 M zL M' zL := by
  refine Ok.x2 (A := fun r M' => (r = 0 ∨ r = 1) ∧ Kl C1 M zL M' zL) ?_
  unfold F_MenuSearch_step
  refine Ok.nmI (fun x140 ex140 => ?_)
  have LP144 : ∀ (f141 : Nat) (v145 : Int32) (M146 : gM), Kl C1 M zL M146 zL → (v145.toInt + 1).toNat < f141 → Ok (H_MenuSearch_step_4 p2 f141 v145 M146) (fun q => (q.1 = 0 ∨ q.1 = 1) ∧ Kl C1 M zL q.2 zL) := by
    intro f141
    induction f141 with
    | zero => intro v145 M146 _ hm143; exact absurd hm143 (Nat.not_lt_zero _)
    | succ f141 ih142 =>
      intro v145 M146 k147 hm143
      show Ok (B_MenuSearch_step_4 p2 (H_MenuSearch_step_4 p2 f141) v145 M146) _
      unfold B_MenuSearch_step_4
      refine Ok.ite (fun h148 => ?_) (fun h148 => ?_)
      · exact ⟨_, rfl, (Or.inl rfl), k147⟩
      · refine Ok.c1 (tf_Main_at (by decide)) (fun r149 _ => ?_)
        refine Ok.ite (fun h150 => ?_) (fun h150 => ?_)
        · refine Ok.c1 (tf_Main_put (by decide)) (fun M151 k152 => ?_)
          refine Ok.nmI (fun x153 ex153 => ?_)
          exact ih142 x153 M151 (Kl.trans k147 (Kl.mono k152 (oneL_S (fun _ => rfl)))) (md_dn h148 ex153 hm143)
        · unfold J_MenuSearch_step_24
          refine Ok.c1 (tf_Main_put (by decide)) (fun M154 k155 => ?_)
          exact ⟨_, rfl, (Or.inr rfl), (Kl.trans k147 (Kl.mono k155 (oneL_S (fun _ => rfl))))⟩
  exact LP144 _ x140 M Kl.rf fu_dn
set_option maxHeartbeats 4000000 in
set_option maxRecDepth 20000 in
theorem tf_PotSearch_fillFrom {X1 : Nat} {p2 : Int32} {p3 : Int32} {M : gM} (hX1 : isSt X1) : ∃ M', F_PotSearch_fillFrom X1 p2 p3 M = some M' ∧ Kl C1 M zL M' zL := by
  show Ok _ _
  unfold F_PotSearch_fillFrom
  have LP159 : ∀ (f156 : Nat) (v160 : Int32) (v161 : Int32) (M162 : gM), Kl C1 M zL M162 zL → ((6 : Int32).toInt - v161.toInt).toNat < f156 → Ok (H_PotSearch_fillFrom_6 X1 f156 v160 v161 M162) (fun M' => Kl C1 M zL M' zL) := by
    intro f156
    induction f156 with
    | zero => intro v160 v161 M162 _ hm158; exact absurd hm158 (Nat.not_lt_zero _)
    | succ f156 ih157 =>
      intro v160 v161 M162 k163 hm158
      show Ok (B_PotSearch_fillFrom_6 X1 (H_PotSearch_fillFrom_6 X1 f156) v160 v161 M162) _
      unfold B_PotSearch_fillFrom_6
      refine Ok.ite (fun h164 => ?_) (fun h164 => ?_)
      · exact ⟨_, rfl, k163⟩
      · refine Ok.c1 (tf_Main_at (by decide)) (fun r165 _ => ?_)
        refine Ok.nmI (fun x166 ex166 => ?_)
        refine Ok.c1 (tf_Main_put (by decide)) (fun M167 k168 => ?_)
        refine Ok.nmI (fun x169 ex169 => ?_)
        refine Ok.nmI (fun x170 ex170 => ?_)
        exact ih157 x169 x170 M167 (Kl.trans k163 (Kl.mono k168 (oneL_S (fun _ => rfl)))) (md_up h164 ex170 hm158)
  exact LP159 _ p3 p2 M Kl.rf fu_up
set_option maxHeartbeats 4000000 in
set_option maxRecDepth 20000 in
theorem tf_Slots_full  {M : gM} : ∃ r, F_Slots_full M = some r ∧ True := by
  show Ok _ _
  unfold F_Slots_full
  refine Ok.c1 (tf_Int_bitCount ) (fun r171 _ => ?_)
  exact ⟨_, rfl, trivial⟩
set_option maxHeartbeats 4000000 in
set_option maxRecDepth 20000 in
theorem tf_State_agoOf {X0 : Nat} {p1 : Int32} {M : gM} (hX0 : isSt X0) : ∃ r, F_State_agoOf X0 p1 M = some r ∧ True := by
  show Ok _ _
  unfold F_State_agoOf
  refine Ok.c1 (tf_Main_at (by decide)) (fun r172 _ => ?_)
  exact ⟨_, rfl, trivial⟩
set_option maxHeartbeats 4000000 in
set_option maxRecDepth 20000 in
theorem tf_State_allMeals {X0 : Nat} {M : gM} (hX0 : isSt X0) : ∃ r, F_State_allMeals X0 M = some r ∧ True := by
  show Ok _ _
  unfold F_State_allMeals
  have LP176 : ∀ (f173 : Nat) (v177 : Int32) (v178 : Int32), ¬ v178 < 0 → ((4 : Int32).toInt - v178.toInt).toNat < f173 → Ok (H_State_allMeals_4 X0 M f173 v177 v178) (fun r => True) := by
    intro f173
    induction f173 with
    | zero => intro v177 v178 _ hm175; exact absurd hm175 (Nat.not_lt_zero _)
    | succ f173 ih174 =>
      intro v177 v178 n179 hm175
      show Ok (B_State_allMeals_4 X0 M (H_State_allMeals_4 X0 M f173) v177 v178) _
      unfold B_State_allMeals_4
      refine Ok.ite (fun h180 => ?_) (fun h180 => ?_)
      · exact ⟨_, rfl, trivial⟩
      · refine Ok.c1 (tf_Main_at (by decide)) (fun r181 _ => ?_)
        refine Ok.nmI (fun x182 ex182 => ?_)
        refine Ok.nmI (fun x183 ex183 => ?_)
        exact ih174 x182 x183 (nn_up (y := (4 : Int32)) h180 ex183 n179) (md_up h180 ex183 hm175)
  exact LP176 _ 0 0 (by decide) fu_up
set_option maxHeartbeats 4000000 in
set_option maxRecDepth 20000 in
theorem tf_State_begin {X0 : Nat} {Ld1 : Nat} {M : gM} (hX0 : isSt X0) (hLd1 : isLa Ld1) : ∃ M', F_State_begin X0 Ld1 M = some M' ∧ Kl (CX X0) M zL M' zL := by
  show Ok _ _
  unfold F_State_begin
  refine Ok.nmM (fun M184 eM184 => ?_)
  refine Ok.nmM (fun M185 eM185 => ?_)
  refine Ok.nmM (fun M186 eM186 => ?_)
  refine Ok.nmM (fun M187 eM187 => ?_)
  refine Ok.c1 (tf_Main_wipe (by decide)) (fun M188 k189 => ?_)
  refine Ok.c1 (tf_Main_wipe (by decide)) (fun M190 k191 => ?_)
  refine Ok.c1 (tf_Main_wipe (by decide)) (fun M192 k193 => ?_)
  refine Ok.c1 (tf_Main_wipe (by decide)) (fun M194 k195 => ?_)
  refine Ok.c1 (tf_Main_wipe (by decide)) (fun M196 k197 => ?_)
  have LP201 : ∀ (f198 : Nat) (v202 : Int32) (M203 : gM), Kl (CX X0) M zL M203 zL → ¬ v202 < 0 → ((6 : Int32).toInt - v202.toInt).toNat < f198 → Ok (H_State_begin_58 X0 Ld1 f198 v202 M203) (fun M' => Kl (CX X0) M zL M' zL) := by
    intro f198
    induction f198 with
    | zero => intro v202 M203 _ _ hm200; exact absurd hm200 (Nat.not_lt_zero _)
    | succ f198 ih199 =>
      intro v202 M203 k204 n205 hm200
      show Ok (B_State_begin_58 X0 Ld1 (H_State_begin_58 X0 Ld1 f198) v202 M203) _
      unfold B_State_begin_58
      refine Ok.ite (fun h206 => ?_) (fun h206 => ?_)
      · exact ⟨_, rfl, k204⟩
      · refine Ok.ite (fun h207 => ?_) (fun h207 => ?_)
        · unfold J_State_begin_89
          refine Ok.c1 (tf_Main_put (by decide)) (fun M208 k209 => ?_)
          refine Ok.nmI (fun x210 ex210 => ?_)
          exact ih199 x210 M208 (Kl.trans k204 (Kl.mono k209 (oneL_S (fun _ => CX_o ⟨by omega, by omega⟩)))) (nn_up (y := (6 : Int32)) h206 ex210 n205) (md_up h206 ex210 hm200)
        · refine Ok.c1 (tf_Main_at (by decide)) (fun r211 _ => ?_)
          unfold J_State_begin_89
          refine Ok.c1 (tf_Main_put (by decide)) (fun M212 k213 => ?_)
          refine Ok.nmI (fun x214 ex214 => ?_)
          exact ih199 x214 M212 (Kl.trans k204 (Kl.mono k213 (oneL_S (fun _ => CX_o ⟨by omega, by omega⟩)))) (nn_up (y := (6 : Int32)) h206 ex214 n205) (md_up h206 ex214 hm200)
  exact LP201 _ 0 M196 (Kl.trans (Kl.trans (Kl.trans (Kl.trans (Kl.trans (Kl.wM (Kl.wM (Kl.wM (Kl.wM Kl.rf (CX_o ⟨by omega, by omega⟩) eM184) (CX_o ⟨by omega, by omega⟩) eM185) (CX_o ⟨by omega, by omega⟩) eM186) (CX_o ⟨by omega, by omega⟩) eM187) (Kl.mono k189 (oneL_S (fun _ => CX_o ⟨by omega, by omega⟩)))) (Kl.mono k191 (oneL_S (fun _ => CX_o ⟨by omega, by omega⟩)))) (Kl.mono k193 (oneL_S (fun _ => CX_o ⟨by omega, by omega⟩)))) (Kl.mono k195 (oneL_S (fun _ => CX_o ⟨by omega, by omega⟩)))) (Kl.mono k197 (oneL_S (fun _ => CX_o ⟨by omega, by omega⟩)))) (by decide) fu_up
set_option maxHeartbeats 4000000 in
set_option maxRecDepth 20000 in
theorem tf_State_copyFrom {X0 : Nat} {X1 : Nat} {M : gM} (hX0 : isSt X0) (hX1 : isSt X1) : ∃ M', F_State_copyFrom X0 X1 M = some M' ∧ Kl (CX X0) M zL M' zL := by
  show Ok _ _
  unfold F_State_copyFrom
  refine Ok.nmM (fun M215 eM215 => ?_)
  refine Ok.nmM (fun M216 eM216 => ?_)
  refine Ok.nmM (fun M217 eM217 => ?_)
  refine Ok.nmM (fun M218 eM218 => ?_)
  refine Ok.c1 (tf_Main_copyRow (by decide) (by decide)) (fun M219 k220 => ?_)
  refine Ok.c1 (tf_Main_copyRow (by decide) (by decide)) (fun M221 k222 => ?_)
  refine Ok.c1 (tf_Main_copyRow (by decide) (by decide)) (fun M223 k224 => ?_)
  refine Ok.c1 (tf_Main_copyRow (by decide) (by decide)) (fun M225 k226 => ?_)
  refine Ok.c1 (tf_Main_copyRow (by decide) (by decide)) (fun M227 k228 => ?_)
  refine Ok.c1 (tf_Main_copyRow (by decide) (by decide)) (fun M229 k230 => ?_)
  exact ⟨_, rfl, (Kl.trans (Kl.trans (Kl.trans (Kl.trans (Kl.trans (Kl.trans (Kl.wM (Kl.wM (Kl.wM (Kl.wM Kl.rf (CX_o ⟨by omega, by omega⟩) eM215) (CX_o ⟨by omega, by omega⟩) eM216) (CX_o ⟨by omega, by omega⟩) eM217) (CX_o ⟨by omega, by omega⟩) eM218) (Kl.mono k220 (oneL_S (fun _ => CX_o ⟨by omega, by omega⟩)))) (Kl.mono k222 (oneL_S (fun _ => CX_o ⟨by omega, by omega⟩)))) (Kl.mono k224 (oneL_S (fun _ => CX_o ⟨by omega, by omega⟩)))) (Kl.mono k226 (oneL_S (fun _ => CX_o ⟨by omega, by omega⟩)))) (Kl.mono k228 (oneL_S (fun _ => CX_o ⟨by omega, by omega⟩)))) (Kl.mono k230 (oneL_S (fun _ => CX_o ⟨by omega, by omega⟩))))⟩
set_option maxHeartbeats 4000000 in
set_option maxRecDepth 20000 in
theorem tf_State_eatServed {X0 : Nat} {p1 : Int32} {M : gM} (hX0 : isSt X0) : ∃ M', F_State_eatServed X0 p1 M = some M' ∧ Kl (CX X0) M zL M' zL := by
  show Ok _ _
  unfold F_State_eatServed
  have LP234 : ∀ (f231 : Nat) (v235 : Int32) (M236 : gM), Kl (CX X0) M zL M236 zL → ¬ v235 < 0 → ((3 : Int32).toInt - v235.toInt).toNat < f231 → Ok (H_State_eatServed_2 X0 p1 f231 v235 M236) (fun M' => Kl (CX X0) M zL M' zL) := by
    intro f231
    induction f231 with
    | zero => intro v235 M236 _ _ hm233; exact absurd hm233 (Nat.not_lt_zero _)
    | succ f231 ih232 =>
      intro v235 M236 k237 n238 hm233
      show Ok (B_State_eatServed_2 X0 p1 (H_State_eatServed_2 X0 p1 f231) v235 M236) _
      unfold B_State_eatServed_2
      refine Ok.ite (fun h239 => ?_) (fun h239 => ?_)
      · unfold J_State_eatServed_33
        refine Ok.c1 (tf_Main_put (by decide)) (fun M240 k241 => ?_)
        refine Ok.c1 (tf_Main_at (by decide)) (fun r242 _ => ?_)
        refine Ok.c1 (tf_Main_put (by decide)) (fun M243 k244 => ?_)
        exact ⟨_, rfl, (Kl.trans (Kl.trans k237 (Kl.mono k241 (oneL_S (fun _ => CX_o ⟨by omega, by omega⟩)))) (Kl.mono k244 (oneL_S (fun _ => CX_o ⟨by omega, by omega⟩))))⟩
      · refine Ok.c1 (tf_Main_at (by decide)) (fun r245 _ => ?_)
        refine Ok.c1 (tf_Main_put (by decide)) (fun M246 k247 => ?_)
        refine Ok.nmI (fun x248 ex248 => ?_)
        exact ih232 x248 M246 (Kl.trans k237 (Kl.mono k247 (oneL_S (fun _ => CX_o ⟨by omega, by omega⟩)))) (nn_up (y := (3 : Int32)) h239 ex248 n238) (md_up h239 ex248 hm233)
  exact LP234 _ 0 M Kl.rf (by decide) fu_up
set_option maxHeartbeats 4000000 in
set_option maxRecDepth 20000 in
theorem tf_State_hasEaten {X0 : Nat} {p1 : Int32} {M : gM} (hX0 : isSt X0) : ∃ r, F_State_hasEaten X0 p1 M = some r ∧ (r = 0 ∨ r = 1) := by
  show Ok _ _
  unfold F_State_hasEaten
  refine Ok.c1 (tf_Main_at (by decide)) (fun r249 _ => ?_)
  refine Ok.ite (fun h250 => ?_) (fun h250 => ?_)
  · exact ⟨_, rfl, (Or.inl rfl)⟩
  · exact ⟨_, rfl, (Or.inr rfl)⟩
set_option maxHeartbeats 4000000 in
set_option maxRecDepth 20000 in
theorem tf_Told_onlyDish  {M : gM} : ∃ r, F_Told_onlyDish M = some r ∧ True := by
  show Ok _ _
  unfold F_Told_onlyDish
  have LP254 : ∀ (f251 : Nat) (v255 : Int32), ¬ v255 < 0 → ((M 383 7).toInt - v255.toInt).toNat < f251 → Ok (H_Told_onlyDish_2 M f251 v255) (fun r => True) := by
    intro f251
    induction f251 with
    | zero => intro v255 _ hm253; exact absurd hm253 (Nat.not_lt_zero _)
    | succ f251 ih252 =>
      intro v255 n256 hm253
      show Ok (B_Told_onlyDish_2 M (H_Told_onlyDish_2 M f251) v255) _
      unfold B_Told_onlyDish_2
      refine Ok.ite (fun h257 => ?_) (fun h257 => ?_)
      · unfold J_Told_onlyDish_38
        refine Ok.ite (fun h258 => ?_) (fun h258 => ?_)
        · exact ⟨_, rfl, trivial⟩
        · refine Ok.c1 (tf_Main_at (by decide)) (fun r259 _ => ?_)
          exact ⟨_, rfl, trivial⟩
      · refine Ok.c1 (tf_Main_at (by decide)) (fun r260 _ => ?_)
        refine Ok.c1 (tf_Main_at (by decide)) (fun r261 _ => ?_)
        refine Ok.ite (fun h262 => ?_) (fun h262 => ?_)
        · refine Ok.nmI (fun x263 ex263 => ?_)
          exact ih252 x263 (nn_up (y := (M 383 7)) h257 ex263 n256) (md_up h257 ex263 hm253)
        · exact ⟨_, rfl, trivial⟩
  exact LP254 _ 1 (by decide) fu_up
set_option maxHeartbeats 4000000 in
set_option maxRecDepth 20000 in
theorem tf_Main_amount {ld : Nat} {p1 : Int32} {p2 : Int32} {M : gM} (hld : isLa ld) : ∃ r, F_Main_amount ld p1 p2 M = some r ∧ True := by
  show Ok _ _
  unfold F_Main_amount
  refine Ok.c1 (tf_Main_isOne ) (fun r264 hbr264 => ?_)
  refine Ok.ite (fun h265 => ?_) (fun h265 => ?_)
  · exact ⟨_, rfl, trivial⟩
  · refine Ok.c1 (tf_Main_isOne ) (fun r266 hbr266 => ?_)
    refine Ok.ite (fun h267 => ?_) (fun h267 => ?_)
    · exact ⟨_, rfl, trivial⟩
    · refine Ok.c1 (tf_Land_inDish hld) (fun r268 _ => ?_)
      exact ⟨_, rfl, trivial⟩
set_option maxHeartbeats 4000000 in
set_option maxRecDepth 20000 in
theorem tf_Main_count {ld : Nat} {p1 : Int32} {M : gM} (hld : isLa ld) : ∃ r, F_Main_count ld p1 M = some r ∧ True := by
  show Ok _ _
  unfold F_Main_count
  refine Ok.ite (fun h269 => ?_) (fun h269 => ?_)
  · exact ⟨_, rfl, trivial⟩
  refine Ok.ite (fun h270 => ?_) (fun h270 => ?_)
  · exact ⟨_, rfl, trivial⟩
  refine Ok.ite (fun h271 => ?_) (fun h271 => ?_)
  · exact ⟨_, rfl, trivial⟩
  refine Ok.ite (fun h272 => ?_) (fun h272 => ?_)
  · exact ⟨_, rfl, trivial⟩
  refine Ok.ite (fun h273 => ?_) (fun h273 => ?_)
  · exact ⟨_, rfl, trivial⟩
  refine Ok.ite (fun h274 => ?_) (fun h274 => ?_)
  · exact ⟨_, rfl, trivial⟩
  refine Ok.ite (fun h275 => ?_) (fun h275 => ?_)
  · exact ⟨_, rfl, trivial⟩
  refine Ok.ite (fun h276 => ?_) (fun h276 => ?_)
  · refine Ok.c1 (tf_Main_at (by decide)) (fun r277 _ => ?_)
    exact ⟨_, rfl, trivial⟩
  refine Ok.ite (fun h278 => ?_) (fun h278 => ?_)
  · refine Ok.c1 (tf_Main_at (by decide)) (fun r279 _ => ?_)
    exact ⟨_, rfl, trivial⟩
  refine Ok.ite (fun h280 => ?_) (fun h280 => ?_)
  · refine Ok.c1 (tf_Main_at (by decide)) (fun r281 _ => ?_)
    exact ⟨_, rfl, trivial⟩
  refine Ok.ite (fun h282 => ?_) (fun h282 => ?_)
  · exact ⟨_, rfl, trivial⟩
  refine Ok.ite (fun h283 => ?_) (fun h283 => ?_)
  · exact ⟨_, rfl, trivial⟩
  refine Ok.ite (fun h284 => ?_) (fun h284 => ?_)
  · exact ⟨_, rfl, trivial⟩
  refine Ok.ite (fun h285 => ?_) (fun h285 => ?_)
  · refine Ok.c1 (tf_Slots_full ) (fun r286 _ => ?_)
    exact ⟨_, rfl, trivial⟩
  refine Ok.ite (fun h287 => ?_) (fun h287 => ?_)
  · exact ⟨_, rfl, trivial⟩
  refine Ok.ite (fun h288 => ?_) (fun h288 => ?_)
  · refine Ok.c1 (tf_State_allMeals isSt_64) (fun r289 _ => ?_)
    exact ⟨_, rfl, trivial⟩
  exact ⟨_, rfl, trivial⟩
set_option maxHeartbeats 4000000 in
set_option maxRecDepth 20000 in
theorem tf_Main_food {ld : Nat} {p1 : Int32} {p2 : Int32} {M : gM} (hld : isLa ld) : ∃ r, F_Main_food ld p1 p2 M = some r ∧ True := by
  show Ok _ _
  unfold F_Main_food
  refine Ok.c1 (tf_Main_isOne ) (fun r290 hbr290 => ?_)
  refine Ok.ite (fun h291 => ?_) (fun h291 => ?_)
  · exact ⟨_, rfl, trivial⟩
  · refine Ok.ite (fun h292 => ?_) (fun h292 => ?_)
    · refine Ok.c1 (tf_Main_at (by decide)) (fun r293 _ => ?_)
      exact ⟨_, rfl, trivial⟩
    refine Ok.ite (fun h294 => ?_) (fun h294 => ?_)
    · refine Ok.c1 (tf_Main_at (by decide)) (fun r295 _ => ?_)
      exact ⟨_, rfl, trivial⟩
    refine Ok.ite (fun h296 => ?_) (fun h296 => ?_)
    · refine Ok.c1 (tf_Land_broughtBy hld) (fun r297 _ => ?_)
      exact ⟨_, rfl, trivial⟩
    refine Ok.ite (fun h298 => ?_) (fun h298 => ?_)
    · refine Ok.c1 (tf_Land_broughtBy hld) (fun r299 _ => ?_)
      exact ⟨_, rfl, trivial⟩
    refine Ok.ite (fun h300 => ?_) (fun h300 => ?_)
    · refine Ok.c1 (tf_Land_broughtBy hld) (fun r301 _ => ?_)
      exact ⟨_, rfl, trivial⟩
    exact ⟨_, rfl, trivial⟩
set_option maxHeartbeats 4000000 in
set_option maxRecDepth 20000 in
theorem tf_Land_boundBy {Ld0 : Nat} {p1 : Int32} {p2 : Int32} {p3 : Int32} {p4 : Int32} {p5 : Int32} {M : gM} (hLd0 : isLa Ld0) : ∃ r M', F_Land_boundBy Ld0 p1 p2 p3 p4 p5 M = some (r, M') ∧ True ∧ Kl C0 M zL M' zL := by
  refine Ok.x2 (A := fun r M' => True ∧ Kl C0 M zL M' zL) ?_
  unfold F_Land_boundBy
  refine Ok.c1 (tf_Law_isTold (isLw_13 hLd0)) (fun r302 hbr302 => ?_)
  refine Ok.ite (fun h303 => ?_) (fun h303 => ?_)
  · refine Ok.c1 (tf_Main_within ) (fun r304 _ => ?_)
    exact ⟨_, rfl, trivial, Kl.rf⟩
  · refine Ok.c1 (tf_Law_let (isLw_13 hLd0)) (fun M305 k306 => ?_)
    refine Ok.c1 (tf_Law_let (isLw_13 hLd0)) (fun M307 k308 => ?_)
    refine Ok.c1 (tf_Main_at (by decide)) (fun r309 _ => ?_)
    refine Ok.c1 (tf_Law_let (isLw_13 hLd0)) (fun M310 k311 => ?_)
    refine Ok.c1 (tf_Law_let (isLw_13 hLd0)) (fun M312 k313 => ?_)
    refine Ok.c1 (tf_Law_let (isLw_13 hLd0)) (fun M314 k315 => ?_)
    refine Ok.c2 (tf_Law_value (isLw_13 hLd0)) (fun r316 M317 ⟨_, k318⟩ => ?_)
    refine Ok.c1 (tf_Main_within ) (fun r319 _ => ?_)
    exact ⟨_, rfl, trivial, (Kl.trans (Kl.trans (Kl.trans (Kl.trans (Kl.trans (Kl.trans Kl.rf k306) k308) k311) k313) k315) k318)⟩
set_option maxHeartbeats 4000000 in
set_option maxRecDepth 20000 in
theorem tf_Land_fillOf {Ld0 : Nat} {p1 : Int32} {p2 : Int32} {p3 : Int32} {M : gM} (hLd0 : isLa Ld0) : ∃ r M', F_Land_fillOf Ld0 p1 p2 p3 M = some (r, M') ∧ True ∧ Kl C0 M zL M' zL := by
  refine Ok.x2 (A := fun r M' => True ∧ Kl C0 M zL M' zL) ?_
  unfold F_Land_fillOf
  refine Ok.c1 (tf_Law_isTold (isLw_17 hLd0)) (fun r320 hbr320 => ?_)
  refine Ok.ite (fun h321 => ?_) (fun h321 => ?_)
  · exact ⟨_, rfl, trivial, Kl.rf⟩
  · refine Ok.c1 (tf_Law_let (isLw_17 hLd0)) (fun M322 k323 => ?_)
    refine Ok.c1 (tf_Main_at (by decide)) (fun r324 _ => ?_)
    refine Ok.c1 (tf_Law_let (isLw_17 hLd0)) (fun M325 k326 => ?_)
    refine Ok.c1 (tf_Law_let (isLw_17 hLd0)) (fun M327 k328 => ?_)
    refine Ok.c1 (tf_Law_let (isLw_17 hLd0)) (fun M329 k330 => ?_)
    refine Ok.c2 (tf_Law_value (isLw_17 hLd0)) (fun r331 M332 ⟨_, k333⟩ => ?_)
    refine Ok.c1 (tf_Main_within ) (fun r334 _ => ?_)
    exact ⟨_, rfl, trivial, (Kl.trans (Kl.trans (Kl.trans (Kl.trans (Kl.trans Kl.rf k323) k326) k328) k330) k333)⟩
set_option maxHeartbeats 4000000 in
set_option maxRecDepth 20000 in
theorem tf_Land_manyIn {Ld0 : Nat} {p1 : Int32} {M : gM} (hLd0 : isLa Ld0) : ∃ r, F_Land_manyIn Ld0 p1 M = some r ∧ True := by
  show Ok _ _
  unfold F_Land_manyIn
  have LP338 : ∀ (f335 : Nat) (v339 : Int32) (v340 : Int32), ¬ v340 < 0 → ((M Ld0 0).toInt - v340.toInt).toNat < f335 → Ok (H_Land_manyIn_4 Ld0 p1 M f335 v339 v340) (fun r => True) := by
    intro f335
    induction f335 with
    | zero => intro v339 v340 _ hm337; exact absurd hm337 (Nat.not_lt_zero _)
    | succ f335 ih336 =>
      intro v339 v340 n341 hm337
      show Ok (B_Land_manyIn_4 Ld0 p1 M (H_Land_manyIn_4 Ld0 p1 M f335) v339 v340) _
      unfold B_Land_manyIn_4
      refine Ok.ite (fun h342 => ?_) (fun h342 => ?_)
      · exact ⟨_, rfl, trivial⟩
      · refine Ok.c1 (tf_Land_inDish hLd0) (fun r343 _ => ?_)
        refine Ok.nmI (fun x344 ex344 => ?_)
        refine Ok.nmI (fun x345 ex345 => ?_)
        exact ih336 x344 x345 (nn_up (y := (M Ld0 0)) h342 ex345 n341) (md_up h342 ex345 hm337)
  exact LP338 _ 0 0 (by decide) fu_up
set_option maxHeartbeats 4000000 in
set_option maxRecDepth 20000 in
theorem tf_Land_potForce {Ld0 : Nat} {p1 : Int32} {p2 : Int32} {p3 : Int32} {p4 : Int32} {p5 : Int32} {M : gM} (hLd0 : isLa Ld0) : ∃ r M', F_Land_potForce Ld0 p1 p2 p3 p4 p5 M = some (r, M') ∧ True ∧ Kl C0 M zL M' zL := by
  refine Ok.x2 (A := fun r M' => True ∧ Kl C0 M zL M' zL) ?_
  unfold F_Land_potForce
  refine Ok.c1 (tf_Law_isTold (isLw_9 hLd0)) (fun r346 hbr346 => ?_)
  refine Ok.ite (fun h347 => ?_) (fun h347 => ?_)
  · refine Ok.c1 (tf_Main_within ) (fun r348 _ => ?_)
    exact ⟨_, rfl, trivial, Kl.rf⟩
  · refine Ok.c1 (tf_Law_let (isLw_9 hLd0)) (fun M349 k350 => ?_)
    refine Ok.c1 (tf_Law_let (isLw_9 hLd0)) (fun M351 k352 => ?_)
    refine Ok.c1 (tf_Law_let (isLw_9 hLd0)) (fun M353 k354 => ?_)
    refine Ok.c1 (tf_Law_let (isLw_9 hLd0)) (fun M355 k356 => ?_)
    refine Ok.c1 (tf_Law_let (isLw_9 hLd0)) (fun M357 k358 => ?_)
    refine Ok.c2 (tf_Law_value (isLw_9 hLd0)) (fun r359 M360 ⟨_, k361⟩ => ?_)
    refine Ok.c1 (tf_Main_within ) (fun r362 _ => ?_)
    exact ⟨_, rfl, trivial, (Kl.trans (Kl.trans (Kl.trans (Kl.trans (Kl.trans (Kl.trans Kl.rf k350) k352) k354) k356) k358) k361)⟩
set_option maxHeartbeats 4000000 in
set_option maxRecDepth 20000 in
theorem tf_Land_priceOf {Ld0 : Nat} {p1 : Int32} {M : gM} (hLd0 : isLa Ld0) : ∃ r, F_Land_priceOf Ld0 p1 M = some r ∧ True := by
  show Ok _ _
  unfold F_Land_priceOf
  have LP366 : ∀ (f363 : Nat) (v367 : Int32) (v368 : Int32), ¬ v368 < 0 → ((M Ld0 0).toInt - v368.toInt).toNat < f363 → Ok (H_Land_priceOf_4 Ld0 p1 M f363 v367 v368) (fun r => True) := by
    intro f363
    induction f363 with
    | zero => intro v367 v368 _ hm365; exact absurd hm365 (Nat.not_lt_zero _)
    | succ f363 ih364 =>
      intro v367 v368 n369 hm365
      show Ok (B_Land_priceOf_4 Ld0 p1 M (H_Land_priceOf_4 Ld0 p1 M f363) v367 v368) _
      unfold B_Land_priceOf_4
      refine Ok.ite (fun h370 => ?_) (fun h370 => ?_)
      · exact ⟨_, rfl, trivial⟩
      · refine Ok.c1 (tf_Land_inDish hLd0) (fun r371 _ => ?_)
        refine Ok.c1 (tf_Main_at (by decide)) (fun r372 _ => ?_)
        refine Ok.nmI (fun x373 ex373 => ?_)
        refine Ok.nmI (fun x374 ex374 => ?_)
        exact ih364 x373 x374 (nn_up (y := (M Ld0 0)) h370 ex374 n369) (md_up h370 ex374 hm365)
  exact LP366 _ 0 0 (by decide) fu_up
set_option maxHeartbeats 4000000 in
set_option maxRecDepth 20000 in
theorem tf_Land_sumOf {Ld0 : Nat} {p1 : Int32} {p2 : Int32} {M : gM} (hLd0 : isLa Ld0) : ∃ r, F_Land_sumOf Ld0 p1 p2 M = some r ∧ True := by
  show Ok _ _
  unfold F_Land_sumOf
  have LP378 : ∀ (f375 : Nat) (v379 : Int32) (v380 : Int32), ¬ v380 < 0 → ((M Ld0 0).toInt - v380.toInt).toNat < f375 → Ok (H_Land_sumOf_5 Ld0 p1 p2 M f375 v379 v380) (fun r => True) := by
    intro f375
    induction f375 with
    | zero => intro v379 v380 _ hm377; exact absurd hm377 (Nat.not_lt_zero _)
    | succ f375 ih376 =>
      intro v379 v380 n381 hm377
      show Ok (B_Land_sumOf_5 Ld0 p1 p2 M (H_Land_sumOf_5 Ld0 p1 p2 M f375) v379 v380) _
      unfold B_Land_sumOf_5
      refine Ok.ite (fun h382 => ?_) (fun h382 => ?_)
      · exact ⟨_, rfl, trivial⟩
      · refine Ok.c1 (tf_Land_inDish hLd0) (fun r383 _ => ?_)
        refine Ok.c1 (tf_Land_broughtBy hLd0) (fun r384 _ => ?_)
        refine Ok.nmI (fun x385 ex385 => ?_)
        refine Ok.nmI (fun x386 ex386 => ?_)
        exact ih376 x385 x386 (nn_up (y := (M Ld0 0)) h382 ex386 n381) (md_up h382 ex386 hm377)
  exact LP378 _ 0 0 (by decide) fu_up
set_option maxHeartbeats 4000000 in
set_option maxRecDepth 20000 in
theorem tf_MenuSearch_mealsIfAllFree {p1 : Int32} {M : gM} : ∃ r, F_MenuSearch_mealsIfAllFree p1 M = some r ∧ True := by
  show Ok _ _
  unfold F_MenuSearch_mealsIfAllFree
  have LP390 : ∀ (f387 : Nat) (v391 : Int32) (v392 : Int32) (v393 : Int32) (v394 : Int32), ¬ v394 < 0 → (p1.toInt - v394.toInt).toNat < f387 → Ok (H_MenuSearch_mealsIfAllFree_10 p1 M f387 v391 v392 v393 v394) (fun r => True) := by
    intro f387
    induction f387 with
    | zero => intro v391 v392 v393 v394 _ hm389; exact absurd hm389 (Nat.not_lt_zero _)
    | succ f387 ih388 =>
      intro v391 v392 v393 v394 n395 hm389
      show Ok (B_MenuSearch_mealsIfAllFree_10 p1 M (H_MenuSearch_mealsIfAllFree_10 p1 M f387) v391 v392 v393 v394) _
      unfold B_MenuSearch_mealsIfAllFree_10
      refine Ok.ite (fun h396 => ?_) (fun h396 => ?_)
      · exact ⟨_, rfl, trivial⟩
      · refine Ok.c1 (tf_Main_at (by decide)) (fun r397 _ => ?_)
        refine Ok.ite (fun h398 => ?_) (fun h398 => ?_)
        · unfold J_MenuSearch_mealsIfAllFree_44
          refine Ok.c1 (tf_MenuSearch_isFree ) (fun r399 hbr399 => ?_)
          refine Ok.ite (fun h400 => ?_) (fun h400 => ?_)
          · exact ⟨_, rfl, trivial⟩
          · refine Ok.nmI (fun x401 ex401 => ?_)
            exact ih388 v391 v392 v393 x401 (nn_up (y := p1) h396 ex401 n395) (md_up h396 ex401 hm389)
        · refine Ok.nmI (fun x402 ex402 => ?_)
          refine Ok.nmI (fun x403 ex403 => ?_)
          unfold J_MenuSearch_mealsIfAllFree_44
          refine Ok.c1 (tf_MenuSearch_isFree ) (fun r404 hbr404 => ?_)
          refine Ok.ite (fun h405 => ?_) (fun h405 => ?_)
          · exact ⟨_, rfl, trivial⟩
          · refine Ok.nmI (fun x406 ex406 => ?_)
            exact ih388 x402 v394 x403 x406 (nn_up (y := p1) h396 ex406 n395) (md_up h396 ex406 hm389)
  exact LP390 _ 0 0 (-1) 0 (by decide) fu_up
set_option maxHeartbeats 4000000 in
set_option maxRecDepth 20000 in
theorem tf_PotSearch_stepDown {X1 : Nat} {M : gM} (hX1 : isSt X1) : ∃ M', F_PotSearch_stepDown X1 M = some M' ∧ Kl C1 M zL M' zL := by
  show Ok _ _
  unfold F_PotSearch_stepDown
  have LP410 : ∀ (f407 : Nat) (v411 : Int32), (v411.toInt + 1).toNat < f407 → Ok (H_PotSearch_stepDown_2 X1 M f407 v411) (fun M' => Kl C1 M zL M' zL) := by
    intro f407
    induction f407 with
    | zero => intro v411 hm409; exact absurd hm409 (Nat.not_lt_zero _)
    | succ f407 ih408 =>
      intro v411 hm409
      show Ok (B_PotSearch_stepDown_2 X1 M (H_PotSearch_stepDown_2 X1 M f407) v411) _
      unfold B_PotSearch_stepDown_2
      refine Ok.ite (fun h412 => ?_) (fun h412 => ?_)
      · exact ⟨_, rfl, Kl.rf⟩
      · refine Ok.c1 (tf_Main_at (by decide)) (fun r413 _ => ?_)
        refine Ok.ite (fun h414 => ?_) (fun h414 => ?_)
        · refine Ok.nmI (fun x415 ex415 => ?_)
          exact ih408 x415 (md_dn h412 ex415 hm409)
        · unfold J_PotSearch_stepDown_19
          refine Ok.c1 (tf_Main_put (by decide)) (fun M416 k417 => ?_)
          refine Ok.c1 (tf_PotSearch_fillFrom hX1) (fun M418 k419 => ?_)
          exact ⟨_, rfl, (Kl.trans (Kl.trans Kl.rf (Kl.mono k417 (oneL_S (fun _ => rfl)))) k419)⟩
  exact LP410 _ 5 fu_dn
set_option maxHeartbeats 4000000 in
set_option maxRecDepth 20000 in
theorem tf_PotSearch_weigh {Ld1 : Nat} {M : gM} (hLd1 : isLa Ld1) : ∃ M', F_PotSearch_weigh Ld1 M = some M' ∧ Kl C1 M zL M' zL := by
  show Ok _ _
  unfold F_PotSearch_weigh
  refine Ok.c1 (tf_Main_wipe (by decide)) (fun M420 k421 => ?_)
  refine Ok.nmM (fun M422 eM422 => ?_)
  refine Ok.nmM (fun M423 eM423 => ?_)
  have LP427 : ∀ (f424 : Nat) (v428 : Int32) (M429 : gM), Kl C1 M zL M429 zL → ¬ v428 < 0 → ((6 : Int32).toInt - v428.toInt).toNat < f424 → Ok (H_PotSearch_weigh_19 Ld1 f424 v428 M429) (fun M' => Kl C1 M zL M' zL) := by
    intro f424
    induction f424 with
    | zero => intro v428 M429 _ _ hm426; exact absurd hm426 (Nat.not_lt_zero _)
    | succ f424 ih425 =>
      intro v428 M429 k430 n431 hm426
      show Ok (B_PotSearch_weigh_19 Ld1 (H_PotSearch_weigh_19 Ld1 f424) v428 M429) _
      unfold B_PotSearch_weigh_19
      refine Ok.ite (fun h432 => ?_) (fun h432 => ?_)
      · exact ⟨_, rfl, k430⟩
      · refine Ok.c1 (tf_Main_at (by decide)) (fun r433 _ => ?_)
        refine Ok.ite (fun h434 => ?_) (fun h434 => ?_)
        · unfold J_PotSearch_weigh_110
          refine Ok.nmI (fun x435 ex435 => ?_)
          exact ih425 x435 M429 k430 (nn_up (y := (6 : Int32)) h432 ex435 n431) (md_up h432 ex435 hm426)
        · refine Ok.nmM (fun M436 eM436 => ?_)
          refine Ok.c1 (tf_Main_at (by decide)) (fun r437 _ => ?_)
          refine Ok.nmM (fun M438 eM438 => ?_)
          have LP442 : ∀ (f439 : Nat) (v443 : Int32) (M444 : gM), Kl C1 M zL M444 zL → ¬ v443 < 0 → ((3 : Int32).toInt - v443.toInt).toNat < f439 → Ok (H_PotSearch_weigh_70 Ld1 (H_PotSearch_weigh_19 Ld1 f424) v428 r433 f439 v443 M444) (fun M' => Kl C1 M zL M' zL) := by
            intro f439
            induction f439 with
            | zero => intro v443 M444 _ _ hm441; exact absurd hm441 (Nat.not_lt_zero _)
            | succ f439 ih440 =>
              intro v443 M444 k445 n446 hm441
              show Ok (B_PotSearch_weigh_70 Ld1 (H_PotSearch_weigh_19 Ld1 f424) v428 r433 (H_PotSearch_weigh_70 Ld1 (H_PotSearch_weigh_19 Ld1 f424) v428 r433 f439) v443 M444) _
              unfold B_PotSearch_weigh_70
              refine Ok.ite (fun h447 => ?_) (fun h447 => ?_)
              · unfold J_PotSearch_weigh_110
                refine Ok.nmI (fun x448 ex448 => ?_)
                exact ih425 x448 M444 k445 (nn_up (y := (6 : Int32)) h432 ex448 n431) (md_up h432 ex448 hm426)
              · refine Ok.c1 (tf_Main_at (by decide)) (fun r449 _ => ?_)
                refine Ok.c1 (tf_Land_broughtBy hLd1) (fun r450 _ => ?_)
                refine Ok.c1 (tf_Main_put (by decide)) (fun M451 k452 => ?_)
                refine Ok.nmI (fun x453 ex453 => ?_)
                exact ih440 x453 M451 (Kl.trans k445 (Kl.mono k452 (oneL_S (fun _ => rfl)))) (nn_up (y := (3 : Int32)) h447 ex453 n446) (md_up h447 ex453 hm441)
          exact LP442 _ 0 M438 (Kl.wM (Kl.wM k430 rfl eM436) rfl eM438) (by decide) fu_up
  exact LP427 _ 0 M423 (Kl.wM (Kl.wM (Kl.trans Kl.rf (Kl.mono k421 (oneL_S (fun _ => rfl)))) rfl eM422) rfl eM423) (by decide) fu_up
set_option maxHeartbeats 4000000 in
set_option maxRecDepth 20000 in
theorem tf_State_inStore {X0 : Nat} {Ld1 : Nat} {p2 : Int32} {M : gM} (hX0 : isSt X0) (hLd1 : isLa Ld1) : ∃ r, F_State_inStore X0 Ld1 p2 M = some r ∧ (r = 0 ∨ r = 1) := by
  show Ok _ _
  unfold F_State_inStore
  have LP457 : ∀ (f454 : Nat) (v458 : Int32), ¬ v458 < 0 → ((M Ld1 0).toInt - v458.toInt).toNat < f454 → Ok (H_State_inStore_2 X0 Ld1 p2 M f454 v458) (fun r => (r = 0 ∨ r = 1)) := by
    intro f454
    induction f454 with
    | zero => intro v458 _ hm456; exact absurd hm456 (Nat.not_lt_zero _)
    | succ f454 ih455 =>
      intro v458 n459 hm456
      show Ok (B_State_inStore_2 X0 Ld1 p2 M (H_State_inStore_2 X0 Ld1 p2 M f454) v458) _
      unfold B_State_inStore_2
      refine Ok.ite (fun h460 => ?_) (fun h460 => ?_)
      · exact ⟨_, rfl, (Or.inr rfl)⟩
      · refine Ok.c1 (tf_Main_at (by decide)) (fun r461 _ => ?_)
        refine Ok.c1 (tf_Land_inDish hLd1) (fun r462 _ => ?_)
        refine Ok.ite (fun h463 => ?_) (fun h463 => ?_)
        · refine Ok.nmI (fun x464 ex464 => ?_)
          exact ih455 x464 (nn_up (y := (M Ld1 0)) h460 ex464 n459) (md_up h460 ex464 hm456)
        · exact ⟨_, rfl, (Or.inl rfl)⟩
  exact LP457 _ 0 (by decide) fu_up
set_option maxHeartbeats 4000000 in
set_option maxRecDepth 20000 in
theorem tf_Land_dishForce {Ld0 : Nat} {p1 : Int32} {p2 : Int32} {p3 : Int32} {p4 : Int32} {M : gM} (hLd0 : isLa Ld0) : ∃ r M', F_Land_dishForce Ld0 p1 p2 p3 p4 M = some (r, M') ∧ True ∧ Kl C0 M zL M' zL := by
  refine Ok.x2 (A := fun r M' => True ∧ Kl C0 M zL M' zL) ?_
  unfold F_Land_dishForce
  refine Ok.c1 (tf_Land_sumOf hLd0) (fun r465 _ => ?_)
  refine Ok.c1 (tf_Land_manyIn hLd0) (fun r466 _ => ?_)
  refine Ok.ite (fun h467 => ?_) (fun h467 => ?_)
  · unfold J_Land_dishForce_33
    refine Ok.c1 (tf_Main_at (by decide)) (fun r468 _ => ?_)
    refine Ok.c2 (tf_Land_potForce hLd0) (fun r469 M470 ⟨_, k471⟩ => ?_)
    exact ⟨_, rfl, trivial, (Kl.trans Kl.rf k471)⟩
  · refine Ok.c1 (tf_Land_broughtBy hLd0) (fun r472 _ => ?_)
    refine Ok.nmI (fun x473 ex473 => ?_)
    refine Ok.nmI (fun x474 ex474 => ?_)
    unfold J_Land_dishForce_33
    refine Ok.c1 (tf_Main_at (by decide)) (fun r475 _ => ?_)
    refine Ok.c2 (tf_Land_potForce hLd0) (fun r476 M477 ⟨_, k478⟩ => ?_)
    exact ⟨_, rfl, trivial, (Kl.trans Kl.rf k478)⟩
set_option maxHeartbeats 4000000 in
set_option maxRecDepth 20000 in
theorem tf_Land_slipsOf {Ld0 : Nat} {p1 : Int32} {p2 : Int32} {M : gM} (hLd0 : isLa Ld0) : ∃ r M', F_Land_slipsOf Ld0 p1 p2 M = some (r, M') ∧ True ∧ Kl C0 M zL M' zL := by
  refine Ok.x2 (A := fun r M' => True ∧ Kl C0 M zL M' zL) ?_
  unfold F_Land_slipsOf
  refine Ok.c1 (tf_Law_isTold (isLw_21 hLd0)) (fun r479 hbr479 => ?_)
  refine Ok.ite (fun h480 => ?_) (fun h480 => ?_)
  · exact ⟨_, rfl, trivial, Kl.rf⟩
  · refine Ok.c1 (tf_Main_at (by decide)) (fun r481 _ => ?_)
    refine Ok.c1 (tf_Law_let (isLw_21 hLd0)) (fun M482 k483 => ?_)
    refine Ok.c1 (tf_Land_manyIn hLd0) (fun r484 _ => ?_)
    refine Ok.c1 (tf_Law_let (isLw_21 hLd0)) (fun M485 k486 => ?_)
    refine Ok.c1 (tf_Law_let (isLw_21 hLd0)) (fun M487 k488 => ?_)
    refine Ok.c2 (tf_Law_value (isLw_21 hLd0)) (fun r489 M490 ⟨_, k491⟩ => ?_)
    refine Ok.c1 (tf_Main_within ) (fun r492 _ => ?_)
    exact ⟨_, rfl, trivial, (Kl.trans (Kl.trans (Kl.trans (Kl.trans Kl.rf k483) k486) k488) k491)⟩
set_option maxHeartbeats 4000000 in
set_option maxRecDepth 20000 in
theorem tf_PotSearch_isEnough {Ld1 : Nat} {p2 : Int32} {p3 : Int32} {M : gM} (hLd1 : isLa Ld1) : ∃ r M', F_PotSearch_isEnough Ld1 p2 p3 M = some (r, M') ∧ (r = 0 ∨ r = 1) ∧ Kl C0 M zL M' zL := by
  refine Ok.x2 (A := fun r M' => (r = 0 ∨ r = 1) ∧ Kl C0 M zL M' zL) ?_
  unfold F_PotSearch_isEnough
  have LP496 : ∀ (f493 : Nat) (v497 : Int32) (M498 : gM), Kl C0 M zL M498 zL → ¬ v497 < 0 → ((3 : Int32).toInt - v497.toInt).toNat < f493 → Ok (H_PotSearch_isEnough_3 Ld1 p2 p3 f493 v497 M498) (fun q => (q.1 = 0 ∨ q.1 = 1) ∧ Kl C0 M zL q.2 zL) := by
    intro f493
    induction f493 with
    | zero => intro v497 M498 _ _ hm495; exact absurd hm495 (Nat.not_lt_zero _)
    | succ f493 ih494 =>
      intro v497 M498 k499 n500 hm495
      show Ok (B_PotSearch_isEnough_3 Ld1 p2 p3 (H_PotSearch_isEnough_3 Ld1 p2 p3 f493) v497 M498) _
      unfold B_PotSearch_isEnough_3
      refine Ok.ite (fun h501 => ?_) (fun h501 => ?_)
      · exact ⟨_, rfl, (Or.inr rfl), k499⟩
      · refine Ok.c1 (tf_Main_at (by decide)) (fun r502 _ => ?_)
        refine Ok.ite (fun h503 => ?_) (fun h503 => ?_)
        · unfold J_PotSearch_isEnough_53
          refine Ok.nmI (fun x504 ex504 => ?_)
          exact ih494 x504 M498 k499 (nn_up (y := (3 : Int32)) h501 ex504 n500) (md_up h501 ex504 hm495)
        · refine Ok.c1 (tf_Main_at (by decide)) (fun r505 _ => ?_)
          refine Ok.c2 (tf_Land_potForce hLd1) (fun r506 M507 ⟨_, k508⟩ => ?_)
          refine Ok.ite (fun h509 => ?_) (fun h509 => ?_)
          · unfold J_PotSearch_isEnough_53
            refine Ok.nmI (fun x510 ex510 => ?_)
            exact ih494 x510 M507 (Kl.trans k499 k508) (nn_up (y := (3 : Int32)) h501 ex510 n500) (md_up h501 ex510 hm495)
          · exact ⟨_, rfl, (Or.inl rfl), (Kl.trans k499 k508)⟩
  exact LP496 _ 0 M Kl.rf (by decide) fu_up
set_option maxHeartbeats 4000000 in
set_option maxRecDepth 20000 in
theorem tf_State_boundOf {X0 : Nat} {Ld1 : Nat} {p2 : Int32} {p3 : Int32} {p4 : Int32} {M : gM} (hX0 : isSt X0) (hLd1 : isLa Ld1) : ∃ r M', F_State_boundOf X0 Ld1 p2 p3 p4 M = some (r, M') ∧ True ∧ Kl C0 M zL M' zL := by
  refine Ok.x2 (A := fun r M' => True ∧ Kl C0 M zL M' zL) ?_
  unfold F_State_boundOf
  refine Ok.c1 (tf_State_hasEaten hX0) (fun r511 hbr511 => ?_)
  refine Ok.ite (fun h512 => ?_) (fun h512 => ?_)
  · exact ⟨_, rfl, trivial, Kl.rf⟩
  · refine Ok.c1 (tf_Main_at (by decide)) (fun r513 _ => ?_)
    refine Ok.c1 (tf_State_agoOf hX0) (fun r514 _ => ?_)
    refine Ok.c2 (tf_Land_boundBy hLd1) (fun r515 M516 ⟨_, k517⟩ => ?_)
    exact ⟨_, rfl, trivial, (Kl.trans Kl.rf k517)⟩
set_option maxHeartbeats 4000000 in
set_option maxRecDepth 20000 in
theorem tf_State_passDays {X0 : Nat} {Ld1 : Nat} {p2 : Int32} {M : gM} (hX0 : isSt X0) (hLd1 : isLa Ld1) : ∃ M', F_State_passDays X0 Ld1 p2 M = some M' ∧ Kl (CX X0) M zL M' zL := by
  show Ok _ _
  unfold F_State_passDays
  have LP521 : ∀ (f518 : Nat) (v522 : Int32) (M523 : gM), Kl (CX X0) M zL M523 zL → ¬ v522 < 0 → (p2.toInt - v522.toInt).toNat < f518 → Ok (H_State_passDays_2 X0 Ld1 p2 f518 v522 M523) (fun M' => Kl (CX X0) M zL M' zL) := by
    intro f518
    induction f518 with
    | zero => intro v522 M523 _ _ hm520; exact absurd hm520 (Nat.not_lt_zero _)
    | succ f518 ih519 =>
      intro v522 M523 k524 n525 hm520
      show Ok (B_State_passDays_2 X0 Ld1 p2 (H_State_passDays_2 X0 Ld1 p2 f518) v522 M523) _
      unfold B_State_passDays_2
      refine Ok.ite (fun h526 => ?_) (fun h526 => ?_)
      · exact ⟨_, rfl, k524⟩
      · have LP530 : ∀ (f527 : Nat) (v531 : Int32) (M532 : gM), Kl (CX X0) M zL M532 zL → ¬ v531 < 0 → ((M Ld1 0).toInt - v531.toInt).toNat < f527 → Ok (H_State_passDays_10 X0 Ld1 (H_State_passDays_2 X0 Ld1 p2 f518) p2 v522 f527 v531 M532) (fun M' => Kl (CX X0) M zL M' zL) := by
          intro f527
          induction f527 with
          | zero => intro v531 M532 _ _ hm529; exact absurd hm529 (Nat.not_lt_zero _)
          | succ f527 ih528 =>
            intro v531 M532 k533 n534 hm529
            show Ok (B_State_passDays_10 X0 Ld1 (H_State_passDays_2 X0 Ld1 p2 f518) p2 v522 (H_State_passDays_10 X0 Ld1 (H_State_passDays_2 X0 Ld1 p2 f518) p2 v522 f527) v531 M532) _
            unfold B_State_passDays_10
            refine Ok.ite (fun h535 => ?_) (fun h535 => ?_)
            · unfold J_State_passDays_66
              refine Ok.nmM (fun M536 eM536 => ?_)
              refine Ok.nmI (fun x537 ex537 => ?_)
              exact ih519 x537 M536 (Kl.wM k533 (CX_o ⟨by omega, by omega⟩) eM536) (nn_up (y := p2) h526 ex537 n525) (md_up h526 ex537 hm520)
            · refine Ok.c1 (tf_Main_at (by decide)) (fun r538 _ => ?_)
              refine Ok.c2 (tf_Land_fillOf hLd1) (fun r539 M540 ⟨_, k541⟩ => ?_)
              refine Ok.c1 (tf_Main_within ) (fun r542 _ => ?_)
              refine Ok.c1 (tf_Main_put (by decide)) (fun M543 k544 => ?_)
              refine Ok.nmI (fun x545 ex545 => ?_)
              exact ih528 x545 M543 (Kl.trans (Kl.trans k533 (Kl.mono k541 C0_CX)) (Kl.mono k544 (oneL_S (fun _ => CX_o ⟨by omega, by omega⟩)))) (nn_up (y := (M Ld1 0)) (by rw [← Kl.m k533 (CX_Laf hX0 hLd1)]; exact h535) ex545 n534) (md_up (by rw [← Kl.m k533 (CX_Laf hX0 hLd1)]; exact h535) ex545 hm529)
        exact LP530 _ 0 M523 k524 (by decide) fu_up
  exact LP521 _ 0 M Kl.rf (by decide) fu_up
set_option maxHeartbeats 4000000 in
set_option maxRecDepth 20000 in
theorem tf_Told_forceOf {Ld1 : Nat} {p2 : Int32} {p3 : Int32} {p4 : Int32} {p5 : Int32} {M : gM} (hLd1 : isLa Ld1) : ∃ r M', F_Told_forceOf Ld1 p2 p3 p4 p5 M = some (r, M') ∧ True ∧ Kl C0 M zL M' zL := by
  refine Ok.x2 (A := fun r M' => True ∧ Kl C0 M zL M' zL) ?_
  unfold F_Told_forceOf
  refine Ok.c1 (tf_Main_at (by decide)) (fun r546 _ => ?_)
  refine Ok.c1 (tf_Main_at (by decide)) (fun r547 _ => ?_)
  refine Ok.c2 (tf_Land_potForce hLd1) (fun r548 M549 ⟨_, k550⟩ => ?_)
  exact ⟨_, rfl, trivial, (Kl.trans Kl.rf k550)⟩
set_option maxHeartbeats 4000000 in
set_option maxRecDepth 20000 in
theorem tf_Told_lay {Ld1 : Nat} {p2 : Int32} {p3 : Int32} {M : gM} (hLd1 : isLa Ld1) : ∃ r M', F_Told_lay Ld1 p2 p3 M = some (r, M') ∧ (r = 0 ∨ r = 1) ∧ Kl C1 M zL M' zL := by
  refine Ok.x2 (A := fun r M' => (r = 0 ∨ r = 1) ∧ Kl C1 M zL M' zL) ?_
  unfold F_Told_lay
  refine Ok.ite (fun h551 => ?_) (fun h551 => ?_)
  · unfold J_Told_lay_19
    unfold J_Told_lay_38
    refine Ok.nmI (fun x552 ex552 => ?_)
    refine Ok.c1 (tf_Land_manyIn hLd1) (fun r553 _ => ?_)
    refine Ok.nmI (fun x554 ex554 => ?_)
    unfold J_Told_lay_64
    unfold J_Told_lay_79
    refine Ok.ite (fun h555 => ?_) (fun h555 => ?_)
    · refine Ok.c1 (tf_Main_put (by decide)) (fun M556 k557 => ?_)
      refine Ok.c1 (tf_Main_put (by decide)) (fun M558 k559 => ?_)
      have LP563 : ∀ (f560 : Nat) (v564 : Int32) (M565 : gM), Kl C1 M zL M565 zL → ¬ v564 < 0 → ((3 : Int32).toInt - v564.toInt).toNat < f560 → Ok (H_Told_lay_115 Ld1 p2 0 x552 f560 v564 M565) (fun q => (q.1 = 0 ∨ q.1 = 1) ∧ Kl C1 M zL q.2 zL) := by
        intro f560
        induction f560 with
        | zero => intro v564 M565 _ _ hm562; exact absurd hm562 (Nat.not_lt_zero _)
        | succ f560 ih561 =>
          intro v564 M565 k566 n567 hm562
          show Ok (B_Told_lay_115 Ld1 p2 0 x552 (H_Told_lay_115 Ld1 p2 0 x552 f560) v564 M565) _
          unfold B_Told_lay_115
          refine Ok.ite (fun h568 => ?_) (fun h568 => ?_)
          · exact ⟨_, rfl, (Or.inr rfl), k566⟩
          · unfold J_Told_lay_141
            refine Ok.c1 (tf_Land_sumOf hLd1) (fun r569 _ => ?_)
            refine Ok.c1 (tf_Main_put (by decide)) (fun M570 k571 => ?_)
            refine Ok.nmI (fun x572 ex572 => ?_)
            exact ih561 x572 M570 (Kl.trans k566 (Kl.mono k571 (oneL_S (fun _ => rfl)))) (nn_up (y := (3 : Int32)) h568 ex572 n567) (md_up h568 ex572 hm562)
      exact LP563 _ 0 M558 (Kl.trans (Kl.trans Kl.rf (Kl.mono k557 (oneL_S (fun _ => rfl)))) (Kl.mono k559 (oneL_S (fun _ => rfl)))) (by decide) fu_up
    · exact ⟨_, rfl, (Or.inl rfl), Kl.rf⟩
  · refine Ok.ite (fun h573 => ?_) (fun h573 => ?_)
    · unfold J_Told_lay_19
      unfold J_Told_lay_38
      refine Ok.nmI (fun x574 ex574 => ?_)
      refine Ok.c1 (tf_Land_manyIn hLd1) (fun r575 _ => ?_)
      refine Ok.nmI (fun x576 ex576 => ?_)
      refine Ok.ite (fun h577 => ?_) (fun h577 => ?_)
      · exact ⟨_, rfl, (Or.inl rfl), Kl.rf⟩
      · unfold J_Told_lay_64
        refine Ok.c1 (tf_Land_inDish hLd1) (fun r578 _ => ?_)
        refine Ok.ite (fun h579 => ?_) (fun h579 => ?_)
        · exact ⟨_, rfl, (Or.inl rfl), Kl.rf⟩
        · unfold J_Told_lay_79
          refine Ok.ite (fun h580 => ?_) (fun h580 => ?_)
          · refine Ok.c1 (tf_Main_put (by decide)) (fun M581 k582 => ?_)
            refine Ok.c1 (tf_Main_put (by decide)) (fun M583 k584 => ?_)
            have LP588 : ∀ (f585 : Nat) (v589 : Int32) (M590 : gM), Kl C1 M zL M590 zL → ¬ v589 < 0 → ((3 : Int32).toInt - v589.toInt).toNat < f585 → Ok (H_Told_lay_115 Ld1 p2 (-1) x574 f585 v589 M590) (fun q => (q.1 = 0 ∨ q.1 = 1) ∧ Kl C1 M zL q.2 zL) := by
              intro f585
              induction f585 with
              | zero => intro v589 M590 _ _ hm587; exact absurd hm587 (Nat.not_lt_zero _)
              | succ f585 ih586 =>
                intro v589 M590 k591 n592 hm587
                show Ok (B_Told_lay_115 Ld1 p2 (-1) x574 (H_Told_lay_115 Ld1 p2 (-1) x574 f585) v589 M590) _
                unfold B_Told_lay_115
                refine Ok.ite (fun h593 => ?_) (fun h593 => ?_)
                · exact ⟨_, rfl, (Or.inr rfl), k591⟩
                · refine Ok.c1 (tf_Land_broughtBy hLd1) (fun r594 _ => ?_)
                  unfold J_Told_lay_141
                  refine Ok.nmI (fun x595 ex595 => ?_)
                  refine Ok.c1 (tf_Land_sumOf hLd1) (fun r596 _ => ?_)
                  refine Ok.c1 (tf_Main_put (by decide)) (fun M597 k598 => ?_)
                  refine Ok.nmI (fun x599 ex599 => ?_)
                  exact ih586 x599 M597 (Kl.trans k591 (Kl.mono k598 (oneL_S (fun _ => rfl)))) (nn_up (y := (3 : Int32)) h593 ex599 n592) (md_up h593 ex599 hm587)
            exact LP588 _ 0 M583 (Kl.trans (Kl.trans Kl.rf (Kl.mono k582 (oneL_S (fun _ => rfl)))) (Kl.mono k584 (oneL_S (fun _ => rfl)))) (by decide) fu_up
          · exact ⟨_, rfl, (Or.inl rfl), Kl.rf⟩
    · unfold J_Told_lay_19
      unfold J_Told_lay_38
      refine Ok.nmI (fun x600 ex600 => ?_)
      refine Ok.c1 (tf_Land_manyIn hLd1) (fun r601 _ => ?_)
      refine Ok.nmI (fun x602 ex602 => ?_)
      refine Ok.ite (fun h603 => ?_) (fun h603 => ?_)
      · exact ⟨_, rfl, (Or.inl rfl), Kl.rf⟩
      · unfold J_Told_lay_64
        unfold J_Told_lay_79
        refine Ok.ite (fun h604 => ?_) (fun h604 => ?_)
        · refine Ok.c1 (tf_Main_put (by decide)) (fun M605 k606 => ?_)
          refine Ok.c1 (tf_Main_put (by decide)) (fun M607 k608 => ?_)
          have LP612 : ∀ (f609 : Nat) (v613 : Int32) (M614 : gM), Kl C1 M zL M614 zL → ¬ v613 < 0 → ((3 : Int32).toInt - v613.toInt).toNat < f609 → Ok (H_Told_lay_115 Ld1 p2 1 x600 f609 v613 M614) (fun q => (q.1 = 0 ∨ q.1 = 1) ∧ Kl C1 M zL q.2 zL) := by
            intro f609
            induction f609 with
            | zero => intro v613 M614 _ _ hm611; exact absurd hm611 (Nat.not_lt_zero _)
            | succ f609 ih610 =>
              intro v613 M614 k615 n616 hm611
              show Ok (B_Told_lay_115 Ld1 p2 1 x600 (H_Told_lay_115 Ld1 p2 1 x600 f609) v613 M614) _
              unfold B_Told_lay_115
              refine Ok.ite (fun h617 => ?_) (fun h617 => ?_)
              · exact ⟨_, rfl, (Or.inr rfl), k615⟩
              · refine Ok.c1 (tf_Land_broughtBy hLd1) (fun r618 _ => ?_)
                unfold J_Told_lay_141
                refine Ok.nmI (fun x619 ex619 => ?_)
                refine Ok.c1 (tf_Land_sumOf hLd1) (fun r620 _ => ?_)
                refine Ok.c1 (tf_Main_put (by decide)) (fun M621 k622 => ?_)
                refine Ok.nmI (fun x623 ex623 => ?_)
                exact ih610 x623 M621 (Kl.trans k615 (Kl.mono k622 (oneL_S (fun _ => rfl)))) (nn_up (y := (3 : Int32)) h617 ex623 n616) (md_up h617 ex623 hm611)
          exact LP612 _ 0 M607 (Kl.trans (Kl.trans Kl.rf (Kl.mono k606 (oneL_S (fun _ => rfl)))) (Kl.mono k608 (oneL_S (fun _ => rfl)))) (by decide) fu_up
        · exact ⟨_, rfl, (Or.inl rfl), Kl.rf⟩
set_option maxHeartbeats 4000000 in
set_option maxRecDepth 20000 in
theorem tf_Main_boundIn {ld : Nat} {p1 : Int32} {p2 : Int32} {p3 : Int32} {M : gM} (hld : isLa ld) : ∃ r M', F_Main_boundIn ld p1 p2 p3 M = some (r, M') ∧ True ∧ Kl C0 M zL M' zL := by
  refine Ok.x2 (A := fun r M' => True ∧ Kl C0 M zL M' zL) ?_
  unfold F_Main_boundIn
  refine Ok.c1 (tf_Main_isOne ) (fun r624 hbr624 => ?_)
  refine Ok.ite (fun h625 => ?_) (fun h625 => ?_)
  · exact ⟨_, rfl, trivial, Kl.rf⟩
  · refine Ok.c1 (tf_Main_isOne ) (fun r626 hbr626 => ?_)
    refine Ok.ite (fun h627 => ?_) (fun h627 => ?_)
    · exact ⟨_, rfl, trivial, Kl.rf⟩
    · refine Ok.ite (fun h628 => ?_) (fun h628 => ?_)
      · exact ⟨_, rfl, trivial, Kl.rf⟩
      · refine Ok.ite (fun h629 => ?_) (fun h629 => ?_)
        · refine Ok.c2 (tf_State_boundOf isSt_64 hld) (fun r630 M631 ⟨_, k632⟩ => ?_)
          exact ⟨_, rfl, trivial, (Kl.trans Kl.rf k632)⟩
        · exact ⟨_, rfl, trivial, Kl.rf⟩
set_option maxHeartbeats 4000000 in
set_option maxRecDepth 20000 in
theorem tf_Main_changeBy {ld : Nat} {p1 : Int32} {p2 : Int32} {M : gM} (hld : isLa ld) : ∃ r M', F_Main_changeBy ld p1 p2 M = some (r, M') ∧ True ∧ Kl C0 M zL M' zL := by
  refine Ok.x2 (A := fun r M' => True ∧ Kl C0 M zL M' zL) ?_
  unfold F_Main_changeBy
  have LP636 : ∀ (f633 : Nat) (v637 : Int32) (v638 : Int32) (M639 : gM), Kl C0 M zL M639 zL → ¬ v638 < 0 → ((3 : Int32).toInt - v638.toInt).toNat < f633 → Ok (H_Main_changeBy_5 ld p1 p2 f633 v637 v638 M639) (fun q => True ∧ Kl C0 M zL q.2 zL) := by
    intro f633
    induction f633 with
    | zero => intro v637 v638 M639 _ _ hm635; exact absurd hm635 (Nat.not_lt_zero _)
    | succ f633 ih634 =>
      intro v637 v638 M639 k640 n641 hm635
      show Ok (B_Main_changeBy_5 ld p1 p2 (H_Main_changeBy_5 ld p1 p2 f633) v637 v638 M639) _
      unfold B_Main_changeBy_5
      refine Ok.ite (fun h642 => ?_) (fun h642 => ?_)
      · exact ⟨_, rfl, trivial, k640⟩
      · refine Ok.c2 (tf_Land_dishForce hld) (fun r643 M644 ⟨_, k645⟩ => ?_)
        refine Ok.c2 (tf_Land_dishForce hld) (fun r646 M647 ⟨_, k648⟩ => ?_)
        refine Ok.nmI (fun x649 ex649 => ?_)
        refine Ok.nmI (fun x650 ex650 => ?_)
        exact ih634 x649 x650 M647 (Kl.trans (Kl.trans k640 k645) k648) (nn_up (y := (3 : Int32)) h642 ex650 n641) (md_up h642 ex650 hm635)
  exact LP636 _ 0 0 M Kl.rf (by decide) fu_up
set_option maxHeartbeats 4000000 in
set_option maxRecDepth 20000 in
theorem tf_Main_dish {ld : Nat} {p1 : Int32} {p2 : Int32} {M : gM} (hld : isLa ld) : ∃ r M', F_Main_dish ld p1 p2 M = some (r, M') ∧ True ∧ Kl C0 M zL M' zL := by
  refine Ok.x2 (A := fun r M' => True ∧ Kl C0 M zL M' zL) ?_
  unfold F_Main_dish
  refine Ok.c1 (tf_Main_isOne ) (fun r651 hbr651 => ?_)
  refine Ok.ite (fun h652 => ?_) (fun h652 => ?_)
  · exact ⟨_, rfl, trivial, Kl.rf⟩
  · refine Ok.ite (fun h653 => ?_) (fun h653 => ?_)
    · refine Ok.c1 (tf_Main_at (by decide)) (fun r654 _ => ?_)
      exact ⟨_, rfl, trivial, Kl.rf⟩
    refine Ok.ite (fun h655 => ?_) (fun h655 => ?_)
    · refine Ok.c1 (tf_Land_manyIn hld) (fun r656 _ => ?_)
      exact ⟨_, rfl, trivial, Kl.rf⟩
    refine Ok.ite (fun h657 => ?_) (fun h657 => ?_)
    · refine Ok.c1 (tf_Land_priceOf hld) (fun r658 _ => ?_)
      exact ⟨_, rfl, trivial, Kl.rf⟩
    refine Ok.ite (fun h659 => ?_) (fun h659 => ?_)
    · refine Ok.c2 (tf_Land_dishForce hld) (fun r660 M661 ⟨_, k662⟩ => ?_)
      exact ⟨_, rfl, trivial, (Kl.trans Kl.rf k662)⟩
    refine Ok.ite (fun h663 => ?_) (fun h663 => ?_)
    · refine Ok.c2 (tf_Land_dishForce hld) (fun r664 M665 ⟨_, k666⟩ => ?_)
      exact ⟨_, rfl, trivial, (Kl.trans Kl.rf k666)⟩
    refine Ok.ite (fun h667 => ?_) (fun h667 => ?_)
    · refine Ok.c2 (tf_Land_dishForce hld) (fun r668 M669 ⟨_, k670⟩ => ?_)
      exact ⟨_, rfl, trivial, (Kl.trans Kl.rf k670)⟩
    refine Ok.ite (fun h671 => ?_) (fun h671 => ?_)
    · refine Ok.c1 (tf_Main_at (by decide)) (fun r672 _ => ?_)
      exact ⟨_, rfl, trivial, Kl.rf⟩
    exact ⟨_, rfl, trivial, Kl.rf⟩
set_option maxHeartbeats 4000000 in
set_option maxRecDepth 20000 in
theorem tf_Main_guest {ld : Nat} {p1 : Int32} {p2 : Int32} {M : gM} (hld : isLa ld) : ∃ r M', F_Main_guest ld p1 p2 M = some (r, M') ∧ True ∧ Kl C0 M zL M' zL := by
  refine Ok.x2 (A := fun r M' => True ∧ Kl C0 M zL M' zL) ?_
  unfold F_Main_guest
  refine Ok.c1 (tf_Main_isOne ) (fun r673 hbr673 => ?_)
  refine Ok.ite (fun h674 => ?_) (fun h674 => ?_)
  · exact ⟨_, rfl, trivial, Kl.rf⟩
  · refine Ok.ite (fun h675 => ?_) (fun h675 => ?_)
    · refine Ok.c1 (tf_Main_at (by decide)) (fun r676 _ => ?_)
      exact ⟨_, rfl, trivial, Kl.rf⟩
    refine Ok.ite (fun h677 => ?_) (fun h677 => ?_)
    · refine Ok.c1 (tf_State_hasEaten isSt_64) (fun r678 hbr678 => ?_)
      refine Ok.ite (fun h679 => ?_) (fun h679 => ?_)
      · exact ⟨_, rfl, trivial, Kl.rf⟩
      · refine Ok.c1 (tf_State_agoOf isSt_64) (fun r680 _ => ?_)
        exact ⟨_, rfl, trivial, Kl.rf⟩
    refine Ok.ite (fun h681 => ?_) (fun h681 => ?_)
    · refine Ok.c1 (tf_Main_at (by decide)) (fun r682 _ => ?_)
      exact ⟨_, rfl, trivial, Kl.rf⟩
    refine Ok.ite (fun h683 => ?_) (fun h683 => ?_)
    · refine Ok.c2 (tf_State_boundOf isSt_64 hld) (fun r684 M685 ⟨_, k686⟩ => ?_)
      exact ⟨_, rfl, trivial, (Kl.trans Kl.rf k686)⟩
    refine Ok.ite (fun h687 => ?_) (fun h687 => ?_)
    · refine Ok.c2 (tf_State_boundOf isSt_64 hld) (fun r688 M689 ⟨_, k690⟩ => ?_)
      exact ⟨_, rfl, trivial, (Kl.trans Kl.rf k690)⟩
    refine Ok.ite (fun h691 => ?_) (fun h691 => ?_)
    · refine Ok.c2 (tf_State_boundOf isSt_64 hld) (fun r692 M693 ⟨_, k694⟩ => ?_)
      exact ⟨_, rfl, trivial, (Kl.trans Kl.rf k694)⟩
    exact ⟨_, rfl, trivial, Kl.rf⟩
set_option maxHeartbeats 4000000 in
set_option maxRecDepth 20000 in
theorem tf_Main_hunger {ld : Nat} {p1 : Int32} {p2 : Int32} {M : gM} (hld : isLa ld) : ∃ r M', F_Main_hunger ld p1 p2 M = some (r, M') ∧ True ∧ Kl C0 M zL M' zL := by
  refine Ok.x2 (A := fun r M' => True ∧ Kl C0 M zL M' zL) ?_
  unfold F_Main_hunger
  refine Ok.c1 (tf_Main_isOne ) (fun r695 hbr695 => ?_)
  refine Ok.ite (fun h696 => ?_) (fun h696 => ?_)
  · exact ⟨_, rfl, trivial, Kl.rf⟩
  · refine Ok.c1 (tf_Main_isOne ) (fun r697 hbr697 => ?_)
    refine Ok.ite (fun h698 => ?_) (fun h698 => ?_)
    · exact ⟨_, rfl, trivial, Kl.rf⟩
    · refine Ok.c1 (tf_Main_at (by decide)) (fun r699 _ => ?_)
      have LP703 : ∀ (f700 : Nat) (v704 : Int32) (M705 : gM), Kl C0 M zL M705 zL → ¬ v704 < 0 → ((99 : Int32).toInt + 1 - v704.toInt).toNat < f700 → Ok (H_Main_hunger_45 ld p1 p2 r699 f700 v704 M705) (fun q => True ∧ Kl C0 M zL q.2 zL) := by
        intro f700
        induction f700 with
        | zero => intro v704 M705 _ _ hm702; exact absurd hm702 (Nat.not_lt_zero _)
        | succ f700 ih701 =>
          intro v704 M705 k706 n707 hm702
          show Ok (B_Main_hunger_45 ld p1 p2 r699 (H_Main_hunger_45 ld p1 p2 r699 f700) v704 M705) _
          unfold B_Main_hunger_45
          refine Ok.ite (fun h708 => ?_) (fun h708 => ?_)
          · exact ⟨_, rfl, trivial, k706⟩
          · refine Ok.c2 (tf_State_boundOf isSt_64 hld) (fun r709 M710 ⟨_, k711⟩ => ?_)
            refine Ok.c1 (tf_Main_at (by decide)) (fun r712 _ => ?_)
            refine Ok.ite (fun h713 => ?_) (fun h713 => ?_)
            · refine Ok.nmI (fun x714 ex714 => ?_)
              exact ih701 x714 M710 (Kl.trans k706 k711) (nn_upe (y := (99 : Int32)) h708 (by decide) ex714 n707) (md_upe h708 (by decide) ex714 hm702)
            · exact ⟨_, rfl, trivial, (Kl.trans k706 k711)⟩
      exact LP703 _ 0 M Kl.rf (by decide) fu_upe
set_option maxHeartbeats 4000000 in
set_option maxRecDepth 20000 in
theorem tf_Main_stockIn {ld : Nat} {p1 : Int32} {p2 : Int32} {M : gM} (hld : isLa ld) : ∃ r M', F_Main_stockIn ld p1 p2 M = some (r, M') ∧ True ∧ Kl C1 M zL M' zL := by
  refine Ok.x2 (A := fun r M' => True ∧ Kl C1 M zL M' zL) ?_
  unfold F_Main_stockIn
  refine Ok.c1 (tf_Main_isOne ) (fun r715 hbr715 => ?_)
  refine Ok.ite (fun h716 => ?_) (fun h716 => ?_)
  · exact ⟨_, rfl, trivial, Kl.rf⟩
  · refine Ok.ite (fun h717 => ?_) (fun h717 => ?_)
    · exact ⟨_, rfl, trivial, Kl.rf⟩
    · refine Ok.ite (fun h718 => ?_) (fun h718 => ?_)
      · refine Ok.c1 (tf_State_copyFrom isSt_71 isSt_64) (fun M719 k720 => ?_)
        refine Ok.c1 (tf_State_passDays isSt_71 hld) (fun M721 k722 => ?_)
        refine Ok.c1 (tf_Main_at (by decide)) (fun r723 _ => ?_)
        exact ⟨_, rfl, trivial, (Kl.trans (Kl.trans Kl.rf (Kl.mono k720 CX_C1)) (Kl.mono k722 CX_C1))⟩
      · exact ⟨_, rfl, trivial, Kl.rf⟩
set_option maxHeartbeats 4000000 in
set_option maxRecDepth 20000 in
theorem tf_Land_freeByDish {Ld0 : Nat} {p1 : Int32} {p2 : Int32} {p3 : Int32} {p4 : Int32} {M : gM} (hLd0 : isLa Ld0) : ∃ r M', F_Land_freeByDish Ld0 p1 p2 p3 p4 M = some (r, M') ∧ True ∧ Kl C0 M zL M' zL := by
  refine Ok.x2 (A := fun r M' => True ∧ Kl C0 M zL M' zL) ?_
  unfold F_Land_freeByDish
  have LP727 : ∀ (f724 : Nat) (v728 : Int32) (M729 : gM), Kl C0 M zL M729 zL → ¬ v728 < 0 → ((3 : Int32).toInt - v728.toInt).toNat < f724 → Ok (H_Land_freeByDish_3 Ld0 p1 p2 p3 p4 f724 v728 M729) (fun q => True ∧ Kl C0 M zL q.2 zL) := by
    intro f724
    induction f724 with
    | zero => intro v728 M729 _ _ hm726; exact absurd hm726 (Nat.not_lt_zero _)
    | succ f724 ih725 =>
      intro v728 M729 k730 n731 hm726
      show Ok (B_Land_freeByDish_3 Ld0 p1 p2 p3 p4 (H_Land_freeByDish_3 Ld0 p1 p2 p3 p4 f724) v728 M729) _
      unfold B_Land_freeByDish_3
      refine Ok.ite (fun h732 => ?_) (fun h732 => ?_)
      · unfold J_Land_freeByDish_34
        have LP736 : ∀ (f733 : Nat) (v737 : Int32) (v738 : Int32) (M739 : gM), Kl C0 M zL M739 zL → ¬ v738 < 0 → ((3 : Int32).toInt - v738.toInt).toNat < f733 → Ok (H_Land_freeByDish_40 Ld0 p1 p3 p4 f733 v737 v738 M739) (fun q => True ∧ Kl C0 M zL q.2 zL) := by
          intro f733
          induction f733 with
          | zero => intro v737 v738 M739 _ _ hm735; exact absurd hm735 (Nat.not_lt_zero _)
          | succ f733 ih734 =>
            intro v737 v738 M739 k740 n741 hm735
            show Ok (B_Land_freeByDish_40 Ld0 p1 p3 p4 (H_Land_freeByDish_40 Ld0 p1 p3 p4 f733) v737 v738 M739) _
            unfold B_Land_freeByDish_40
            refine Ok.ite (fun h742 => ?_) (fun h742 => ?_)
            · exact ⟨_, rfl, trivial, k740⟩
            · refine Ok.c1 (tf_Main_at (by decide)) (fun r743 _ => ?_)
              refine Ok.c2 (tf_Land_boundBy hLd0) (fun r744 M745 ⟨_, k746⟩ => ?_)
              refine Ok.c1 (tf_Land_freeUnder hLd0) (fun r747 _ => ?_)
              refine Ok.nmI (fun x748 ex748 => ?_)
              refine Ok.nmI (fun x749 ex749 => ?_)
              exact ih734 x748 x749 M745 (Kl.trans k740 k746) (nn_up (y := (3 : Int32)) h742 ex749 n741) (md_up h742 ex749 hm735)
        exact LP736 _ 0 0 M729 k730 (by decide) fu_up
      · refine Ok.c2 (tf_Land_dishForce hLd0) (fun r750 M751 ⟨_, k752⟩ => ?_)
        refine Ok.c1 (tf_Main_put (by decide)) (fun M753 k754 => ?_)
        refine Ok.nmI (fun x755 ex755 => ?_)
        exact ih725 x755 M753 (Kl.trans (Kl.trans k730 k752) (Kl.mono k754 (oneL_S (fun j => C0_La_25 hLd0 j)))) (nn_up (y := (3 : Int32)) h732 ex755 n731) (md_up h732 ex755 hm726)
  exact LP727 _ 0 M Kl.rf (by decide) fu_up
set_option maxHeartbeats 4000000 in
set_option maxRecDepth 20000 in
theorem tf_PotSearch_tryHeats {Ld1 : Nat} {p2 : Int32} {M : gM} (hLd1 : isLa Ld1) : ∃ M', F_PotSearch_tryHeats Ld1 p2 M = some M' ∧ Kl C1 M zL M' zL := by
  show Ok _ _
  unfold F_PotSearch_tryHeats
  refine Ok.ite (fun h756 => ?_) (fun h756 => ?_)
  · unfold J_PotSearch_tryHeats_41
    refine Ok.ite (fun h757 => ?_) (fun h757 => ?_)
    · unfold J_PotSearch_tryHeats_74
      unfold J_PotSearch_tryHeats_75
      unfold J_PotSearch_tryHeats_98
      refine Ok.nmI (fun x758 ex758 => ?_)
      have LP762 : ∀ (f759 : Nat) (v763 : Int32) (M764 : gM), Kl C1 M zL M764 zL → ¬ v763 < 0 → (x758.toInt - v763.toInt).toNat < f759 → Ok (H_PotSearch_tryHeats_103 Ld1 p2 x758 f759 v763 M764) (fun M' => Kl C1 M zL M' zL) := by
        intro f759
        induction f759 with
        | zero => intro v763 M764 _ _ hm761; exact absurd hm761 (Nat.not_lt_zero _)
        | succ f759 ih760 =>
          intro v763 M764 k765 n766 hm761
          show Ok (B_PotSearch_tryHeats_103 Ld1 p2 x758 (H_PotSearch_tryHeats_103 Ld1 p2 x758 f759) v763 M764) _
          unfold B_PotSearch_tryHeats_103
          refine Ok.ite (fun h767 => ?_) (fun h767 => ?_)
          · exact ⟨_, rfl, k765⟩
          · refine Ok.c2 (tf_PotSearch_isEnough hLd1) (fun r768 M769 ⟨hbr768, k770⟩ => ?_)
            refine Ok.ite (fun h771 => ?_) (fun h771 => ?_)
            · refine Ok.nmI (fun x772 ex772 => ?_)
              exact ih760 x772 M769 (Kl.trans k765 (Kl.mono k770 C0_C1)) (nn_up (y := x758) h767 ex772 n766) (md_up h767 ex772 hm761)
            · unfold J_PotSearch_tryHeats_121
              refine Ok.nmM (fun M773 eM773 => ?_)
              refine Ok.nmM (fun M774 eM774 => ?_)
              refine Ok.nmM (fun M775 eM775 => ?_)
              refine Ok.nmM (fun M776 eM776 => ?_)
              refine Ok.c1 (tf_Main_copyRow (by decide) (by decide)) (fun M777 k778 => ?_)
              exact ⟨_, rfl, (Kl.trans (Kl.wM (Kl.wM (Kl.wM (Kl.wM (Kl.trans k765 (Kl.mono k770 C0_C1)) rfl eM773) rfl eM774) rfl eM775) rfl eM776) (Kl.mono k778 (oneL_S (fun _ => rfl))))⟩
      exact LP762 _ 0 M Kl.rf (by decide) fu_up
    · refine Ok.ite (fun h779 => ?_) (fun h779 => ?_)
      · refine Ok.ite (fun h780 => ?_) (fun h780 => ?_)
        · unfold J_PotSearch_tryHeats_75
          unfold J_PotSearch_tryHeats_98
          refine Ok.nmI (fun x781 ex781 => ?_)
          have LP785 : ∀ (f782 : Nat) (v786 : Int32) (M787 : gM), Kl C1 M zL M787 zL → ¬ v786 < 0 → (x781.toInt - v786.toInt).toNat < f782 → Ok (H_PotSearch_tryHeats_103 Ld1 p2 x781 f782 v786 M787) (fun M' => Kl C1 M zL M' zL) := by
            intro f782
            induction f782 with
            | zero => intro v786 M787 _ _ hm784; exact absurd hm784 (Nat.not_lt_zero _)
            | succ f782 ih783 =>
              intro v786 M787 k788 n789 hm784
              show Ok (B_PotSearch_tryHeats_103 Ld1 p2 x781 (H_PotSearch_tryHeats_103 Ld1 p2 x781 f782) v786 M787) _
              unfold B_PotSearch_tryHeats_103
              refine Ok.ite (fun h790 => ?_) (fun h790 => ?_)
              · exact ⟨_, rfl, k788⟩
              · refine Ok.c2 (tf_PotSearch_isEnough hLd1) (fun r791 M792 ⟨hbr791, k793⟩ => ?_)
                refine Ok.ite (fun h794 => ?_) (fun h794 => ?_)
                · refine Ok.nmI (fun x795 ex795 => ?_)
                  exact ih783 x795 M792 (Kl.trans k788 (Kl.mono k793 C0_C1)) (nn_up (y := x781) h790 ex795 n789) (md_up h790 ex795 hm784)
                · unfold J_PotSearch_tryHeats_121
                  refine Ok.nmM (fun M796 eM796 => ?_)
                  refine Ok.nmM (fun M797 eM797 => ?_)
                  refine Ok.nmM (fun M798 eM798 => ?_)
                  refine Ok.nmM (fun M799 eM799 => ?_)
                  refine Ok.c1 (tf_Main_copyRow (by decide) (by decide)) (fun M800 k801 => ?_)
                  exact ⟨_, rfl, (Kl.trans (Kl.wM (Kl.wM (Kl.wM (Kl.wM (Kl.trans k788 (Kl.mono k793 C0_C1)) rfl eM796) rfl eM797) rfl eM798) rfl eM799) (Kl.mono k801 (oneL_S (fun _ => rfl))))⟩
          exact LP785 _ 0 M Kl.rf (by decide) fu_up
        · unfold J_PotSearch_tryHeats_74
          unfold J_PotSearch_tryHeats_75
          unfold J_PotSearch_tryHeats_98
          refine Ok.nmI (fun x802 ex802 => ?_)
          have LP806 : ∀ (f803 : Nat) (v807 : Int32) (M808 : gM), Kl C1 M zL M808 zL → ¬ v807 < 0 → (x802.toInt - v807.toInt).toNat < f803 → Ok (H_PotSearch_tryHeats_103 Ld1 p2 x802 f803 v807 M808) (fun M' => Kl C1 M zL M' zL) := by
            intro f803
            induction f803 with
            | zero => intro v807 M808 _ _ hm805; exact absurd hm805 (Nat.not_lt_zero _)
            | succ f803 ih804 =>
              intro v807 M808 k809 n810 hm805
              show Ok (B_PotSearch_tryHeats_103 Ld1 p2 x802 (H_PotSearch_tryHeats_103 Ld1 p2 x802 f803) v807 M808) _
              unfold B_PotSearch_tryHeats_103
              refine Ok.ite (fun h811 => ?_) (fun h811 => ?_)
              · exact ⟨_, rfl, k809⟩
              · refine Ok.c2 (tf_PotSearch_isEnough hLd1) (fun r812 M813 ⟨hbr812, k814⟩ => ?_)
                refine Ok.ite (fun h815 => ?_) (fun h815 => ?_)
                · refine Ok.nmI (fun x816 ex816 => ?_)
                  exact ih804 x816 M813 (Kl.trans k809 (Kl.mono k814 C0_C1)) (nn_up (y := x802) h811 ex816 n810) (md_up h811 ex816 hm805)
                · unfold J_PotSearch_tryHeats_121
                  refine Ok.nmM (fun M817 eM817 => ?_)
                  refine Ok.nmM (fun M818 eM818 => ?_)
                  refine Ok.nmM (fun M819 eM819 => ?_)
                  refine Ok.nmM (fun M820 eM820 => ?_)
                  refine Ok.c1 (tf_Main_copyRow (by decide) (by decide)) (fun M821 k822 => ?_)
                  exact ⟨_, rfl, (Kl.trans (Kl.wM (Kl.wM (Kl.wM (Kl.wM (Kl.trans k809 (Kl.mono k814 C0_C1)) rfl eM817) rfl eM818) rfl eM819) rfl eM820) (Kl.mono k822 (oneL_S (fun _ => rfl))))⟩
          exact LP806 _ 0 M Kl.rf (by decide) fu_up
      · unfold J_PotSearch_tryHeats_74
        unfold J_PotSearch_tryHeats_75
        unfold J_PotSearch_tryHeats_98
        refine Ok.nmI (fun x823 ex823 => ?_)
        have LP827 : ∀ (f824 : Nat) (v828 : Int32) (M829 : gM), Kl C1 M zL M829 zL → ¬ v828 < 0 → (x823.toInt - v828.toInt).toNat < f824 → Ok (H_PotSearch_tryHeats_103 Ld1 p2 x823 f824 v828 M829) (fun M' => Kl C1 M zL M' zL) := by
          intro f824
          induction f824 with
          | zero => intro v828 M829 _ _ hm826; exact absurd hm826 (Nat.not_lt_zero _)
          | succ f824 ih825 =>
            intro v828 M829 k830 n831 hm826
            show Ok (B_PotSearch_tryHeats_103 Ld1 p2 x823 (H_PotSearch_tryHeats_103 Ld1 p2 x823 f824) v828 M829) _
            unfold B_PotSearch_tryHeats_103
            refine Ok.ite (fun h832 => ?_) (fun h832 => ?_)
            · exact ⟨_, rfl, k830⟩
            · refine Ok.c2 (tf_PotSearch_isEnough hLd1) (fun r833 M834 ⟨hbr833, k835⟩ => ?_)
              refine Ok.ite (fun h836 => ?_) (fun h836 => ?_)
              · refine Ok.nmI (fun x837 ex837 => ?_)
                exact ih825 x837 M834 (Kl.trans k830 (Kl.mono k835 C0_C1)) (nn_up (y := x823) h832 ex837 n831) (md_up h832 ex837 hm826)
              · unfold J_PotSearch_tryHeats_121
                refine Ok.nmM (fun M838 eM838 => ?_)
                refine Ok.nmM (fun M839 eM839 => ?_)
                refine Ok.nmM (fun M840 eM840 => ?_)
                refine Ok.nmM (fun M841 eM841 => ?_)
                refine Ok.c1 (tf_Main_copyRow (by decide) (by decide)) (fun M842 k843 => ?_)
                exact ⟨_, rfl, (Kl.trans (Kl.wM (Kl.wM (Kl.wM (Kl.wM (Kl.trans k830 (Kl.mono k835 C0_C1)) rfl eM838) rfl eM839) rfl eM840) rfl eM841) (Kl.mono k843 (oneL_S (fun _ => rfl))))⟩
        exact LP827 _ 0 M Kl.rf (by decide) fu_up
  · refine Ok.ite (fun h844 => ?_) (fun h844 => ?_)
    · exact ⟨_, rfl, Kl.rf⟩
    · refine Ok.ite (fun h845 => ?_) (fun h845 => ?_)
      · refine Ok.ite (fun h846 => ?_) (fun h846 => ?_)
        · unfold J_PotSearch_tryHeats_41
          refine Ok.ite (fun h847 => ?_) (fun h847 => ?_)
          · unfold J_PotSearch_tryHeats_74
            unfold J_PotSearch_tryHeats_75
            unfold J_PotSearch_tryHeats_98
            refine Ok.nmI (fun x848 ex848 => ?_)
            have LP852 : ∀ (f849 : Nat) (v853 : Int32) (M854 : gM), Kl C1 M zL M854 zL → ¬ v853 < 0 → (x848.toInt - v853.toInt).toNat < f849 → Ok (H_PotSearch_tryHeats_103 Ld1 p2 x848 f849 v853 M854) (fun M' => Kl C1 M zL M' zL) := by
              intro f849
              induction f849 with
              | zero => intro v853 M854 _ _ hm851; exact absurd hm851 (Nat.not_lt_zero _)
              | succ f849 ih850 =>
                intro v853 M854 k855 n856 hm851
                show Ok (B_PotSearch_tryHeats_103 Ld1 p2 x848 (H_PotSearch_tryHeats_103 Ld1 p2 x848 f849) v853 M854) _
                unfold B_PotSearch_tryHeats_103
                refine Ok.ite (fun h857 => ?_) (fun h857 => ?_)
                · exact ⟨_, rfl, k855⟩
                · refine Ok.c2 (tf_PotSearch_isEnough hLd1) (fun r858 M859 ⟨hbr858, k860⟩ => ?_)
                  refine Ok.ite (fun h861 => ?_) (fun h861 => ?_)
                  · refine Ok.nmI (fun x862 ex862 => ?_)
                    exact ih850 x862 M859 (Kl.trans k855 (Kl.mono k860 C0_C1)) (nn_up (y := x848) h857 ex862 n856) (md_up h857 ex862 hm851)
                  · unfold J_PotSearch_tryHeats_121
                    refine Ok.nmM (fun M863 eM863 => ?_)
                    refine Ok.nmM (fun M864 eM864 => ?_)
                    refine Ok.nmM (fun M865 eM865 => ?_)
                    refine Ok.nmM (fun M866 eM866 => ?_)
                    refine Ok.c1 (tf_Main_copyRow (by decide) (by decide)) (fun M867 k868 => ?_)
                    exact ⟨_, rfl, (Kl.trans (Kl.wM (Kl.wM (Kl.wM (Kl.wM (Kl.trans k855 (Kl.mono k860 C0_C1)) rfl eM863) rfl eM864) rfl eM865) rfl eM866) (Kl.mono k868 (oneL_S (fun _ => rfl))))⟩
            exact LP852 _ 0 M Kl.rf (by decide) fu_up
          · refine Ok.ite (fun h869 => ?_) (fun h869 => ?_)
            · refine Ok.ite (fun h870 => ?_) (fun h870 => ?_)
              · unfold J_PotSearch_tryHeats_75
                unfold J_PotSearch_tryHeats_98
                refine Ok.nmI (fun x871 ex871 => ?_)
                have LP875 : ∀ (f872 : Nat) (v876 : Int32) (M877 : gM), Kl C1 M zL M877 zL → ¬ v876 < 0 → (x871.toInt - v876.toInt).toNat < f872 → Ok (H_PotSearch_tryHeats_103 Ld1 p2 x871 f872 v876 M877) (fun M' => Kl C1 M zL M' zL) := by
                  intro f872
                  induction f872 with
                  | zero => intro v876 M877 _ _ hm874; exact absurd hm874 (Nat.not_lt_zero _)
                  | succ f872 ih873 =>
                    intro v876 M877 k878 n879 hm874
                    show Ok (B_PotSearch_tryHeats_103 Ld1 p2 x871 (H_PotSearch_tryHeats_103 Ld1 p2 x871 f872) v876 M877) _
                    unfold B_PotSearch_tryHeats_103
                    refine Ok.ite (fun h880 => ?_) (fun h880 => ?_)
                    · exact ⟨_, rfl, k878⟩
                    · refine Ok.c2 (tf_PotSearch_isEnough hLd1) (fun r881 M882 ⟨hbr881, k883⟩ => ?_)
                      refine Ok.ite (fun h884 => ?_) (fun h884 => ?_)
                      · refine Ok.nmI (fun x885 ex885 => ?_)
                        exact ih873 x885 M882 (Kl.trans k878 (Kl.mono k883 C0_C1)) (nn_up (y := x871) h880 ex885 n879) (md_up h880 ex885 hm874)
                      · unfold J_PotSearch_tryHeats_121
                        refine Ok.nmM (fun M886 eM886 => ?_)
                        refine Ok.nmM (fun M887 eM887 => ?_)
                        refine Ok.nmM (fun M888 eM888 => ?_)
                        refine Ok.nmM (fun M889 eM889 => ?_)
                        refine Ok.c1 (tf_Main_copyRow (by decide) (by decide)) (fun M890 k891 => ?_)
                        exact ⟨_, rfl, (Kl.trans (Kl.wM (Kl.wM (Kl.wM (Kl.wM (Kl.trans k878 (Kl.mono k883 C0_C1)) rfl eM886) rfl eM887) rfl eM888) rfl eM889) (Kl.mono k891 (oneL_S (fun _ => rfl))))⟩
                exact LP875 _ 0 M Kl.rf (by decide) fu_up
              · unfold J_PotSearch_tryHeats_74
                unfold J_PotSearch_tryHeats_75
                unfold J_PotSearch_tryHeats_98
                refine Ok.nmI (fun x892 ex892 => ?_)
                have LP896 : ∀ (f893 : Nat) (v897 : Int32) (M898 : gM), Kl C1 M zL M898 zL → ¬ v897 < 0 → (x892.toInt - v897.toInt).toNat < f893 → Ok (H_PotSearch_tryHeats_103 Ld1 p2 x892 f893 v897 M898) (fun M' => Kl C1 M zL M' zL) := by
                  intro f893
                  induction f893 with
                  | zero => intro v897 M898 _ _ hm895; exact absurd hm895 (Nat.not_lt_zero _)
                  | succ f893 ih894 =>
                    intro v897 M898 k899 n900 hm895
                    show Ok (B_PotSearch_tryHeats_103 Ld1 p2 x892 (H_PotSearch_tryHeats_103 Ld1 p2 x892 f893) v897 M898) _
                    unfold B_PotSearch_tryHeats_103
                    refine Ok.ite (fun h901 => ?_) (fun h901 => ?_)
                    · exact ⟨_, rfl, k899⟩
                    · refine Ok.c2 (tf_PotSearch_isEnough hLd1) (fun r902 M903 ⟨hbr902, k904⟩ => ?_)
                      refine Ok.ite (fun h905 => ?_) (fun h905 => ?_)
                      · refine Ok.nmI (fun x906 ex906 => ?_)
                        exact ih894 x906 M903 (Kl.trans k899 (Kl.mono k904 C0_C1)) (nn_up (y := x892) h901 ex906 n900) (md_up h901 ex906 hm895)
                      · unfold J_PotSearch_tryHeats_121
                        refine Ok.nmM (fun M907 eM907 => ?_)
                        refine Ok.nmM (fun M908 eM908 => ?_)
                        refine Ok.nmM (fun M909 eM909 => ?_)
                        refine Ok.nmM (fun M910 eM910 => ?_)
                        refine Ok.c1 (tf_Main_copyRow (by decide) (by decide)) (fun M911 k912 => ?_)
                        exact ⟨_, rfl, (Kl.trans (Kl.wM (Kl.wM (Kl.wM (Kl.wM (Kl.trans k899 (Kl.mono k904 C0_C1)) rfl eM907) rfl eM908) rfl eM909) rfl eM910) (Kl.mono k912 (oneL_S (fun _ => rfl))))⟩
                exact LP896 _ 0 M Kl.rf (by decide) fu_up
            · unfold J_PotSearch_tryHeats_74
              unfold J_PotSearch_tryHeats_75
              unfold J_PotSearch_tryHeats_98
              refine Ok.nmI (fun x913 ex913 => ?_)
              have LP917 : ∀ (f914 : Nat) (v918 : Int32) (M919 : gM), Kl C1 M zL M919 zL → ¬ v918 < 0 → (x913.toInt - v918.toInt).toNat < f914 → Ok (H_PotSearch_tryHeats_103 Ld1 p2 x913 f914 v918 M919) (fun M' => Kl C1 M zL M' zL) := by
                intro f914
                induction f914 with
                | zero => intro v918 M919 _ _ hm916; exact absurd hm916 (Nat.not_lt_zero _)
                | succ f914 ih915 =>
                  intro v918 M919 k920 n921 hm916
                  show Ok (B_PotSearch_tryHeats_103 Ld1 p2 x913 (H_PotSearch_tryHeats_103 Ld1 p2 x913 f914) v918 M919) _
                  unfold B_PotSearch_tryHeats_103
                  refine Ok.ite (fun h922 => ?_) (fun h922 => ?_)
                  · exact ⟨_, rfl, k920⟩
                  · refine Ok.c2 (tf_PotSearch_isEnough hLd1) (fun r923 M924 ⟨hbr923, k925⟩ => ?_)
                    refine Ok.ite (fun h926 => ?_) (fun h926 => ?_)
                    · refine Ok.nmI (fun x927 ex927 => ?_)
                      exact ih915 x927 M924 (Kl.trans k920 (Kl.mono k925 C0_C1)) (nn_up (y := x913) h922 ex927 n921) (md_up h922 ex927 hm916)
                    · unfold J_PotSearch_tryHeats_121
                      refine Ok.nmM (fun M928 eM928 => ?_)
                      refine Ok.nmM (fun M929 eM929 => ?_)
                      refine Ok.nmM (fun M930 eM930 => ?_)
                      refine Ok.nmM (fun M931 eM931 => ?_)
                      refine Ok.c1 (tf_Main_copyRow (by decide) (by decide)) (fun M932 k933 => ?_)
                      exact ⟨_, rfl, (Kl.trans (Kl.wM (Kl.wM (Kl.wM (Kl.wM (Kl.trans k920 (Kl.mono k925 C0_C1)) rfl eM928) rfl eM929) rfl eM930) rfl eM931) (Kl.mono k933 (oneL_S (fun _ => rfl))))⟩
              exact LP917 _ 0 M Kl.rf (by decide) fu_up
        · exact ⟨_, rfl, Kl.rf⟩
      · unfold J_PotSearch_tryHeats_41
        refine Ok.ite (fun h934 => ?_) (fun h934 => ?_)
        · unfold J_PotSearch_tryHeats_74
          unfold J_PotSearch_tryHeats_75
          unfold J_PotSearch_tryHeats_98
          refine Ok.nmI (fun x935 ex935 => ?_)
          have LP939 : ∀ (f936 : Nat) (v940 : Int32) (M941 : gM), Kl C1 M zL M941 zL → ¬ v940 < 0 → (x935.toInt - v940.toInt).toNat < f936 → Ok (H_PotSearch_tryHeats_103 Ld1 p2 x935 f936 v940 M941) (fun M' => Kl C1 M zL M' zL) := by
            intro f936
            induction f936 with
            | zero => intro v940 M941 _ _ hm938; exact absurd hm938 (Nat.not_lt_zero _)
            | succ f936 ih937 =>
              intro v940 M941 k942 n943 hm938
              show Ok (B_PotSearch_tryHeats_103 Ld1 p2 x935 (H_PotSearch_tryHeats_103 Ld1 p2 x935 f936) v940 M941) _
              unfold B_PotSearch_tryHeats_103
              refine Ok.ite (fun h944 => ?_) (fun h944 => ?_)
              · exact ⟨_, rfl, k942⟩
              · refine Ok.c2 (tf_PotSearch_isEnough hLd1) (fun r945 M946 ⟨hbr945, k947⟩ => ?_)
                refine Ok.ite (fun h948 => ?_) (fun h948 => ?_)
                · refine Ok.nmI (fun x949 ex949 => ?_)
                  exact ih937 x949 M946 (Kl.trans k942 (Kl.mono k947 C0_C1)) (nn_up (y := x935) h944 ex949 n943) (md_up h944 ex949 hm938)
                · unfold J_PotSearch_tryHeats_121
                  refine Ok.nmM (fun M950 eM950 => ?_)
                  refine Ok.nmM (fun M951 eM951 => ?_)
                  refine Ok.nmM (fun M952 eM952 => ?_)
                  refine Ok.nmM (fun M953 eM953 => ?_)
                  refine Ok.c1 (tf_Main_copyRow (by decide) (by decide)) (fun M954 k955 => ?_)
                  exact ⟨_, rfl, (Kl.trans (Kl.wM (Kl.wM (Kl.wM (Kl.wM (Kl.trans k942 (Kl.mono k947 C0_C1)) rfl eM950) rfl eM951) rfl eM952) rfl eM953) (Kl.mono k955 (oneL_S (fun _ => rfl))))⟩
          exact LP939 _ 0 M Kl.rf (by decide) fu_up
        · refine Ok.ite (fun h956 => ?_) (fun h956 => ?_)
          · refine Ok.ite (fun h957 => ?_) (fun h957 => ?_)
            · unfold J_PotSearch_tryHeats_75
              unfold J_PotSearch_tryHeats_98
              refine Ok.nmI (fun x958 ex958 => ?_)
              have LP962 : ∀ (f959 : Nat) (v963 : Int32) (M964 : gM), Kl C1 M zL M964 zL → ¬ v963 < 0 → (x958.toInt - v963.toInt).toNat < f959 → Ok (H_PotSearch_tryHeats_103 Ld1 p2 x958 f959 v963 M964) (fun M' => Kl C1 M zL M' zL) := by
                intro f959
                induction f959 with
                | zero => intro v963 M964 _ _ hm961; exact absurd hm961 (Nat.not_lt_zero _)
                | succ f959 ih960 =>
                  intro v963 M964 k965 n966 hm961
                  show Ok (B_PotSearch_tryHeats_103 Ld1 p2 x958 (H_PotSearch_tryHeats_103 Ld1 p2 x958 f959) v963 M964) _
                  unfold B_PotSearch_tryHeats_103
                  refine Ok.ite (fun h967 => ?_) (fun h967 => ?_)
                  · exact ⟨_, rfl, k965⟩
                  · refine Ok.c2 (tf_PotSearch_isEnough hLd1) (fun r968 M969 ⟨hbr968, k970⟩ => ?_)
                    refine Ok.ite (fun h971 => ?_) (fun h971 => ?_)
                    · refine Ok.nmI (fun x972 ex972 => ?_)
                      exact ih960 x972 M969 (Kl.trans k965 (Kl.mono k970 C0_C1)) (nn_up (y := x958) h967 ex972 n966) (md_up h967 ex972 hm961)
                    · unfold J_PotSearch_tryHeats_121
                      refine Ok.nmM (fun M973 eM973 => ?_)
                      refine Ok.nmM (fun M974 eM974 => ?_)
                      refine Ok.nmM (fun M975 eM975 => ?_)
                      refine Ok.nmM (fun M976 eM976 => ?_)
                      refine Ok.c1 (tf_Main_copyRow (by decide) (by decide)) (fun M977 k978 => ?_)
                      exact ⟨_, rfl, (Kl.trans (Kl.wM (Kl.wM (Kl.wM (Kl.wM (Kl.trans k965 (Kl.mono k970 C0_C1)) rfl eM973) rfl eM974) rfl eM975) rfl eM976) (Kl.mono k978 (oneL_S (fun _ => rfl))))⟩
              exact LP962 _ 0 M Kl.rf (by decide) fu_up
            · unfold J_PotSearch_tryHeats_74
              unfold J_PotSearch_tryHeats_75
              unfold J_PotSearch_tryHeats_98
              refine Ok.nmI (fun x979 ex979 => ?_)
              have LP983 : ∀ (f980 : Nat) (v984 : Int32) (M985 : gM), Kl C1 M zL M985 zL → ¬ v984 < 0 → (x979.toInt - v984.toInt).toNat < f980 → Ok (H_PotSearch_tryHeats_103 Ld1 p2 x979 f980 v984 M985) (fun M' => Kl C1 M zL M' zL) := by
                intro f980
                induction f980 with
                | zero => intro v984 M985 _ _ hm982; exact absurd hm982 (Nat.not_lt_zero _)
                | succ f980 ih981 =>
                  intro v984 M985 k986 n987 hm982
                  show Ok (B_PotSearch_tryHeats_103 Ld1 p2 x979 (H_PotSearch_tryHeats_103 Ld1 p2 x979 f980) v984 M985) _
                  unfold B_PotSearch_tryHeats_103
                  refine Ok.ite (fun h988 => ?_) (fun h988 => ?_)
                  · exact ⟨_, rfl, k986⟩
                  · refine Ok.c2 (tf_PotSearch_isEnough hLd1) (fun r989 M990 ⟨hbr989, k991⟩ => ?_)
                    refine Ok.ite (fun h992 => ?_) (fun h992 => ?_)
                    · refine Ok.nmI (fun x993 ex993 => ?_)
                      exact ih981 x993 M990 (Kl.trans k986 (Kl.mono k991 C0_C1)) (nn_up (y := x979) h988 ex993 n987) (md_up h988 ex993 hm982)
                    · unfold J_PotSearch_tryHeats_121
                      refine Ok.nmM (fun M994 eM994 => ?_)
                      refine Ok.nmM (fun M995 eM995 => ?_)
                      refine Ok.nmM (fun M996 eM996 => ?_)
                      refine Ok.nmM (fun M997 eM997 => ?_)
                      refine Ok.c1 (tf_Main_copyRow (by decide) (by decide)) (fun M998 k999 => ?_)
                      exact ⟨_, rfl, (Kl.trans (Kl.wM (Kl.wM (Kl.wM (Kl.wM (Kl.trans k986 (Kl.mono k991 C0_C1)) rfl eM994) rfl eM995) rfl eM996) rfl eM997) (Kl.mono k999 (oneL_S (fun _ => rfl))))⟩
              exact LP983 _ 0 M Kl.rf (by decide) fu_up
          · unfold J_PotSearch_tryHeats_74
            unfold J_PotSearch_tryHeats_75
            unfold J_PotSearch_tryHeats_98
            refine Ok.nmI (fun x1000 ex1000 => ?_)
            have LP1004 : ∀ (f1001 : Nat) (v1005 : Int32) (M1006 : gM), Kl C1 M zL M1006 zL → ¬ v1005 < 0 → (x1000.toInt - v1005.toInt).toNat < f1001 → Ok (H_PotSearch_tryHeats_103 Ld1 p2 x1000 f1001 v1005 M1006) (fun M' => Kl C1 M zL M' zL) := by
              intro f1001
              induction f1001 with
              | zero => intro v1005 M1006 _ _ hm1003; exact absurd hm1003 (Nat.not_lt_zero _)
              | succ f1001 ih1002 =>
                intro v1005 M1006 k1007 n1008 hm1003
                show Ok (B_PotSearch_tryHeats_103 Ld1 p2 x1000 (H_PotSearch_tryHeats_103 Ld1 p2 x1000 f1001) v1005 M1006) _
                unfold B_PotSearch_tryHeats_103
                refine Ok.ite (fun h1009 => ?_) (fun h1009 => ?_)
                · exact ⟨_, rfl, k1007⟩
                · refine Ok.c2 (tf_PotSearch_isEnough hLd1) (fun r1010 M1011 ⟨hbr1010, k1012⟩ => ?_)
                  refine Ok.ite (fun h1013 => ?_) (fun h1013 => ?_)
                  · refine Ok.nmI (fun x1014 ex1014 => ?_)
                    exact ih1002 x1014 M1011 (Kl.trans k1007 (Kl.mono k1012 C0_C1)) (nn_up (y := x1000) h1009 ex1014 n1008) (md_up h1009 ex1014 hm1003)
                  · unfold J_PotSearch_tryHeats_121
                    refine Ok.nmM (fun M1015 eM1015 => ?_)
                    refine Ok.nmM (fun M1016 eM1016 => ?_)
                    refine Ok.nmM (fun M1017 eM1017 => ?_)
                    refine Ok.nmM (fun M1018 eM1018 => ?_)
                    refine Ok.c1 (tf_Main_copyRow (by decide) (by decide)) (fun M1019 k1020 => ?_)
                    exact ⟨_, rfl, (Kl.trans (Kl.wM (Kl.wM (Kl.wM (Kl.wM (Kl.trans k1007 (Kl.mono k1012 C0_C1)) rfl eM1015) rfl eM1016) rfl eM1017) rfl eM1018) (Kl.mono k1020 (oneL_S (fun _ => rfl))))⟩
            exact LP1004 _ 0 M Kl.rf (by decide) fu_up
set_option maxHeartbeats 4000000 in
set_option maxRecDepth 20000 in
theorem tf_State_freeOf {X0 : Nat} {Ld1 : Nat} {p2 : Int32} {p3 : Int32} {M : gM} (hX0 : isSt X0) (hLd1 : isLa Ld1) : ∃ r M', F_State_freeOf X0 Ld1 p2 p3 M = some (r, M') ∧ True ∧ Kl C0 M zL M' zL := by
  refine Ok.x2 (A := fun r M' => True ∧ Kl C0 M zL M' zL) ?_
  unfold F_State_freeOf
  have LP1024 : ∀ (f1021 : Nat) (v1025 : Int32) (v1026 : Int32) (M1027 : gM), Kl C0 M zL M1027 zL → ¬ v1026 < 0 → ((3 : Int32).toInt - v1026.toInt).toNat < f1021 → Ok (H_State_freeOf_6 X0 Ld1 p2 p3 f1021 v1025 v1026 M1027) (fun q => True ∧ Kl C0 M zL q.2 zL) := by
    intro f1021
    induction f1021 with
    | zero => intro v1025 v1026 M1027 _ _ hm1023; exact absurd hm1023 (Nat.not_lt_zero _)
    | succ f1021 ih1022 =>
      intro v1025 v1026 M1027 k1028 n1029 hm1023
      show Ok (B_State_freeOf_6 X0 Ld1 p2 p3 (H_State_freeOf_6 X0 Ld1 p2 p3 f1021) v1025 v1026 M1027) _
      unfold B_State_freeOf_6
      refine Ok.ite (fun h1030 => ?_) (fun h1030 => ?_)
      · exact ⟨_, rfl, trivial, k1028⟩
      · refine Ok.c2 (tf_State_boundOf hX0 hLd1) (fun r1031 M1032 ⟨_, k1033⟩ => ?_)
        refine Ok.c1 (tf_Land_freeUnder hLd1) (fun r1034 _ => ?_)
        refine Ok.nmI (fun x1035 ex1035 => ?_)
        refine Ok.nmI (fun x1036 ex1036 => ?_)
        exact ih1022 x1035 x1036 M1032 (Kl.trans k1028 k1033) (nn_up (y := (3 : Int32)) h1030 ex1036 n1029) (md_up h1030 ex1036 hm1023)
  exact LP1024 _ 0 0 M Kl.rf (by decide) fu_up
set_option maxHeartbeats 4000000 in
set_option maxRecDepth 20000 in
theorem tf_State_slipInto {X0 : Nat} {Ld1 : Nat} {p2 : Int32} {p3 : Int32} {M : gM} (hX0 : isSt X0) (hLd1 : isLa Ld1) : ∃ r M', F_State_slipInto X0 Ld1 p2 p3 M = some (r, M') ∧ True ∧ Kl C0 M zL M' zL := by
  refine Ok.x2 (A := fun r M' => True ∧ Kl C0 M zL M' zL) ?_
  unfold F_State_slipInto
  refine Ok.nmI (fun x1037 ex1037 => ?_)
  refine Ok.c1 (tf_Land_lot ) (fun r1038 _ => ?_)
  refine Ok.c2 (tf_Land_slipsOf hLd1) (fun r1039 M1040 ⟨_, k1041⟩ => ?_)
  refine Ok.ite (fun h1042 => ?_) (fun h1042 => ?_)
  · refine Ok.c1 (tf_Land_lot ) (fun r1043 _ => ?_)
    refine Ok.c1 (tf_Main_at (by decide)) (fun r1044 _ => ?_)
    refine Ok.c1 (tf_Land_inDish hLd1) (fun r1045 _ => ?_)
    refine Ok.ite (fun h1046 => ?_) (fun h1046 => ?_)
    · exact ⟨_, rfl, trivial, (Kl.trans Kl.rf k1041)⟩
    · exact ⟨_, rfl, trivial, (Kl.trans Kl.rf k1041)⟩
  · exact ⟨_, rfl, trivial, (Kl.trans Kl.rf k1041)⟩
set_option maxHeartbeats 4000000 in
set_option maxRecDepth 20000 in
theorem tf_Told_isAsKnown {Ld1 : Nat} {p2 : Int32} {p3 : Int32} {M : gM} (hLd1 : isLa Ld1) : ∃ r M', F_Told_isAsKnown Ld1 p2 p3 M = some (r, M') ∧ (r = 0 ∨ r = 1) ∧ Kl C0 M zL M' zL := by
  refine Ok.x2 (A := fun r M' => (r = 0 ∨ r = 1) ∧ Kl C0 M zL M' zL) ?_
  unfold F_Told_isAsKnown
  have LP1050 : ∀ (f1047 : Nat) (v1051 : Int32) (M1052 : gM), Kl C0 M zL M1052 zL → ¬ v1051 < 0 → (p3.toInt - v1051.toInt).toNat < f1047 → Ok (H_Told_isAsKnown_3 Ld1 p2 p3 f1047 v1051 M1052) (fun q => (q.1 = 0 ∨ q.1 = 1) ∧ Kl C0 M zL q.2 zL) := by
    intro f1047
    induction f1047 with
    | zero => intro v1051 M1052 _ _ hm1049; exact absurd hm1049 (Nat.not_lt_zero _)
    | succ f1047 ih1048 =>
      intro v1051 M1052 k1053 n1054 hm1049
      show Ok (B_Told_isAsKnown_3 Ld1 p2 p3 (H_Told_isAsKnown_3 Ld1 p2 p3 f1047) v1051 M1052) _
      unfold B_Told_isAsKnown_3
      refine Ok.ite (fun h1055 => ?_) (fun h1055 => ?_)
      · exact ⟨_, rfl, (Or.inr rfl), k1053⟩
      · refine Ok.c1 (tf_Main_at (by decide)) (fun r1056 _ => ?_)
        refine Ok.c1 (tf_Main_at (by decide)) (fun r1057 _ => ?_)
        refine Ok.c2 (tf_Told_forceOf hLd1) (fun r1058 M1059 ⟨_, k1060⟩ => ?_)
        refine Ok.c1 (tf_Main_at (by decide)) (fun r1061 _ => ?_)
        refine Ok.ite (fun h1062 => ?_) (fun h1062 => ?_)
        · refine Ok.nmI (fun x1063 ex1063 => ?_)
          exact ih1048 x1063 M1059 (Kl.trans k1053 k1060) (nn_up (y := p3) h1055 ex1063 n1054) (md_up h1055 ex1063 hm1049)
        · exact ⟨_, rfl, (Or.inl rfl), (Kl.trans k1053 k1060)⟩
  exact LP1050 _ 0 M Kl.rf (by decide) fu_up
set_option maxHeartbeats 4000000 in
set_option maxRecDepth 20000 in
theorem tf_Told_mostAlike {Ld1 : Nat} {p2 : Int32} {p3 : Int32} {p4 : Int32} {M : gM} (hLd1 : isLa Ld1) : ∃ r M', F_Told_mostAlike Ld1 p2 p3 p4 M = some (r, M') ∧ True ∧ Kl C0 M zL M' zL := by
  refine Ok.x2 (A := fun r M' => True ∧ Kl C0 M zL M' zL) ?_
  unfold F_Told_mostAlike
  refine Ok.c1 (tf_Main_wipe (by decide)) (fun M1064 k1065 => ?_)
  have LP1069 : ∀ (f1066 : Nat) (v1070 : Int32) (v1071 : Int32) (M1072 : gM), Kl C0 M zL M1072 zL → ¬ v1071 < 0 → ((M 383 7).toInt - v1071.toInt).toNat < f1066 → Ok (H_Told_mostAlike_13 Ld1 p2 p3 p4 f1066 v1070 v1071 M1072) (fun q => True ∧ Kl C0 M zL q.2 zL) := by
    intro f1066
    induction f1066 with
    | zero => intro v1070 v1071 M1072 _ _ hm1068; exact absurd hm1068 (Nat.not_lt_zero _)
    | succ f1066 ih1067 =>
      intro v1070 v1071 M1072 k1073 n1074 hm1068
      show Ok (B_Told_mostAlike_13 Ld1 p2 p3 p4 (H_Told_mostAlike_13 Ld1 p2 p3 p4 f1066) v1070 v1071 M1072) _
      unfold B_Told_mostAlike_13
      refine Ok.ite (fun h1075 => ?_) (fun h1075 => ?_)
      · exact ⟨_, rfl, trivial, k1073⟩
      · refine Ok.c2 (tf_Told_forceOf hLd1) (fun r1076 M1077 ⟨_, k1078⟩ => ?_)
        refine Ok.c1 (tf_Main_at (by decide)) (fun r1079 _ => ?_)
        refine Ok.nmI (fun x1080 ex1080 => ?_)
        refine Ok.c1 (tf_Main_put (by decide)) (fun M1081 k1082 => ?_)
        refine Ok.nmI (fun x1083 ex1083 => ?_)
        refine Ok.nmI (fun x1084 ex1084 => ?_)
        exact ih1067 x1083 x1084 M1081 (Kl.trans (Kl.trans k1073 k1078) (Kl.mono k1082 (oneL_S (fun _ => rfl)))) (nn_up (y := (M 383 7)) (by rw [← Kl.m k1073 rfl]; exact h1075) ex1084 n1074) (md_up (by rw [← Kl.m k1073 rfl]; exact h1075) ex1084 hm1068)
  exact LP1069 _ 0 0 M1064 (Kl.trans Kl.rf (Kl.mono k1065 (oneL_S (fun _ => rfl)))) (by decide) fu_up
set_option maxHeartbeats 4000000 in
set_option maxRecDepth 20000 in
theorem tf_Main_freeBehind {ld : Nat} {p1 : Int32} {p2 : Int32} {M : gM} (hld : isLa ld) : ∃ r M', F_Main_freeBehind ld p1 p2 M = some (r, M') ∧ True ∧ Kl C0 M zL M' zL := by
  refine Ok.x2 (A := fun r M' => True ∧ Kl C0 M zL M' zL) ?_
  unfold F_Main_freeBehind
  refine Ok.c2 (tf_Land_freeByDish hld) (fun r1085 M1086 ⟨_, k1087⟩ => ?_)
  exact ⟨_, rfl, trivial, (Kl.trans Kl.rf k1087)⟩
set_option maxHeartbeats 4000000 in
set_option maxRecDepth 20000 in
theorem tf_Main_guestsFreeTo {ld : Nat} {p1 : Int32} {M : gM} (hld : isLa ld) : ∃ r M', F_Main_guestsFreeTo ld p1 M = some (r, M') ∧ True ∧ Kl C0 M zL M' zL := by
  refine Ok.x2 (A := fun r M' => True ∧ Kl C0 M zL M' zL) ?_
  unfold F_Main_guestsFreeTo
  have LP1091 : ∀ (f1088 : Nat) (v1092 : Int32) (v1093 : Int32) (M1094 : gM), Kl C0 M zL M1094 zL → ¬ v1093 < 0 → ((M ld 2).toInt - v1093.toInt).toNat < f1088 → Ok (H_Main_guestsFreeTo_4 ld p1 f1088 v1092 v1093 M1094) (fun q => True ∧ Kl C0 M zL q.2 zL) := by
    intro f1088
    induction f1088 with
    | zero => intro v1092 v1093 M1094 _ _ hm1090; exact absurd hm1090 (Nat.not_lt_zero _)
    | succ f1088 ih1089 =>
      intro v1092 v1093 M1094 k1095 n1096 hm1090
      show Ok (B_Main_guestsFreeTo_4 ld p1 (H_Main_guestsFreeTo_4 ld p1 f1088) v1092 v1093 M1094) _
      unfold B_Main_guestsFreeTo_4
      refine Ok.ite (fun h1097 => ?_) (fun h1097 => ?_)
      · exact ⟨_, rfl, trivial, k1095⟩
      · refine Ok.c2 (tf_State_freeOf isSt_64 hld) (fun r1098 M1099 ⟨_, k1100⟩ => ?_)
        refine Ok.c1 (tf_Main_hasBit ) (fun r1101 hbr1101 => ?_)
        refine Ok.ite (fun h1102 => ?_) (fun h1102 => ?_)
        · unfold J_Main_guestsFreeTo_41
          refine Ok.nmI (fun x1103 ex1103 => ?_)
          exact ih1089 v1092 x1103 M1099 (Kl.trans k1095 k1100) (nn_up (y := (M ld 2)) (by rw [← Kl.m k1095 (C0_La_0f hld)]; exact h1097) ex1103 n1096) (md_up (by rw [← Kl.m k1095 (C0_La_0f hld)]; exact h1097) ex1103 hm1090)
        · refine Ok.nmI (fun x1104 ex1104 => ?_)
          unfold J_Main_guestsFreeTo_41
          refine Ok.nmI (fun x1105 ex1105 => ?_)
          exact ih1089 x1104 x1105 M1099 (Kl.trans k1095 k1100) (nn_up (y := (M ld 2)) (by rw [← Kl.m k1095 (C0_La_0f hld)]; exact h1097) ex1105 n1096) (md_up (by rw [← Kl.m k1095 (C0_La_0f hld)]; exact h1097) ex1105 hm1090)
  exact LP1091 _ 0 0 M Kl.rf (by decide) fu_up
set_option maxHeartbeats 4000000 in
set_option maxRecDepth 20000 in
theorem tf_Main_pinch {ld : Nat} {p1 : Int32} {p2 : Int32} {M : gM} (hld : isLa ld) : ∃ r M', F_Main_pinch ld p1 p2 M = some (r, M') ∧ True ∧ Kl C0 M zL M' zL := by
  refine Ok.x2 (A := fun r M' => True ∧ Kl C0 M zL M' zL) ?_
  unfold F_Main_pinch
  refine Ok.c1 (tf_Main_isOne ) (fun r1106 hbr1106 => ?_)
  refine Ok.ite (fun h1107 => ?_) (fun h1107 => ?_)
  · exact ⟨_, rfl, trivial, Kl.rf⟩
  · refine Ok.c1 (tf_Main_isOne ) (fun r1108 hbr1108 => ?_)
    refine Ok.ite (fun h1109 => ?_) (fun h1109 => ?_)
    · exact ⟨_, rfl, trivial, Kl.rf⟩
    · have LP1113 : ∀ (f1110 : Nat) (v1114 : Int32) (v1115 : Int32) (v1116 : Int32) (M1117 : gM), Kl C0 M zL M1117 zL → ¬ v1116 < 0 → ((M ld 0).toInt - v1116.toInt).toNat < f1110 → Ok (H_Main_pinch_32 ld p1 p2 f1110 v1114 v1115 v1116 M1117) (fun q => True ∧ Kl C0 M zL q.2 zL) := by
        intro f1110
        induction f1110 with
        | zero => intro v1114 v1115 v1116 M1117 _ _ hm1112; exact absurd hm1112 (Nat.not_lt_zero _)
        | succ f1110 ih1111 =>
          intro v1114 v1115 v1116 M1117 k1118 n1119 hm1112
          show Ok (B_Main_pinch_32 ld p1 p2 (H_Main_pinch_32 ld p1 p2 f1110) v1114 v1115 v1116 M1117) _
          unfold B_Main_pinch_32
          refine Ok.ite (fun h1120 => ?_) (fun h1120 => ?_)
          · unfold J_Main_pinch_72
            refine Ok.ite (fun h1121 => ?_) (fun h1121 => ?_)
            · exact ⟨_, rfl, trivial, k1118⟩
            · exact ⟨_, rfl, trivial, k1118⟩
          · refine Ok.c2 (tf_Main_changeBy hld) (fun r1122 M1123 ⟨_, k1124⟩ => ?_)
            refine Ok.ite (fun h1125 => ?_) (fun h1125 => ?_)
            · unfold J_Main_pinch_66
              refine Ok.nmI (fun x1126 ex1126 => ?_)
              exact ih1111 v1114 v1115 x1126 M1123 (Kl.trans k1118 k1124) (nn_up (y := (M ld 0)) (by rw [← Kl.m k1118 (C0_La_0f hld)]; exact h1120) ex1126 n1119) (md_up (by rw [← Kl.m k1118 (C0_La_0f hld)]; exact h1120) ex1126 hm1112)
            · unfold J_Main_pinch_66
              refine Ok.nmI (fun x1127 ex1127 => ?_)
              exact ih1111 r1122 v1116 x1127 M1123 (Kl.trans k1118 k1124) (nn_up (y := (M ld 0)) (by rw [← Kl.m k1118 (C0_La_0f hld)]; exact h1120) ex1127 n1119) (md_up (by rw [← Kl.m k1118 (C0_La_0f hld)]; exact h1120) ex1127 hm1112)
      exact LP1113 _ (-1) (-1) 0 M Kl.rf (by decide) fu_up
set_option maxHeartbeats 4000000 in
set_option maxRecDepth 20000 in
theorem tf_Main_year {ld : Nat} {p1 : Int32} {p2 : Int32} {p3 : Int32} {p4 : Int32} {M : gM} (hld : isLa ld) : ∃ r M', F_Main_year ld p1 p2 p3 p4 M = some (r, M') ∧ True ∧ Kl C0 M zL M' zL := by
  refine Ok.x2 (A := fun r M' => True ∧ Kl C0 M zL M' zL) ?_
  unfold F_Main_year
  refine Ok.c1 (tf_Main_isOne ) (fun r1128 hbr1128 => ?_)
  refine Ok.ite (fun h1129 => ?_) (fun h1129 => ?_)
  · exact ⟨_, rfl, trivial, Kl.rf⟩
  · refine Ok.c1 (tf_Main_isOne ) (fun r1130 hbr1130 => ?_)
    refine Ok.ite (fun h1131 => ?_) (fun h1131 => ?_)
    · exact ⟨_, rfl, trivial, Kl.rf⟩
    · refine Ok.c1 (tf_Main_isOne ) (fun r1132 hbr1132 => ?_)
      refine Ok.ite (fun h1133 => ?_) (fun h1133 => ?_)
      · exact ⟨_, rfl, trivial, Kl.rf⟩
      · refine Ok.ite (fun h1134 => ?_) (fun h1134 => ?_)
        · exact ⟨_, rfl, trivial, Kl.rf⟩
        · refine Ok.ite (fun h1135 => ?_) (fun h1135 => ?_)
          · refine Ok.c1 (tf_State_inStore isSt_64 hld) (fun r1136 hbr1136 => ?_)
            refine Ok.ite (fun h1137 => ?_) (fun h1137 => ?_)
            · exact ⟨_, rfl, trivial, Kl.rf⟩
            · have LP1141 : ∀ (f1138 : Nat) (v1142 : Int32) (v1143 : Int32) (M1144 : gM), Kl C0 M zL M1144 zL → ¬ v1143 < 0 → (p4.toInt - v1143.toInt).toNat < f1138 → Ok (H_Main_year_70 ld p1 p2 p3 p4 f1138 v1142 v1143 M1144) (fun q => True ∧ Kl C0 M zL q.2 zL) := by
                intro f1138
                induction f1138 with
                | zero => intro v1142 v1143 M1144 _ _ hm1140; exact absurd hm1140 (Nat.not_lt_zero _)
                | succ f1138 ih1139 =>
                  intro v1142 v1143 M1144 k1145 n1146 hm1140
                  show Ok (B_Main_year_70 ld p1 p2 p3 p4 (H_Main_year_70 ld p1 p2 p3 p4 f1138) v1142 v1143 M1144) _
                  unfold B_Main_year_70
                  refine Ok.ite (fun h1147 => ?_) (fun h1147 => ?_)
                  · exact ⟨_, rfl, trivial, k1145⟩
                  · refine Ok.c2 (tf_State_slipInto isSt_64 hld) (fun r1148 M1149 ⟨_, k1150⟩ => ?_)
                    refine Ok.c2 (tf_Land_dishForce hld) (fun r1151 M1152 ⟨_, k1153⟩ => ?_)
                    refine Ok.ite (fun h1154 => ?_) (fun h1154 => ?_)
                    · unfold J_Main_year_126
                      refine Ok.nmI (fun x1155 ex1155 => ?_)
                      exact ih1139 v1142 x1155 M1152 (Kl.trans (Kl.trans k1145 k1150) k1153) (nn_up (y := p4) h1147 ex1155 n1146) (md_up h1147 ex1155 hm1140)
                    · refine Ok.nmI (fun x1156 ex1156 => ?_)
                      unfold J_Main_year_126
                      refine Ok.nmI (fun x1157 ex1157 => ?_)
                      exact ih1139 x1156 x1157 M1152 (Kl.trans (Kl.trans k1145 k1150) k1153) (nn_up (y := p4) h1147 ex1157 n1146) (md_up h1147 ex1157 hm1140)
              exact LP1141 _ 0 0 M Kl.rf (by decide) fu_up
          · exact ⟨_, rfl, trivial, Kl.rf⟩
set_option maxHeartbeats 4000000 in
set_option maxRecDepth 20000 in
theorem tf_MenuSearch_lookFed {Ld1 : Nat} {p2 : Int32} {p3 : Int32} {p4 : Int32} {p5 : Int32} {M : gM} (hLd1 : isLa Ld1) : ∃ M', F_MenuSearch_lookFed Ld1 p2 p3 p4 p5 M = some M' ∧ Kl C1 M zL M' zL := by
  show Ok _ _
  unfold F_MenuSearch_lookFed
  have LP1161 : ∀ (f1158 : Nat) (v1162 : Int32) (M1163 : gM), Kl C1 M zL M1163 zL → ¬ v1162 < 0 → (p4.toInt - v1162.toInt).toNat < f1158 → Ok (H_MenuSearch_lookFed_3 Ld1 p2 p3 p4 p5 f1158 v1162 M1163) (fun M' => Kl C1 M zL M' zL) := by
    intro f1158
    induction f1158 with
    | zero => intro v1162 M1163 _ _ hm1160; exact absurd hm1160 (Nat.not_lt_zero _)
    | succ f1158 ih1159 =>
      intro v1162 M1163 k1164 n1165 hm1160
      show Ok (B_MenuSearch_lookFed_3 Ld1 p2 p3 p4 p5 (H_MenuSearch_lookFed_3 Ld1 p2 p3 p4 p5 f1158) v1162 M1163) _
      unfold B_MenuSearch_lookFed_3
      refine Ok.ite (fun h1166 => ?_) (fun h1166 => ?_)
      · exact ⟨_, rfl, k1164⟩
      · have LP1170 : ∀ (f1167 : Nat) (v1171 : Int32) (M1172 : gM), Kl C1 M zL M1172 zL → ¬ v1171 < 0 → ((M Ld1 1).toInt - v1171.toInt).toNat < f1167 → Ok (H_MenuSearch_lookFed_13 Ld1 (H_MenuSearch_lookFed_3 Ld1 p2 p3 p4 p5 f1158) p2 p3 p4 p5 v1162 f1167 v1171 M1172) (fun M' => Kl C1 M zL M' zL) := by
          intro f1167
          induction f1167 with
          | zero => intro v1171 M1172 _ _ hm1169; exact absurd hm1169 (Nat.not_lt_zero _)
          | succ f1167 ih1168 =>
            intro v1171 M1172 k1173 n1174 hm1169
            show Ok (B_MenuSearch_lookFed_13 Ld1 (H_MenuSearch_lookFed_3 Ld1 p2 p3 p4 p5 f1158) p2 p3 p4 p5 v1162 (H_MenuSearch_lookFed_13 Ld1 (H_MenuSearch_lookFed_3 Ld1 p2 p3 p4 p5 f1158) p2 p3 p4 p5 v1162 f1167) v1171 M1172) _
            unfold B_MenuSearch_lookFed_13
            refine Ok.ite (fun h1175 => ?_) (fun h1175 => ?_)
            · unfold J_MenuSearch_lookFed_111
              refine Ok.nmI (fun x1176 ex1176 => ?_)
              exact ih1159 x1176 M1172 k1173 (nn_up (y := p4) h1166 ex1176 n1165) (md_up h1166 ex1176 hm1160)
            · have LP1180 : ∀ (f1177 : Nat) (v1181 : Int32) (M1182 : gM), Kl C1 M zL M1182 zL → (p4.toInt - v1181.toInt).toNat < f1177 → Ok (H_MenuSearch_lookFed_26 Ld1 (H_MenuSearch_lookFed_3 Ld1 p2 p3 p4 p5 f1158) (H_MenuSearch_lookFed_13 Ld1 (H_MenuSearch_lookFed_3 Ld1 p2 p3 p4 p5 f1158) p2 p3 p4 p5 v1162 f1167) p2 p3 p4 p5 v1162 v1171 f1177 v1181 M1182) (fun M' => Kl C1 M zL M' zL) := by
                intro f1177
                induction f1177 with
                | zero => intro v1181 M1182 _ hm1179; exact absurd hm1179 (Nat.not_lt_zero _)
                | succ f1177 ih1178 =>
                  intro v1181 M1182 k1183 hm1179
                  show Ok (B_MenuSearch_lookFed_26 Ld1 (H_MenuSearch_lookFed_3 Ld1 p2 p3 p4 p5 f1158) (H_MenuSearch_lookFed_13 Ld1 (H_MenuSearch_lookFed_3 Ld1 p2 p3 p4 p5 f1158) p2 p3 p4 p5 v1162 f1167) p2 p3 p4 p5 v1162 v1171 (H_MenuSearch_lookFed_26 Ld1 (H_MenuSearch_lookFed_3 Ld1 p2 p3 p4 p5 f1158) (H_MenuSearch_lookFed_13 Ld1 (H_MenuSearch_lookFed_3 Ld1 p2 p3 p4 p5 f1158) p2 p3 p4 p5 v1162 f1167) p2 p3 p4 p5 v1162 v1171 f1177) v1181 M1182) _
                  unfold B_MenuSearch_lookFed_26
                  refine Ok.ite (fun h1184 => ?_) (fun h1184 => ?_)
                  · unfold J_MenuSearch_lookFed_105
                    refine Ok.nmI (fun x1185 ex1185 => ?_)
                    exact ih1168 x1185 M1182 k1183 (nn_up (y := (M Ld1 1)) (by rw [← Kl.m k1173 (C1_La_0f hLd1)]; exact h1175) ex1185 n1174) (md_up (by rw [← Kl.m k1173 (C1_La_0f hLd1)]; exact h1175) ex1185 hm1169)
                  · refine Ok.c2 (tf_Land_freeByDish hLd1) (fun r1186 M1187 ⟨_, k1188⟩ => ?_)
                    refine Ok.c1 (tf_MenuSearch_indexOf ) (fun r1189 _ => ?_)
                    refine Ok.ite (fun h1190 => ?_) (fun h1190 => ?_)
                    · unfold J_MenuSearch_lookFed_99
                      refine Ok.nmI (fun x1191 ex1191 => ?_)
                      exact ih1178 x1191 M1187 (Kl.trans k1183 (Kl.mono k1188 C0_C1)) (md_up h1184 ex1191 hm1179)
                    · refine Ok.ite (fun h1192 => ?_) (fun h1192 => ?_)
                      · unfold J_MenuSearch_lookFed_99
                        refine Ok.nmI (fun x1193 ex1193 => ?_)
                        exact ih1178 x1193 M1187 (Kl.trans k1183 (Kl.mono k1188 C0_C1)) (md_up h1184 ex1193 hm1179)
                      · refine Ok.ite (fun h1194 => ?_) (fun h1194 => ?_)
                        · unfold J_MenuSearch_lookFed_98
                          refine Ok.gd (vin_of h1190 h1192 (by decide)) ?_
                          refine Ok.nmM (fun M1195 eM1195 => ?_)
                          unfold J_MenuSearch_lookFed_99
                          refine Ok.nmI (fun x1196 ex1196 => ?_)
                          exact ih1178 x1196 M1195 (Kl.wM (Kl.trans k1183 (Kl.mono k1188 C0_C1)) rfl eM1195) (md_up h1184 ex1196 hm1179)
                        · unfold J_MenuSearch_lookFed_98
                          refine Ok.gd (vin_of h1190 h1192 (by decide)) ?_
                          refine Ok.nmM (fun M1197 eM1197 => ?_)
                          unfold J_MenuSearch_lookFed_99
                          refine Ok.nmI (fun x1198 ex1198 => ?_)
                          exact ih1178 x1198 M1197 (Kl.wM (Kl.trans k1183 (Kl.mono k1188 C0_C1)) rfl eM1197) (md_up h1184 ex1198 hm1179)
              exact LP1180 _ v1162 M1172 k1173 fu_up
        exact LP1170 _ 0 M1163 k1164 (by decide) fu_up
  exact LP1161 _ 0 M Kl.rf (by decide) fu_up
set_option maxHeartbeats 4000000 in
set_option maxRecDepth 20000 in
theorem tf_MenuSearch_lookUnfed {Ld1 : Nat} {X2 : Nat} {p3 : Int32} {p4 : Int32} {M : gM} (hLd1 : isLa Ld1) (hX2 : isSt X2) : ∃ M', F_MenuSearch_lookUnfed Ld1 X2 p3 p4 M = some M' ∧ Kl C1 M zL M' zL := by
  show Ok _ _
  unfold F_MenuSearch_lookUnfed
  have LP1202 : ∀ (f1199 : Nat) (v1203 : Int32) (M1204 : gM), Kl C1 M zL M1204 zL → ¬ v1203 < 0 → ((4 : Int32).toInt - v1203.toInt).toNat < f1199 → Ok (H_MenuSearch_lookUnfed_3 Ld1 X2 p3 p4 f1199 v1203 M1204) (fun M' => Kl C1 M zL M' zL) := by
    intro f1199
    induction f1199 with
    | zero => intro v1203 M1204 _ _ hm1201; exact absurd hm1201 (Nat.not_lt_zero _)
    | succ f1199 ih1200 =>
      intro v1203 M1204 k1205 n1206 hm1201
      show Ok (B_MenuSearch_lookUnfed_3 Ld1 X2 p3 p4 (H_MenuSearch_lookUnfed_3 Ld1 X2 p3 p4 f1199) v1203 M1204) _
      unfold B_MenuSearch_lookUnfed_3
      refine Ok.ite (fun h1207 => ?_) (fun h1207 => ?_)
      · exact ⟨_, rfl, k1205⟩
      · refine Ok.c2 (tf_State_freeOf hX2 hLd1) (fun r1208 M1209 ⟨_, k1210⟩ => ?_)
        refine Ok.ite (fun h1211 => ?_) (fun h1211 => ?_)
        · unfold J_MenuSearch_lookUnfed_40
          refine Ok.gd (vin_of n1206 h1207 (by decide)) ?_
          refine Ok.nmM (fun M1212 eM1212 => ?_)
          refine Ok.nmI (fun x1213 ex1213 => ?_)
          exact ih1200 x1213 M1212 (Kl.wM (Kl.trans k1205 (Kl.mono k1210 C0_C1)) rfl eM1212) (nn_up (y := (4 : Int32)) h1207 ex1213 n1206) (md_up h1207 ex1213 hm1201)
        · unfold J_MenuSearch_lookUnfed_40
          refine Ok.gd (vin_of n1206 h1207 (by decide)) ?_
          refine Ok.nmM (fun M1214 eM1214 => ?_)
          refine Ok.nmI (fun x1215 ex1215 => ?_)
          exact ih1200 x1215 M1214 (Kl.wM (Kl.trans k1205 (Kl.mono k1210 C0_C1)) rfl eM1214) (nn_up (y := (4 : Int32)) h1207 ex1215 n1206) (md_up h1207 ex1215 hm1201)
  exact LP1202 _ 0 M Kl.rf (by decide) fu_up
set_option maxHeartbeats 4000000 in
set_option maxRecDepth 20000 in
theorem tf_PotSearch_find {Ld1 : Nat} {X2 : Nat} {p3 : Int32} {p4 : Int32} {p5 : Int32} {M : gM} (hLd1 : isLa Ld1) (hX2 : isSt X2) : ∃ r M', F_PotSearch_find Ld1 X2 p3 p4 p5 M = some (r, M') ∧ (r = 0 ∨ r = 1) ∧ Kl C1 M zL M' zL := by
  refine Ok.x2 (A := fun r M' => (r = 0 ∨ r = 1) ∧ Kl C1 M zL M' zL) ?_
  unfold F_PotSearch_find
  refine Ok.c1 (tf_Main_put (by decide)) (fun M1216 k1217 => ?_)
  refine Ok.c1 (tf_Main_put (by decide)) (fun M1218 k1219 => ?_)
  refine Ok.c1 (tf_Main_put (by decide)) (fun M1220 k1221 => ?_)
  refine Ok.nmM (fun M1222 eM1222 => ?_)
  refine Ok.c1 (tf_Law_looksAt (isLw_9 hLd1)) (fun r1223 hbr1223 => ?_)
  refine Ok.ite (fun h1224 => ?_) (fun h1224 => ?_)
  · unfold J_PotSearch_find_52
    refine Ok.nmM (fun M1225 eM1225 => ?_)
    refine Ok.c1 (tf_PotSearch_fillFrom hX2) (fun M1226 k1227 => ?_)
    have LP1231 : ∀ (f1228 : Nat) (v1232 : Int32) (M1233 : gM), Kl C1 M zL M1233 zL → ¬ v1232 < 0 → ((924 : Int32).toInt - v1232.toInt).toNat < f1228 → Ok (H_PotSearch_find_66 Ld1 X2 f1228 v1232 M1233) (fun q => (q.1 = 0 ∨ q.1 = 1) ∧ Kl C1 M zL q.2 zL) := by
      intro f1228
      induction f1228 with
      | zero => intro v1232 M1233 _ _ hm1230; exact absurd hm1230 (Nat.not_lt_zero _)
      | succ f1228 ih1229 =>
        intro v1232 M1233 k1234 n1235 hm1230
        show Ok (B_PotSearch_find_66 Ld1 X2 (H_PotSearch_find_66 Ld1 X2 f1228) v1232 M1233) _
        unfold B_PotSearch_find_66
        refine Ok.ite (fun h1236 => ?_) (fun h1236 => ?_)
        · refine Ok.gp (b01_01 _) ?_
          exact ⟨_, rfl, (b01_01 _), k1234⟩
        · refine Ok.c1 (tf_PotSearch_weigh hLd1) (fun M1237 k1238 => ?_)
          refine Ok.ite (fun h1239 => ?_) (fun h1239 => ?_)
          · unfold J_PotSearch_find_86
            refine Ok.gp (b01_01 _) ?_
            exact ⟨_, rfl, (b01_01 _), (Kl.trans k1234 k1238)⟩
          · refine Ok.c1 (tf_PotSearch_tryHeats hLd1) (fun M1240 k1241 => ?_)
            refine Ok.c1 (tf_PotSearch_stepDown hX2) (fun M1242 k1243 => ?_)
            refine Ok.nmI (fun x1244 ex1244 => ?_)
            exact ih1229 x1244 M1242 (Kl.trans (Kl.trans (Kl.trans k1234 k1238) k1241) k1243) (nn_up (y := (924 : Int32)) h1236 ex1244 n1235) (md_up h1236 ex1244 hm1230)
    exact LP1231 _ 0 M1226 (Kl.trans (Kl.wM (Kl.wM (Kl.trans (Kl.trans (Kl.trans Kl.rf (Kl.mono k1217 (oneL_S (fun _ => rfl)))) (Kl.mono k1219 (oneL_S (fun _ => rfl)))) (Kl.mono k1221 (oneL_S (fun _ => rfl)))) rfl eM1222) rfl eM1225) k1227) (by decide) fu_up
  · unfold J_PotSearch_find_52
    refine Ok.nmM (fun M1245 eM1245 => ?_)
    refine Ok.c1 (tf_PotSearch_fillFrom hX2) (fun M1246 k1247 => ?_)
    have LP1251 : ∀ (f1248 : Nat) (v1252 : Int32) (M1253 : gM), Kl C1 M zL M1253 zL → ¬ v1252 < 0 → ((924 : Int32).toInt - v1252.toInt).toNat < f1248 → Ok (H_PotSearch_find_66 Ld1 X2 f1248 v1252 M1253) (fun q => (q.1 = 0 ∨ q.1 = 1) ∧ Kl C1 M zL q.2 zL) := by
      intro f1248
      induction f1248 with
      | zero => intro v1252 M1253 _ _ hm1250; exact absurd hm1250 (Nat.not_lt_zero _)
      | succ f1248 ih1249 =>
        intro v1252 M1253 k1254 n1255 hm1250
        show Ok (B_PotSearch_find_66 Ld1 X2 (H_PotSearch_find_66 Ld1 X2 f1248) v1252 M1253) _
        unfold B_PotSearch_find_66
        refine Ok.ite (fun h1256 => ?_) (fun h1256 => ?_)
        · refine Ok.gp (b01_01 _) ?_
          exact ⟨_, rfl, (b01_01 _), k1254⟩
        · refine Ok.c1 (tf_PotSearch_weigh hLd1) (fun M1257 k1258 => ?_)
          refine Ok.ite (fun h1259 => ?_) (fun h1259 => ?_)
          · unfold J_PotSearch_find_86
            refine Ok.gp (b01_01 _) ?_
            exact ⟨_, rfl, (b01_01 _), (Kl.trans k1254 k1258)⟩
          · refine Ok.c1 (tf_PotSearch_tryHeats hLd1) (fun M1260 k1261 => ?_)
            refine Ok.c1 (tf_PotSearch_stepDown hX2) (fun M1262 k1263 => ?_)
            refine Ok.nmI (fun x1264 ex1264 => ?_)
            exact ih1249 x1264 M1262 (Kl.trans (Kl.trans (Kl.trans k1254 k1258) k1261) k1263) (nn_up (y := (924 : Int32)) h1256 ex1264 n1255) (md_up h1256 ex1264 hm1250)
    exact LP1251 _ 0 M1246 (Kl.trans (Kl.wM (Kl.wM (Kl.trans (Kl.trans (Kl.trans Kl.rf (Kl.mono k1217 (oneL_S (fun _ => rfl)))) (Kl.mono k1219 (oneL_S (fun _ => rfl)))) (Kl.mono k1221 (oneL_S (fun _ => rfl)))) rfl eM1222) rfl eM1245) k1247) (by decide) fu_up
set_option maxHeartbeats 4000000 in
set_option maxRecDepth 20000 in
theorem tf_State_cookOne {X0 : Nat} {Ld1 : Nat} {p2 : Int32} {M : gM} (hX0 : isSt X0) (hLd1 : isLa Ld1) : ∃ r M', F_State_cookOne X0 Ld1 p2 M = some (r, M') ∧ True ∧ Kl (CX X0) M zL M' zL := by
  refine Ok.x2 (A := fun r M' => True ∧ Kl (CX X0) M zL M' zL) ?_
  unfold F_State_cookOne
  refine Ok.c2 (tf_State_slipInto hX0 hLd1) (fun r1265 M1266 ⟨_, k1267⟩ => ?_)
  have LP1271 : ∀ (f1268 : Nat) (v1272 : Int32) (M1273 : gM), Kl (CX X0) M zL M1273 zL → ¬ v1272 < 0 → ((M Ld1 0).toInt - v1272.toInt).toNat < f1268 → Ok (H_State_cookOne_14 X0 Ld1 p2 r1265 f1268 v1272 M1273) (fun q => True ∧ Kl (CX X0) M zL q.2 zL) := by
    intro f1268
    induction f1268 with
    | zero => intro v1272 M1273 _ _ hm1270; exact absurd hm1270 (Nat.not_lt_zero _)
    | succ f1268 ih1269 =>
      intro v1272 M1273 k1274 n1275 hm1270
      show Ok (B_State_cookOne_14 X0 Ld1 p2 r1265 (H_State_cookOne_14 X0 Ld1 p2 r1265 f1268) v1272 M1273) _
      unfold B_State_cookOne_14
      refine Ok.ite (fun h1276 => ?_) (fun h1276 => ?_)
      · unfold J_State_cookOne_71
        have LP1280 : ∀ (f1277 : Nat) (v1281 : Int32) (M1282 : gM), Kl (CX X0) M zL M1282 zL → ¬ v1281 < 0 → ((3 : Int32).toInt - v1281.toInt).toNat < f1277 → Ok (H_State_cookOne_74 X0 Ld1 p2 r1265 f1277 v1281 M1282) (fun q => True ∧ Kl (CX X0) M zL q.2 zL) := by
          intro f1277
          induction f1277 with
          | zero => intro v1281 M1282 _ _ hm1279; exact absurd hm1279 (Nat.not_lt_zero _)
          | succ f1277 ih1278 =>
            intro v1281 M1282 k1283 n1284 hm1279
            show Ok (B_State_cookOne_74 X0 Ld1 p2 r1265 (H_State_cookOne_74 X0 Ld1 p2 r1265 f1277) v1281 M1282) _
            unfold B_State_cookOne_74
            refine Ok.ite (fun h1285 => ?_) (fun h1285 => ?_)
            · unfold J_State_cookOne_107
              refine Ok.c1 (tf_Land_priceOf hLd1) (fun r1286 _ => ?_)
              refine Ok.nmM (fun M1287 eM1287 => ?_)
              refine Ok.nmM (fun M1288 eM1288 => ?_)
              refine Ok.nmM (fun M1289 eM1289 => ?_)
              refine Ok.c1 (tf_Main_at (by decide)) (fun r1290 _ => ?_)
              refine Ok.c1 (tf_Main_put (by decide)) (fun M1291 k1292 => ?_)
              exact ⟨_, rfl, trivial, (Kl.trans (Kl.wM (Kl.wM (Kl.wM k1283 (CX_o ⟨by omega, by omega⟩) eM1287) (CX_o ⟨by omega, by omega⟩) eM1288) (CX_o ⟨by omega, by omega⟩) eM1289) (Kl.mono k1292 (oneL_S (fun _ => CX_o ⟨by omega, by omega⟩))))⟩
            · refine Ok.c2 (tf_Land_dishForce hLd1) (fun r1293 M1294 ⟨_, k1295⟩ => ?_)
              refine Ok.c1 (tf_Main_put (by decide)) (fun M1296 k1297 => ?_)
              refine Ok.nmI (fun x1298 ex1298 => ?_)
              exact ih1278 x1298 M1296 (Kl.trans (Kl.trans k1283 (Kl.mono k1295 C0_CX)) (Kl.mono k1297 (oneL_S (fun _ => CX_o ⟨by omega, by omega⟩)))) (nn_up (y := (3 : Int32)) h1285 ex1298 n1284) (md_up h1285 ex1298 hm1279)
        exact LP1280 _ 0 M1273 k1274 (by decide) fu_up
      · refine Ok.c1 (tf_Land_inDish hLd1) (fun r1299 _ => ?_)
        refine Ok.ite (fun h1300 => ?_) (fun h1300 => ?_)
        · unfold J_State_cookOne_41
          refine Ok.nmI (fun x1301 ex1301 => ?_)
          refine Ok.c1 (tf_Main_at (by decide)) (fun r1302 _ => ?_)
          refine Ok.c1 (tf_Main_put (by decide)) (fun M1303 k1304 => ?_)
          refine Ok.nmI (fun x1305 ex1305 => ?_)
          exact ih1269 x1305 M1303 (Kl.trans k1274 (Kl.mono k1304 (oneL_S (fun _ => CX_o ⟨by omega, by omega⟩)))) (nn_up (y := (M Ld1 0)) (by rw [← Kl.m k1274 (CX_Laf hX0 hLd1)]; exact h1276) ex1305 n1275) (md_up (by rw [← Kl.m k1274 (CX_Laf hX0 hLd1)]; exact h1276) ex1305 hm1270)
        · unfold J_State_cookOne_41
          refine Ok.nmI (fun x1306 ex1306 => ?_)
          refine Ok.c1 (tf_Main_at (by decide)) (fun r1307 _ => ?_)
          refine Ok.c1 (tf_Main_put (by decide)) (fun M1308 k1309 => ?_)
          refine Ok.nmI (fun x1310 ex1310 => ?_)
          exact ih1269 x1310 M1308 (Kl.trans k1274 (Kl.mono k1309 (oneL_S (fun _ => CX_o ⟨by omega, by omega⟩)))) (nn_up (y := (M Ld1 0)) (by rw [← Kl.m k1274 (CX_Laf hX0 hLd1)]; exact h1276) ex1310 n1275) (md_up (by rw [← Kl.m k1274 (CX_Laf hX0 hLd1)]; exact h1276) ex1310 hm1270)
  exact LP1271 _ 0 M1266 (Kl.trans Kl.rf (Kl.mono k1267 C0_CX)) (by decide) fu_up
set_option maxHeartbeats 4000000 in
set_option maxRecDepth 20000 in
theorem tf_Told_gather {Ld1 : Nat} {p2 : Int32} {p3 : Int32} {M : gM} (hLd1 : isLa Ld1) : ∃ M', F_Told_gather Ld1 p2 p3 M = some M' ∧ Kl C1 M zL M' zL := by
  show Ok _ _
  unfold F_Told_gather
  refine Ok.nmM (fun M1311 eM1311 => ?_)
  have LP1315 : ∀ (f1312 : Nat) (v1316 : Int32) (M1317 : gM), Kl C1 M zL M1317 zL → ¬ v1316 < 0 → ((M Ld1 1).toInt - v1316.toInt).toNat < f1312 → Ok (H_Told_gather_8 Ld1 p2 p3 f1312 v1316 M1317) (fun M' => Kl C1 M zL M' zL) := by
    intro f1312
    induction f1312 with
    | zero => intro v1316 M1317 _ _ hm1314; exact absurd hm1314 (Nat.not_lt_zero _)
    | succ f1312 ih1313 =>
      intro v1316 M1317 k1318 n1319 hm1314
      show Ok (B_Told_gather_8 Ld1 p2 p3 (H_Told_gather_8 Ld1 p2 p3 f1312) v1316 M1317) _
      unfold B_Told_gather_8
      refine Ok.ite (fun h1320 => ?_) (fun h1320 => ?_)
      · exact ⟨_, rfl, k1318⟩
      · have LP1324 : ∀ (f1321 : Nat) (v1325 : Int32) (M1326 : gM), Kl C1 M zL M1326 zL → ¬ v1325 < 0 → ((13 : Int32).toInt - v1325.toInt).toNat < f1321 → Ok (H_Told_gather_20 Ld1 (H_Told_gather_8 Ld1 p2 p3 f1312) p2 p3 v1316 f1321 v1325 M1326) (fun M' => Kl C1 M zL M' zL) := by
          intro f1321
          induction f1321 with
          | zero => intro v1325 M1326 _ _ hm1323; exact absurd hm1323 (Nat.not_lt_zero _)
          | succ f1321 ih1322 =>
            intro v1325 M1326 k1327 n1328 hm1323
            show Ok (B_Told_gather_20 Ld1 (H_Told_gather_8 Ld1 p2 p3 f1312) p2 p3 v1316 (H_Told_gather_20 Ld1 (H_Told_gather_8 Ld1 p2 p3 f1312) p2 p3 v1316 f1321) v1325 M1326) _
            unfold B_Told_gather_20
            refine Ok.ite (fun h1329 => ?_) (fun h1329 => ?_)
            · unfold J_Told_gather_65
              refine Ok.nmI (fun x1330 ex1330 => ?_)
              exact ih1313 x1330 M1326 k1327 (nn_up (y := (M Ld1 1)) (by rw [← Kl.m k1318 (C1_La_0f hLd1)]; exact h1320) ex1330 n1319) (md_up (by rw [← Kl.m k1318 (C1_La_0f hLd1)]; exact h1320) ex1330 hm1314)
            · refine Ok.c2 (tf_Told_lay hLd1) (fun r1331 M1332 ⟨hbr1331, k1333⟩ => ?_)
              refine Ok.ite (fun h1334 => ?_) (fun h1334 => ?_)
              · unfold J_Told_gather_59
                refine Ok.nmI (fun x1335 ex1335 => ?_)
                exact ih1322 x1335 M1332 (Kl.trans k1327 k1333) (nn_up (y := (13 : Int32)) h1329 ex1335 n1328) (md_up h1329 ex1335 hm1323)
              · refine Ok.c2 (tf_Told_isAsKnown hLd1) (fun r1336 M1337 ⟨hbr1336, k1338⟩ => ?_)
                refine Ok.ite (fun h1339 => ?_) (fun h1339 => ?_)
                · unfold J_Told_gather_59
                  refine Ok.nmI (fun x1340 ex1340 => ?_)
                  exact ih1322 x1340 M1337 (Kl.trans (Kl.trans k1327 k1333) (Kl.mono k1338 C0_C1)) (nn_up (y := (13 : Int32)) h1329 ex1340 n1328) (md_up h1329 ex1340 hm1323)
                · refine Ok.nmM (fun M1341 eM1341 => ?_)
                  unfold J_Told_gather_59
                  refine Ok.nmI (fun x1342 ex1342 => ?_)
                  exact ih1322 x1342 M1341 (Kl.wM (Kl.trans (Kl.trans k1327 k1333) (Kl.mono k1338 C0_C1)) rfl eM1341) (nn_up (y := (13 : Int32)) h1329 ex1342 n1328) (md_up h1329 ex1342 hm1323)
        exact LP1324 _ 0 M1317 k1318 (by decide) fu_up
  exact LP1315 _ 0 M1311 (Kl.wM Kl.rf rfl eM1311) (by decide) fu_up
set_option maxHeartbeats 4000000 in
set_option maxRecDepth 20000 in
theorem tf_Told_nextTaste {Ld1 : Nat} {p2 : Int32} {M : gM} (hLd1 : isLa Ld1) : ∃ r M', F_Told_nextTaste Ld1 p2 M = some (r, M') ∧ True ∧ Kl C0 M zL M' zL := by
  refine Ok.x2 (A := fun r M' => True ∧ Kl C0 M zL M' zL) ?_
  unfold F_Told_nextTaste
  refine Ok.nmI (fun x1343 ex1343 => ?_)
  have LP1347 : ∀ (f1344 : Nat) (v1348 : Int32) (v1349 : Int32) (v1350 : Int32) (M1351 : gM), Kl C0 M zL M1351 zL → ¬ v1350 < 0 → ((3 : Int32).toInt - v1350.toInt).toNat < f1344 → Ok (H_Told_nextTaste_14 Ld1 p2 f1344 v1348 v1349 v1350 M1351) (fun q => True ∧ Kl C0 M zL q.2 zL) := by
    intro f1344
    induction f1344 with
    | zero => intro v1348 v1349 v1350 M1351 _ _ hm1346; exact absurd hm1346 (Nat.not_lt_zero _)
    | succ f1344 ih1345 =>
      intro v1348 v1349 v1350 M1351 k1352 n1353 hm1346
      show Ok (B_Told_nextTaste_14 Ld1 p2 (H_Told_nextTaste_14 Ld1 p2 f1344) v1348 v1349 v1350 M1351) _
      unfold B_Told_nextTaste_14
      refine Ok.ite (fun h1354 => ?_) (fun h1354 => ?_)
      · exact ⟨_, rfl, trivial, k1352⟩
      · refine Ok.ite (fun h1355 => ?_) (fun h1355 => ?_)
        · exact ⟨_, rfl, trivial, k1352⟩
        · have LP1359 : ∀ (f1356 : Nat) (v1360 : Int32) (v1361 : Int32) (v1362 : Int32) (M1363 : gM), Kl C0 M zL M1363 zL → ¬ v1362 < 0 → ((10 : Int32).toInt - v1362.toInt).toNat < f1356 → Ok (H_Told_nextTaste_30 Ld1 (H_Told_nextTaste_14 Ld1 p2 f1344) p2 v1350 f1356 v1360 v1361 v1362 M1363) (fun q => True ∧ Kl C0 M zL q.2 zL) := by
            intro f1356
            induction f1356 with
            | zero => intro v1360 v1361 v1362 M1363 _ _ hm1358; exact absurd hm1358 (Nat.not_lt_zero _)
            | succ f1356 ih1357 =>
              intro v1360 v1361 v1362 M1363 k1364 n1365 hm1358
              show Ok (B_Told_nextTaste_30 Ld1 (H_Told_nextTaste_14 Ld1 p2 f1344) p2 v1350 (H_Told_nextTaste_30 Ld1 (H_Told_nextTaste_14 Ld1 p2 f1344) p2 v1350 f1356) v1360 v1361 v1362 M1363) _
              unfold B_Told_nextTaste_30
              refine Ok.ite (fun h1366 => ?_) (fun h1366 => ?_)
              · unfold J_Told_nextTaste_74
                refine Ok.nmI (fun x1367 ex1367 => ?_)
                exact ih1345 v1360 v1361 x1367 M1363 k1364 (nn_up (y := (3 : Int32)) h1355 ex1367 n1353) (md_up h1355 ex1367 hm1346)
              · refine Ok.c2 (tf_Told_mostAlike hLd1) (fun r1368 M1369 ⟨_, k1370⟩ => ?_)
                refine Ok.ite (fun h1371 => ?_) (fun h1371 => ?_)
                · unfold J_Told_nextTaste_68
                  refine Ok.nmI (fun x1372 ex1372 => ?_)
                  exact ih1357 v1360 v1361 x1372 M1369 (Kl.trans k1364 k1370) (nn_up (y := (10 : Int32)) h1366 ex1372 n1365) (md_up h1366 ex1372 hm1358)
                · refine Ok.nmI (fun x1373 ex1373 => ?_)
                  unfold J_Told_nextTaste_68
                  refine Ok.nmI (fun x1374 ex1374 => ?_)
                  exact ih1357 r1368 x1373 x1374 M1369 (Kl.trans k1364 k1370) (nn_up (y := (10 : Int32)) h1366 ex1374 n1365) (md_up h1366 ex1374 hm1358)
          exact LP1359 _ v1348 v1349 0 M1351 k1352 (by decide) fu_up
  exact LP1347 _ x1343 (-2) 0 M Kl.rf (by decide) fu_up
set_option maxHeartbeats 4000000 in
set_option maxRecDepth 20000 in
theorem tf_Main_blame {ld : Nat} {p1 : Int32} {M : gM} (hld : isLa ld) : ∃ r M', F_Main_blame ld p1 M = some (r, M') ∧ True ∧ Kl C1 M zL M' zL := by
  refine Ok.x2 (A := fun r M' => True ∧ Kl C1 M zL M' zL) ?_
  unfold F_Main_blame
  refine Ok.c1 (tf_Main_isOne ) (fun r1375 hbr1375 => ?_)
  refine Ok.ite (fun h1376 => ?_) (fun h1376 => ?_)
  · exact ⟨_, rfl, trivial, Kl.rf⟩
  · refine Ok.c1 (tf_Told_gather hld) (fun M1377 k1378 => ?_)
    exact ⟨_, rfl, trivial, (Kl.trans Kl.rf k1378)⟩
set_option maxHeartbeats 4000000 in
set_option maxRecDepth 20000 in
theorem tf_Main_deed {ld : Nat} {p1 : Int32} {p2 : Int32} {M : gM} (hld : isLa ld) : ∃ r M', F_Main_deed ld p1 p2 M = some (r, M') ∧ True ∧ Kl C0 M zL M' zL := by
  refine Ok.x2 (A := fun r M' => True ∧ Kl C0 M zL M' zL) ?_
  unfold F_Main_deed
  refine Ok.c1 (tf_Main_isOne ) (fun r1379 hbr1379 => ?_)
  refine Ok.ite (fun h1380 => ?_) (fun h1380 => ?_)
  · exact ⟨_, rfl, trivial, Kl.rf⟩
  · refine Ok.ite (fun h1381 => ?_) (fun h1381 => ?_)
    · refine Ok.c1 (tf_Main_at (by decide)) (fun r1382 _ => ?_)
      exact ⟨_, rfl, trivial, Kl.rf⟩
    refine Ok.ite (fun h1383 => ?_) (fun h1383 => ?_)
    · refine Ok.c1 (tf_Main_at (by decide)) (fun r1384 _ => ?_)
      exact ⟨_, rfl, trivial, Kl.rf⟩
    refine Ok.ite (fun h1385 => ?_) (fun h1385 => ?_)
    · refine Ok.c2 (tf_Main_guestsFreeTo hld) (fun r1386 M1387 ⟨_, k1388⟩ => ?_)
      exact ⟨_, rfl, trivial, (Kl.trans Kl.rf k1388)⟩
    exact ⟨_, rfl, trivial, Kl.rf⟩
set_option maxHeartbeats 4000000 in
set_option maxRecDepth 20000 in
theorem tf_Main_feud {ld : Nat} {p1 : Int32} {p2 : Int32} {p3 : Int32} {M : gM} (hld : isLa ld) : ∃ r M', F_Main_feud ld p1 p2 p3 M = some (r, M') ∧ True ∧ Kl C0 M zL M' zL := by
  refine Ok.x2 (A := fun r M' => True ∧ Kl C0 M zL M' zL) ?_
  unfold F_Main_feud
  refine Ok.c1 (tf_Main_isOne ) (fun r1389 hbr1389 => ?_)
  refine Ok.ite (fun h1390 => ?_) (fun h1390 => ?_)
  · exact ⟨_, rfl, trivial, Kl.rf⟩
  · refine Ok.c1 (tf_Main_isOne ) (fun r1391 hbr1391 => ?_)
    refine Ok.ite (fun h1392 => ?_) (fun h1392 => ?_)
    · exact ⟨_, rfl, trivial, Kl.rf⟩
    · refine Ok.c1 (tf_Main_isOne ) (fun r1393 hbr1393 => ?_)
      refine Ok.ite (fun h1394 => ?_) (fun h1394 => ?_)
      · exact ⟨_, rfl, trivial, Kl.rf⟩
      · refine Ok.ite (fun h1395 => ?_) (fun h1395 => ?_)
        · exact ⟨_, rfl, trivial, Kl.rf⟩
        · have LP1399 : ∀ (f1396 : Nat) (v1400 : Int32) (v1401 : Int32) (M1402 : gM), Kl C0 M zL M1402 zL → ¬ v1401 < 0 → ((M ld 1).toInt - v1401.toInt).toNat < f1396 → Ok (H_Main_feud_55 ld p1 p2 p3 f1396 v1400 v1401 M1402) (fun q => True ∧ Kl C0 M zL q.2 zL) := by
            intro f1396
            induction f1396 with
            | zero => intro v1400 v1401 M1402 _ _ hm1398; exact absurd hm1398 (Nat.not_lt_zero _)
            | succ f1396 ih1397 =>
              intro v1400 v1401 M1402 k1403 n1404 hm1398
              show Ok (B_Main_feud_55 ld p1 p2 p3 (H_Main_feud_55 ld p1 p2 p3 f1396) v1400 v1401 M1402) _
              unfold B_Main_feud_55
              refine Ok.ite (fun h1405 => ?_) (fun h1405 => ?_)
              · exact ⟨_, rfl, trivial, k1403⟩
              · refine Ok.c2 (tf_Main_freeBehind hld) (fun r1406 M1407 ⟨_, k1408⟩ => ?_)
                refine Ok.c1 (tf_Main_hasBit ) (fun r1409 hbr1409 => ?_)
                refine Ok.c1 (tf_Main_hasBit ) (fun r1410 hbr1410 => ?_)
                refine Ok.ite (fun h1411 => ?_) (fun h1411 => ?_)
                · unfold J_Main_feud_100
                  refine Ok.nmI (fun x1412 ex1412 => ?_)
                  exact ih1397 v1400 x1412 M1407 (Kl.trans k1403 k1408) (nn_up (y := (M ld 1)) (by rw [← Kl.m k1403 (C0_La_0f hld)]; exact h1405) ex1412 n1404) (md_up (by rw [← Kl.m k1403 (C0_La_0f hld)]; exact h1405) ex1412 hm1398)
                · refine Ok.nmI (fun x1413 ex1413 => ?_)
                  unfold J_Main_feud_100
                  refine Ok.nmI (fun x1414 ex1414 => ?_)
                  exact ih1397 x1413 x1414 M1407 (Kl.trans k1403 k1408) (nn_up (y := (M ld 1)) (by rw [← Kl.m k1403 (C0_La_0f hld)]; exact h1405) ex1414 n1404) (md_up (by rw [← Kl.m k1403 (C0_La_0f hld)]; exact h1405) ex1414 hm1398)
          exact LP1399 _ 0 0 M Kl.rf (by decide) fu_up
set_option maxHeartbeats 4000000 in
set_option maxRecDepth 20000 in
theorem tf_Main_freestDish {ld : Nat} {p1 : Int32} {M : gM} (hld : isLa ld) : ∃ r M', F_Main_freestDish ld p1 M = some (r, M') ∧ True ∧ Kl C0 M zL M' zL := by
  refine Ok.x2 (A := fun r M' => True ∧ Kl C0 M zL M' zL) ?_
  unfold F_Main_freestDish
  have LP1418 : ∀ (f1415 : Nat) (v1419 : Int32) (v1420 : Int32) (v1421 : Int32) (M1422 : gM), Kl C0 M zL M1422 zL → ¬ v1421 < 0 → ((M ld 1).toInt - v1421.toInt).toNat < f1415 → Ok (H_Main_freestDish_7 ld p1 f1415 v1419 v1420 v1421 M1422) (fun q => True ∧ Kl C0 M zL q.2 zL) := by
    intro f1415
    induction f1415 with
    | zero => intro v1419 v1420 v1421 M1422 _ _ hm1417; exact absurd hm1417 (Nat.not_lt_zero _)
    | succ f1415 ih1416 =>
      intro v1419 v1420 v1421 M1422 k1423 n1424 hm1417
      show Ok (B_Main_freestDish_7 ld p1 (H_Main_freestDish_7 ld p1 f1415) v1419 v1420 v1421 M1422) _
      unfold B_Main_freestDish_7
      refine Ok.ite (fun h1425 => ?_) (fun h1425 => ?_)
      · exact ⟨_, rfl, trivial, k1423⟩
      · refine Ok.c2 (tf_Main_freeBehind hld) (fun r1426 M1427 ⟨_, k1428⟩ => ?_)
        refine Ok.c1 (tf_Int_bitCount ) (fun r1429 _ => ?_)
        refine Ok.ite (fun h1430 => ?_) (fun h1430 => ?_)
        · unfold J_Main_freestDish_43
          refine Ok.nmI (fun x1431 ex1431 => ?_)
          exact ih1416 v1419 v1420 x1431 M1427 (Kl.trans k1423 k1428) (nn_up (y := (M ld 1)) (by rw [← Kl.m k1423 (C0_La_0f hld)]; exact h1425) ex1431 n1424) (md_up (by rw [← Kl.m k1423 (C0_La_0f hld)]; exact h1425) ex1431 hm1417)
        · unfold J_Main_freestDish_43
          refine Ok.nmI (fun x1432 ex1432 => ?_)
          exact ih1416 r1429 v1421 x1432 M1427 (Kl.trans k1423 k1428) (nn_up (y := (M ld 1)) (by rw [← Kl.m k1423 (C0_La_0f hld)]; exact h1425) ex1432 n1424) (md_up (by rw [← Kl.m k1423 (C0_La_0f hld)]; exact h1425) ex1432 hm1417)
  exact LP1418 _ (-1) (-1) 0 M Kl.rf (by decide) fu_up
set_option maxHeartbeats 4000000 in
set_option maxRecDepth 20000 in
theorem tf_Main_often {ld : Nat} {p1 : Int32} {M : gM} (hld : isLa ld) : ∃ r M', F_Main_often ld p1 M = some (r, M') ∧ True ∧ Kl C1 M zL M' zL := by
  refine Ok.x2 (A := fun r M' => True ∧ Kl C1 M zL M' zL) ?_
  unfold F_Main_often
  refine Ok.c1 (tf_Main_isOne ) (fun r1433 hbr1433 => ?_)
  refine Ok.ite (fun h1434 => ?_) (fun h1434 => ?_)
  · exact ⟨_, rfl, trivial, Kl.rf⟩
  · refine Ok.c1 (tf_State_copyFrom isSt_71 isSt_64) (fun M1435 k1436 => ?_)
    have LP1440 : ∀ (f1437 : Nat) (v1441 : Int32) (M1442 : gM), Kl C1 M zL M1442 zL → ¬ v1441 < 0 → ((99 : Int32).toInt + 1 - v1441.toInt).toNat < f1437 → Ok (H_Main_often_29 ld p1 f1437 v1441 M1442) (fun q => True ∧ Kl C1 M zL q.2 zL) := by
      intro f1437
      induction f1437 with
      | zero => intro v1441 M1442 _ _ hm1439; exact absurd hm1439 (Nat.not_lt_zero _)
      | succ f1437 ih1438 =>
        intro v1441 M1442 k1443 n1444 hm1439
        show Ok (B_Main_often_29 ld p1 (H_Main_often_29 ld p1 f1437) v1441 M1442) _
        unfold B_Main_often_29
        refine Ok.ite (fun h1445 => ?_) (fun h1445 => ?_)
        · exact ⟨_, rfl, trivial, k1443⟩
        · refine Ok.c1 (tf_State_inStore isSt_71 hld) (fun r1446 hbr1446 => ?_)
          refine Ok.ite (fun h1447 => ?_) (fun h1447 => ?_)
          · exact ⟨_, rfl, trivial, k1443⟩
          · refine Ok.c2 (tf_State_cookOne isSt_71 hld) (fun r1448 M1449 ⟨_, k1450⟩ => ?_)
            refine Ok.nmI (fun x1451 ex1451 => ?_)
            exact ih1438 x1451 M1449 (Kl.trans k1443 (Kl.mono k1450 CX_C1)) (nn_upe (y := (99 : Int32)) h1445 (by decide) ex1451 n1444) (md_upe h1445 (by decide) ex1451 hm1439)
    exact LP1440 _ 0 M1435 (Kl.trans Kl.rf (Kl.mono k1436 CX_C1)) (by decide) fu_upe
set_option maxHeartbeats 4000000 in
set_option maxRecDepth 20000 in
theorem tf_Main_pot {ld : Nat} {p1 : Int32} {p2 : Int32} {p3 : Int32} {p4 : Int32} {M : gM} (hld : isLa ld) : ∃ r M', F_Main_pot ld p1 p2 p3 p4 M = some (r, M') ∧ True ∧ Kl C1 M zL M' zL := by
  refine Ok.x2 (A := fun r M' => True ∧ Kl C1 M zL M' zL) ?_
  unfold F_Main_pot
  refine Ok.c1 (tf_Main_isOne ) (fun r1452 hbr1452 => ?_)
  refine Ok.ite (fun h1453 => ?_) (fun h1453 => ?_)
  · exact ⟨_, rfl, trivial, Kl.rf⟩
  · refine Ok.c1 (tf_Main_isOne ) (fun r1454 hbr1454 => ?_)
    refine Ok.ite (fun h1455 => ?_) (fun h1455 => ?_)
    · exact ⟨_, rfl, trivial, Kl.rf⟩
    · refine Ok.c1 (tf_Main_isOne ) (fun r1456 hbr1456 => ?_)
      refine Ok.ite (fun h1457 => ?_) (fun h1457 => ?_)
      · exact ⟨_, rfl, trivial, Kl.rf⟩
      · refine Ok.c1 (tf_Main_isOne ) (fun r1458 hbr1458 => ?_)
        refine Ok.ite (fun h1459 => ?_) (fun h1459 => ?_)
        · exact ⟨_, rfl, trivial, Kl.rf⟩
        · refine Ok.c2 (tf_PotSearch_find hld isSt_64) (fun r1460 M1461 ⟨hbr1460, k1462⟩ => ?_)
          refine Ok.ite (fun h1463 => ?_) (fun h1463 => ?_)
          · exact ⟨_, rfl, trivial, (Kl.trans Kl.rf k1462)⟩
          · refine Ok.ite (fun h1464 => ?_) (fun h1464 => ?_)
            · exact ⟨_, rfl, trivial, (Kl.trans Kl.rf k1462)⟩
            · refine Ok.ite (fun h1465 => ?_) (fun h1465 => ?_)
              · exact ⟨_, rfl, trivial, (Kl.trans Kl.rf k1462)⟩
              · refine Ok.c1 (tf_Main_at (by decide)) (fun r1466 _ => ?_)
                exact ⟨_, rfl, trivial, (Kl.trans Kl.rf k1462)⟩
set_option maxHeartbeats 4000000 in
set_option maxRecDepth 20000 in
theorem tf_Main_sure {ld : Nat} {p1 : Int32} {M : gM} (hld : isLa ld) : ∃ r M', F_Main_sure ld p1 M = some (r, M') ∧ True ∧ Kl C1 M zL M' zL := by
  refine Ok.x2 (A := fun r M' => True ∧ Kl C1 M zL M' zL) ?_
  unfold F_Main_sure
  refine Ok.c1 (tf_Main_isOne ) (fun r1467 hbr1467 => ?_)
  refine Ok.ite (fun h1468 => ?_) (fun h1468 => ?_)
  · exact ⟨_, rfl, trivial, Kl.rf⟩
  · refine Ok.c1 (tf_Told_gather hld) (fun M1469 k1470 => ?_)
    refine Ok.c1 (tf_Told_onlyDish ) (fun r1471 _ => ?_)
    exact ⟨_, rfl, trivial, (Kl.trans Kl.rf k1470)⟩
set_option maxHeartbeats 4000000 in
set_option maxRecDepth 20000 in
theorem tf_Main_taste {ld : Nat} {p1 : Int32} {M : gM} (hld : isLa ld) : ∃ r M', F_Main_taste ld p1 M = some (r, M') ∧ True ∧ Kl C1 M zL M' zL := by
  refine Ok.x2 (A := fun r M' => True ∧ Kl C1 M zL M' zL) ?_
  unfold F_Main_taste
  refine Ok.c1 (tf_Main_isOne ) (fun r1472 hbr1472 => ?_)
  refine Ok.ite (fun h1473 => ?_) (fun h1473 => ?_)
  · exact ⟨_, rfl, trivial, Kl.rf⟩
  · refine Ok.c1 (tf_Told_gather hld) (fun M1474 k1475 => ?_)
    refine Ok.c2 (tf_Told_nextTaste hld) (fun r1476 M1477 ⟨_, k1478⟩ => ?_)
    exact ⟨_, rfl, trivial, (Kl.trans (Kl.trans Kl.rf k1475) (Kl.mono k1478 C0_C1))⟩
set_option maxHeartbeats 4000000 in
set_option maxRecDepth 20000 in
theorem tf_MenuSearch_find {Ld1 : Nat} {X2 : Nat} {p3 : Int32} {p4 : Int32} {p5 : Int32} {M : gM} (hLd1 : isLa Ld1) (hX2 : isSt X2) : ∃ r M', F_MenuSearch_find Ld1 X2 p3 p4 p5 M = some (r, M') ∧ (r = 0 ∨ r = 1) ∧ Kl C1 M zL M' zL := by
  refine Ok.x2 (A := fun r M' => (r = 0 ∨ r = 1) ∧ Kl C1 M zL M' zL) ?_
  unfold F_MenuSearch_find
  refine Ok.c1 (tf_MenuSearch_lookUnfed hLd1 hX2) (fun M1479 k1480 => ?_)
  refine Ok.c1 (tf_MenuSearch_lookFed hLd1) (fun M1481 k1482 => ?_)
  refine Ok.c1 (tf_Main_wipe (by decide)) (fun M1483 k1484 => ?_)
  refine Ok.nmM (fun M1485 eM1485 => ?_)
  have LP1489 : ∀ (f1486 : Nat) (v1490 : Int32) (M1491 : gM), Kl C1 M zL M1491 zL → ¬ v1490 < 0 → ((1296 : Int32).toInt - v1490.toInt).toNat < f1486 → Ok (H_MenuSearch_find_38 Ld1 X2 p4 f1486 v1490 M1491) (fun q => (q.1 = 0 ∨ q.1 = 1) ∧ Kl C1 M zL q.2 zL) := by
    intro f1486
    induction f1486 with
    | zero => intro v1490 M1491 _ _ hm1488; exact absurd hm1488 (Nat.not_lt_zero _)
    | succ f1486 ih1487 =>
      intro v1490 M1491 k1492 n1493 hm1488
      show Ok (B_MenuSearch_find_38 Ld1 X2 p4 (H_MenuSearch_find_38 Ld1 X2 p4 f1486) v1490 M1491) _
      unfold B_MenuSearch_find_38
      refine Ok.ite (fun h1494 => ?_) (fun h1494 => ?_)
      · unfold J_MenuSearch_find_107
        refine Ok.ite (fun h1495 => ?_) (fun h1495 => ?_)
        · exact ⟨_, rfl, (Or.inl rfl), k1492⟩
        · exact ⟨_, rfl, (Or.inr rfl), k1492⟩
      · refine Ok.c1 (tf_MenuSearch_mealsIfAllFree ) (fun r1496 _ => ?_)
        refine Ok.ite (fun h1497 => ?_) (fun h1497 => ?_)
        · unfold J_MenuSearch_find_85
          refine Ok.c2 (tf_MenuSearch_step ) (fun r1498 M1499 ⟨hbr1498, k1500⟩ => ?_)
          refine Ok.ite (fun h1501 => ?_) (fun h1501 => ?_)
          · unfold J_MenuSearch_find_98
            unfold J_MenuSearch_find_107
            refine Ok.ite (fun h1502 => ?_) (fun h1502 => ?_)
            · exact ⟨_, rfl, (Or.inl rfl), (Kl.trans k1492 k1500)⟩
            · exact ⟨_, rfl, (Or.inr rfl), (Kl.trans k1492 k1500)⟩
          · refine Ok.nmI (fun x1503 ex1503 => ?_)
            exact ih1487 x1503 M1499 (Kl.trans k1492 k1500) (nn_up (y := (1296 : Int32)) h1494 ex1503 n1493) (md_up h1494 ex1503 hm1488)
        · refine Ok.ite (fun h1504 => ?_) (fun h1504 => ?_)
          · unfold J_MenuSearch_find_85
            refine Ok.c2 (tf_MenuSearch_step ) (fun r1505 M1506 ⟨hbr1505, k1507⟩ => ?_)
            refine Ok.ite (fun h1508 => ?_) (fun h1508 => ?_)
            · unfold J_MenuSearch_find_98
              unfold J_MenuSearch_find_107
              refine Ok.ite (fun h1509 => ?_) (fun h1509 => ?_)
              · exact ⟨_, rfl, (Or.inl rfl), (Kl.trans k1492 k1507)⟩
              · exact ⟨_, rfl, (Or.inr rfl), (Kl.trans k1492 k1507)⟩
            · refine Ok.nmI (fun x1510 ex1510 => ?_)
              exact ih1487 x1510 M1506 (Kl.trans k1492 k1507) (nn_up (y := (1296 : Int32)) h1494 ex1510 n1493) (md_up h1494 ex1510 hm1488)
          · refine Ok.nmM (fun M1511 eM1511 => ?_)
            refine Ok.c1 (tf_Main_copyRow (by decide) (by decide)) (fun M1512 k1513 => ?_)
            unfold J_MenuSearch_find_85
            refine Ok.c2 (tf_MenuSearch_step ) (fun r1514 M1515 ⟨hbr1514, k1516⟩ => ?_)
            refine Ok.ite (fun h1517 => ?_) (fun h1517 => ?_)
            · unfold J_MenuSearch_find_98
              unfold J_MenuSearch_find_107
              refine Ok.ite (fun h1518 => ?_) (fun h1518 => ?_)
              · exact ⟨_, rfl, (Or.inl rfl), (Kl.trans (Kl.trans (Kl.wM k1492 rfl eM1511) (Kl.mono k1513 (oneL_S (fun _ => rfl)))) k1516)⟩
              · exact ⟨_, rfl, (Or.inr rfl), (Kl.trans (Kl.trans (Kl.wM k1492 rfl eM1511) (Kl.mono k1513 (oneL_S (fun _ => rfl)))) k1516)⟩
            · refine Ok.nmI (fun x1519 ex1519 => ?_)
              exact ih1487 x1519 M1515 (Kl.trans (Kl.trans (Kl.wM k1492 rfl eM1511) (Kl.mono k1513 (oneL_S (fun _ => rfl)))) k1516) (nn_up (y := (1296 : Int32)) h1494 ex1519 n1493) (md_up h1494 ex1519 hm1488)
  exact LP1489 _ 0 M1485 (Kl.wM (Kl.trans (Kl.trans (Kl.trans Kl.rf k1480) k1482) (Kl.mono k1484 (oneL_S (fun _ => rfl)))) rfl eM1485) (by decide) fu_up
set_option maxHeartbeats 4000000 in
set_option maxRecDepth 20000 in
theorem tf_Main_freest {ld : Nat} {p1 : Int32} {p2 : Int32} {M : gM} (hld : isLa ld) : ∃ r M', F_Main_freest ld p1 p2 M = some (r, M') ∧ True ∧ Kl C0 M zL M' zL := by
  refine Ok.x2 (A := fun r M' => True ∧ Kl C0 M zL M' zL) ?_
  unfold F_Main_freest
  refine Ok.c1 (tf_Main_isOne ) (fun r1520 hbr1520 => ?_)
  refine Ok.ite (fun h1521 => ?_) (fun h1521 => ?_)
  · exact ⟨_, rfl, trivial, Kl.rf⟩
  · refine Ok.c1 (tf_Main_isOne ) (fun r1522 hbr1522 => ?_)
    refine Ok.ite (fun h1523 => ?_) (fun h1523 => ?_)
    · exact ⟨_, rfl, trivial, Kl.rf⟩
    · refine Ok.ite (fun h1524 => ?_) (fun h1524 => ?_)
      · exact ⟨_, rfl, trivial, Kl.rf⟩
      · refine Ok.c2 (tf_Main_freestDish hld) (fun r1525 M1526 ⟨_, k1527⟩ => ?_)
        refine Ok.ite (fun h1528 => ?_) (fun h1528 => ?_)
        · exact ⟨_, rfl, trivial, (Kl.trans Kl.rf k1527)⟩
        · refine Ok.c2 (tf_Main_freeBehind hld) (fun r1529 M1530 ⟨_, k1531⟩ => ?_)
          refine Ok.c1 (tf_Int_bitCount ) (fun r1532 _ => ?_)
          exact ⟨_, rfl, trivial, (Kl.trans (Kl.trans Kl.rf k1527) k1531)⟩
set_option maxHeartbeats 4000000 in
set_option maxRecDepth 20000 in
theorem tf_Main_menu {ld : Nat} {p1 : Int32} {p2 : Int32} {p3 : Int32} {p4 : Int32} {M : gM} (hld : isLa ld) : ∃ r M', F_Main_menu ld p1 p2 p3 p4 M = some (r, M') ∧ True ∧ Kl C1 M zL M' zL := by
  refine Ok.x2 (A := fun r M' => True ∧ Kl C1 M zL M' zL) ?_
  unfold F_Main_menu
  refine Ok.c1 (tf_Main_isOne ) (fun r1533 hbr1533 => ?_)
  refine Ok.ite (fun h1534 => ?_) (fun h1534 => ?_)
  · exact ⟨_, rfl, trivial, Kl.rf⟩
  · refine Ok.ite (fun h1535 => ?_) (fun h1535 => ?_)
    · exact ⟨_, rfl, trivial, Kl.rf⟩
    · refine Ok.ite (fun h1536 => ?_) (fun h1536 => ?_)
      · exact ⟨_, rfl, trivial, Kl.rf⟩
      · refine Ok.c1 (tf_Main_isOne ) (fun r1537 hbr1537 => ?_)
        refine Ok.ite (fun h1538 => ?_) (fun h1538 => ?_)
        · exact ⟨_, rfl, trivial, Kl.rf⟩
        · refine Ok.ite (fun h1539 => ?_) (fun h1539 => ?_)
          · exact ⟨_, rfl, trivial, Kl.rf⟩
          · refine Ok.ite (fun h1540 => ?_) (fun h1540 => ?_)
            · refine Ok.c2 (tf_MenuSearch_find hld isSt_64) (fun r1541 M1542 ⟨hbr1541, k1543⟩ => ?_)
              refine Ok.ite (fun h1544 => ?_) (fun h1544 => ?_)
              · refine Ok.ite (fun h1545 => ?_) (fun h1545 => ?_)
                · exact ⟨_, rfl, trivial, (Kl.trans Kl.rf k1543)⟩
                · exact ⟨_, rfl, trivial, (Kl.trans Kl.rf k1543)⟩
              · refine Ok.ite (fun h1546 => ?_) (fun h1546 => ?_)
                · exact ⟨_, rfl, trivial, (Kl.trans Kl.rf k1543)⟩
                · refine Ok.c1 (tf_Main_at (by decide)) (fun r1547 _ => ?_)
                  refine Ok.ite (fun h1548 => ?_) (fun h1548 => ?_)
                  · exact ⟨_, rfl, trivial, (Kl.trans Kl.rf k1543)⟩
                  · exact ⟨_, rfl, trivial, (Kl.trans Kl.rf k1543)⟩
            · exact ⟨_, rfl, trivial, Kl.rf⟩
set_option maxHeartbeats 4000000 in
set_option maxRecDepth 20000 in
theorem tf_Main_supper {ld : Nat} {M : gM} (hld : isLa ld) : ∃ r M', F_Main_supper ld M = some (r, M') ∧ True ∧ Kl C0 M zL M' zL := by
  refine Ok.x2 (A := fun r M' => True ∧ Kl C0 M zL M' zL) ?_
  unfold F_Main_supper
  refine Ok.ite (fun h1549 => ?_) (fun h1549 => ?_)
  · exact ⟨_, rfl, trivial, Kl.rf⟩
  · have LP1553 : ∀ (f1550 : Nat) (v1554 : Int32) (v1555 : Int32) (M1556 : gM), Kl C0 M zL M1556 zL → ¬ v1555 < 0 → ((M ld 2).toInt - v1555.toInt).toNat < f1550 → Ok (H_Main_supper_16 ld f1550 v1554 v1555 M1556) (fun q => True ∧ Kl C0 M zL q.2 zL) := by
      intro f1550
      induction f1550 with
      | zero => intro v1554 v1555 M1556 _ _ hm1552; exact absurd hm1552 (Nat.not_lt_zero _)
      | succ f1550 ih1551 =>
        intro v1554 v1555 M1556 k1557 n1558 hm1552
        show Ok (B_Main_supper_16 ld (H_Main_supper_16 ld f1550) v1554 v1555 M1556) _
        unfold B_Main_supper_16
        refine Ok.ite (fun h1559 => ?_) (fun h1559 => ?_)
        · exact ⟨_, rfl, trivial, k1557⟩
        · refine Ok.c2 (tf_Main_freestDish hld) (fun r1560 M1561 ⟨_, k1562⟩ => ?_)
          refine Ok.c2 (tf_Main_freeBehind hld) (fun r1563 M1564 ⟨_, k1565⟩ => ?_)
          refine Ok.c1 (tf_Int_bitCount ) (fun r1566 _ => ?_)
          refine Ok.nmI (fun x1567 ex1567 => ?_)
          refine Ok.nmI (fun x1568 ex1568 => ?_)
          exact ih1551 x1567 x1568 M1564 (Kl.trans (Kl.trans k1557 k1562) k1565) (nn_up (y := (M ld 2)) (by rw [← Kl.m k1557 (C0_La_0f hld)]; exact h1559) ex1568 n1558) (md_up (by rw [← Kl.m k1557 (C0_La_0f hld)]; exact h1559) ex1568 hm1552)
    exact LP1553 _ 0 0 M Kl.rf (by decide) fu_up
