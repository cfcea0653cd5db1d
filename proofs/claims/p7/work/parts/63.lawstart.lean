def mkK (s : State) (n : Nat) (f : Nat → ClassId × (Nat → Nat)) : Prop := ∀ k, k < n → ∀ r : vw_C, cls[k]? = some r → u_Kn s r.1 r.2.1 r.2.2 (f k).1 (f k).2
theorem lw_K {p : Program} {s : State} {m : MethodId} {meth : Method} {c : Code} {b L : Nat} {xs : Nat → Int32} (C0 : lw_At p s m meth c b L xs) : ∃ (D : va_G) (cA : Nat → ClassId), gK D cA s := by
  obtain ⟨hx, hb, hr, hml, hown, hts, hX, hbl, hlocks, hgv⟩ := C0
  obtain ⟨c0, f0, h0⟩ := u_known (C := "CookedLaw") (T := T_Main) (N := 12) (n := 12) hts (fun w h => (in_Main w h).1) (hts _ (gtb_tbl _ cn_Main))
  obtain ⟨c1, f1, h1⟩ := u_known (C := "CookedLaw$Tape") (T := T_Tape) (N := 2) (n := 2) hts (fun w h => (in_Tape w h).1) (hts _ (gtb_tbl _ cn_Tape))
  obtain ⟨c2, f2, h2⟩ := u_known (C := "CookedLaw$Reader") (T := T_Reader) (N := 12) (n := 12) hts (fun w h => (in_Reader w h).1) (hts _ (gtb_tbl _ cn_Reader))
  obtain ⟨c3, f3, h3⟩ := u_known (C := "CookedLaw$Tokens") (T := T_Tokens) (N := 4) (n := 4) hts (fun w h => (in_Tokens w h).1) (hts _ (gtb_tbl _ cn_Tokens))
  obtain ⟨c4, f4, h4⟩ := u_known (C := "CookedLaw$Land") (T := T_Land) (N := 18) (n := 18) hts (fun w h => (in_Land w h).1) (hts _ (gtb_tbl _ cn_Land))
  obtain ⟨c5, f5, h5⟩ := u_known (C := "CookedLaw$Law") (T := T_Law) (N := 4) (n := 4) hts (fun w h => (in_Law w h).1) (hts _ (gtb_tbl _ cn_Law))
  obtain ⟨c6, f6, h6⟩ := u_known (C := "CookedLaw$State") (T := T_State) (N := 10) (n := 10) hts (fun w h => (in_State w h).1) (hts _ (gtb_tbl _ cn_State))
  obtain ⟨c7, f7, h7⟩ := u_known (C := "CookedLaw$Past") (T := T_Past) (N := 3) (n := 3) hts (fun w h => (in_Past w h).1) (hts _ (gtb_tbl _ cn_Past))
  obtain ⟨c8, f8, h8⟩ := u_known (C := "CookedLaw$Slots") (T := T_Slots) (N := 2) (n := 2) hts (fun w h => (in_Slots w h).1) (hts _ (gtb_tbl _ cn_Slots))
  obtain ⟨c9, f9, h9⟩ := u_known (C := "CookedLaw$Told") (T := T_Told) (N := 9) (n := 9) hts (fun w h => (in_Told w h).1) (hts _ (gtb_tbl _ cn_Told))
  obtain ⟨c10, f10, h10⟩ := u_known (C := "CookedLaw$PotSearch") (T := T_PotSearch) (N := 11) (n := 11) hts (fun w h => (in_PotSearch w h).1) (hts _ (gtb_tbl _ cn_PotSearch))
  obtain ⟨c11, f11, h11⟩ := u_known (C := "CookedLaw$MenuSearch") (T := T_MenuSearch) (N := 5) (n := 5) hts (fun w h => (in_MenuSearch w h).1) (hts _ (gtb_tbl _ cn_MenuSearch))
  obtain ⟨c12, f12, h12⟩ := u_known (C := "CookedLawModel") (T := T_Mod) (N := 71) (n := 71) hts (fun w h => (in_Mod w h).1) (hts _ (gtb_tbl _ cn_Mod))
  obtain ⟨a0, k0, m0, p0, q0, r0⟩ := Cond.arrayClass_spec (hts _ (gtb_tbl _ ca_int))
  obtain ⟨a1, k1, m1, p1, q1, r1⟩ := Cond.arrayClass_spec (hts _ (gtb_tbl _ ca_byte))
  obtain ⟨a2, k2, m2, p2, q2, r2⟩ := Cond.arrayClass_spec (hts _ (gtb_tbl _ ca_boolean))
  obtain ⟨a3, k3, m3, p3, q3, r3⟩ := Cond.arrayClass_spec (hts _ (gtb_tbl _ ca_long))
  have hao : (Cond.arrayOver (.object "CookedLaw$State")).before #[Value.ref b] s = true := hts _ (by decide +kernel)
  obtain ⟨m4, a4, k4, u4, v4, q4, r4, p4⟩ := Cond.arrayOver_spec hao
  refine ⟨(fun i => match i with | 0 => c0 | 1 => c1 | 2 => c2 | 3 => c3 | 4 => c4 | 5 => c5 | 6 => c6 | 7 => c7 | 8 => c8 | 9 => c9 | 10 => c10 | 11 => c11 | _ => c12, fun i => match i with | 0 => f0 | 1 => f1 | 2 => f2 | 3 => f3 | 4 => f4 | 5 => f5 | 6 => f6 | 7 => f7 | 8 => f8 | 9 => f9 | 10 => f10 | 11 => f11 | _ => f12), (fun i => match i with | 0 => a0 | 1 => a1 | 2 => a2 | 3 => a3 | _ => a4), ⟨?_, ?_⟩, ?_, va_AO.of hao⟩
  · intro k q hq
    match k, hq with
    | 0, hq => cases hq; exact h0
    | 1, hq => cases hq; exact h1
    | 2, hq => cases hq; exact h2
    | 3, hq => cases hq; exact h3
    | 4, hq => cases hq; exact h4
    | 5, hq => cases hq; exact h5
    | 6, hq => cases hq; exact h6
    | 7, hq => cases hq; exact h7
    | 8, hq => cases hq; exact h8
    | 9, hq => cases hq; exact h9
    | 10, hq => cases hq; exact h10
    | 11, hq => cases hq; exact h11
    | 12, hq => cases hq; exact h12
    | k + 13, hq => simp [cls] at hq
  · intro k q hq
    match k, hq with
    | 0, hq => cases hq; exact ⟨fun n z => ⟨(fun k h => by cases h), k0, q0, m0, r0⟩, p0⟩
    | 1, hq => cases hq; exact ⟨fun n z => ⟨(fun k h => by cases h), k1, q1, m1, r1⟩, p1⟩
    | 2, hq => cases hq; exact ⟨fun n z => ⟨(fun k h => by cases h), k2, q2, m2, r2⟩, p2⟩
    | 3, hq => cases hq; exact ⟨fun n z => ⟨(fun k h => by cases h), k3, q3, m3, r3⟩, p3⟩
    | 4, hq => cases hq; exact ⟨fun n z => ⟨(fun k h => by cases h), k4, q4, m4, r4⟩, k4, m4, q4, r4, u4, p4⟩
    | k + 5, hq => simp [tys] at hq
  · intro w hw hn
    refine va_Nw.of ?_ (hts w (List.mem_append_right _ hw))
    cases w <;> first | rfl | (exfalso; simp [isNest] at hn)
set_option maxRecDepth 100000 in
theorem lw_O {p : Program} {s : State} {m : MethodId} {meth : Method} {c : Code} {b L : Nat} {xs : Nat → Int32} (C0 : lw_At p s m meth c b L xs) : gO s.heap.size s s.heap := by
  obtain ⟨hx, hb, hr, hml, hown, hts, hX, hbl, hlocks, hgv⟩ := C0
  have hs := flat_of_before _ hgv
  have hA : ∀ a : Nat, a < s.heap.size → ¬ (fun q => s.heap.size ≤ q) a := fun a h => Nat.not_le.mpr h
  have h108 : ∀ j : Nat, j < 108 → (Cond.eq (.elem (.field (Term.string "CookedLaw$Tokens" 25) "java/lang/String" "value" "[B") (.int (Int32.ofNat j))) (.int ((jsB.getD 0 []).getD j 0))).before #[Value.ref b] s = true := by
    intro j hj
    exact hs _ ((by decide +kernel : ∀ j : Nat, j < 108 → (Cond.eq (.elem (.field (Term.string "CookedLaw$Tokens" 25) "java/lang/String" "value" "[B") (.int (Int32.ofNat j))) (.int ((jsB.getD 0 []).getD j 0))) ∈ flatC (Jvm.Cond.and given_1 narrow_1)) j hj)
  obtain ⟨adK, adV, hS, he⟩ := vk_Sof (args := #[Value.ref b]) (s := s) (N := 1) (tm := fun _ => (Term.string "CookedLaw$Tokens" 25)) (len := [108]) (byt := jsB) (A := fun q => s.heap.size ≤ q) (fun i hi => by rw [show i = 0 by omega]; decide)
    (fun i hi => hs _ (by decide +kernel)) (fun i hi => hs _ (by decide +kernel)) (fun i hi => hs _ (by decide +kernel)) (fun i hi => by rw [show i = 0 by omega]; exact hs _ (by decide +kernel)) (fun i hi j hj => by
      obtain rfl : i = 0 := by omega
      exact h108 j hj) (fun i j hi hj h => absurd (show i = j by omega) h) hA
  refine ⟨adK, adV, hS, vk_R.of (A := #[Value.ref b]) (hts _ (by decide +kernel)) (he 0 (by decide)), va_Zof (args := #[Value.ref b]) (hts _ (by decide +kernel)) (hts _ (by decide +kernel)) (va_eqt (hs _ (by decide +kernel))) hA, va_Zqof (args := #[Value.ref b]) (hts _ (by decide +kernel)) (hts _ (by decide +kernel)) (hs _ (by decide +kernel)) hA⟩
theorem isLa_12 : isLa 12 := (by decide : (12 : Nat) ∈ lLa)
def M00 : gM := kM_Mod_init (kM_Main_init (fun _ _ => 0))
def L00 : gL := kL_Mod_init (kL_Main_init (fun _ _ => 0))
set_option maxHeartbeats 4000000 in
set_option maxRecDepth 100000 in
theorem lw_start {p : Program} {e : Env} {s : State} {m : MethodId} {below : List Frame} {meth : Method} {c : Code} (l : Launch) {b L : Nat} {xs : Nat → Int32} (hpure : H_law xs L FU 0 M00 L00 12 = some 1) (C0 : lw_At p s m meth c b L xs) : W p l e room_1 s m #[Value.ref b] below meth c s.heap [] 0 0 (lw_Z below #[Value.ref b] s) (entryFrame m ([Value.ref b] : List Value).toArray 4) := by
  obtain ⟨D, cA, hK⟩ := lw_K C0
  have hO := lw_O C0
  obtain ⟨hx, hb, hr, hml, hown, hts, hX, hbl, hlocks, hgv⟩ := C0
  have C : ZC p s m meth c b L xs D cA := ⟨hx, hb, hr, hml, hown, hts, hX, hbl, hlocks, hK, hO⟩
  have hl := lv_entry ([.ref b]) (n := 4) (Nat.le_of_ble_eq_true rfl)
  rw [lg_entry_eq]
  generalize (lg_sl ([.ref b]) ++ List.replicate (4 - (lg_sl ([.ref b])).length) Slot.unset).toArray = ls at hl ⊢
  have hl : lv_has ls 4 [(0, .ref b)] := hl
  have K : Zw l p e s m below meth c b L xs D cA 0 0 0 [(0, .ref b)] [] (fun _ _ => 0) (fun _ _ => 0) R00 := by
    refine z_new C (pc1 := 3) (ci := 0) (T := T_Main) (N := 12) (ty := ty_Main) d_law_0 rfl rfl (fun w h => (in_Main w h).1) tyk_Main (by decide) ck_Law0_7 cn_Main cz_Main sh_0 (fun _ => rfl) (fun _ => rfl) (Nat.le_of_ble_eq_true rfl) (Nat.le_of_ble_eq_true rfl) ?_
    refine z_dup C (pc1 := 4) d_law_3 rfl rfl ?_
    refine z_callI C (Y' := y_Main_init) (E' := (400, 9728, 401)) (pc1 := 7) (a := 0) (As := []) (rest := [.ref 0]) d_law_4 rfl mo_Law0_9 mi_Main_init rfl rfl ⟨(Nat.le_of_ble_eq_true rfl), (Nat.le_of_ble_eq_true rfl)⟩ rfl rfl (Nat.le_of_ble_eq_true rfl) ⟨(Nat.le_of_ble_eq_true rfl), (Nat.le_of_ble_eq_true rfl)⟩ rfl ?_
    refine t0_Main_init (fun c _ i => ⟨rfl, rfl, rfl⟩) (fun M' L' R' eM eL eR hF => ?_)
    show Zw l p e s m below meth c b L xs D cA 401 9740 7 [(0, .ref b)] [.ref (s.heap.size + 0)] M' L' R'
    refine z_astore_n C (pc1 := 8) (lv' := [(0, .ref b), (1, .ref (s.heap.size + 0))]) d_law_7 rfl rfl (by decide) [1, 0] rfl ?_
    refine z_new C (pc1 := 11) (ci := 12) (T := T_Mod) (N := 71) (ty := ty_Mod) d_law_8 rfl rfl (fun w h => (in_Mod w h).1) tyk_Mod (by decide) ck_Law0_10 cn_Mod cz_Mod sh_401 (fun i => (hF 401 (Nat.le_refl _) i).1) (fun i => (hF 401 (Nat.le_refl _) i).2.2) (Nat.le_of_ble_eq_true rfl) (Nat.le_of_ble_eq_true rfl) ?_
    refine z_dup C (pc1 := 12) d_law_11 rfl rfl ?_
    refine z_callI C (Y' := y_Mod_init) (E' := (45, 14101, 447)) (pc1 := 15) (a := 401) (As := []) (rest := [.ref 401]) d_law_12 rfl mo_Law0_12 mi_Mod_init rfl rfl ⟨(Nat.le_of_ble_eq_true rfl), (Nat.le_of_ble_eq_true rfl)⟩ rfl rfl (Nat.le_of_ble_eq_true rfl) ⟨(Nat.le_of_ble_eq_true rfl), (Nat.le_of_ble_eq_true rfl)⟩ rfl ?_
    refine x_Mod_init hF (by rw [eR]; exact R_start) ?_
    show Zw l p e s m below meth c b L xs D cA 447 23912 15 [(0, .ref b), (1, .ref (s.heap.size + 0))] [.ref (s.heap.size + 401)] _ _ (rf 12)
    refine z_astore_n C (pc1 := 16) (lv' := [(0, .ref b), (1, .ref (s.heap.size + 0)), (2, .ref (s.heap.size + 401))]) d_law_15 rfl rfl (by decide) [1, 2, 0] rfl ?_
    refine z_iconst C (pc1 := 17) (v := 0) d_law_16 rfl (by decide) ?_
    refine z_istore_n C (pc1 := 18) (lv' := [(0, .ref b), (1, .ref (s.heap.size + 0)), (2, .ref (s.heap.size + 401)), (3, .int 0)]) d_law_17 rfl rfl (by decide) [1, 2, 3, 0] rfl ?_
    subst eM eL
    exact h_law C FU 0 _ _ 12 isLa_12 hpure
  exact K s.heap [] ls (fun k q h => by simp [Wd] at h) va_S.rf hl
