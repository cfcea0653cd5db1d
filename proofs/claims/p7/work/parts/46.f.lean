def F_Mod_appends (p1 : Int64) (p2 : Int32) : Option (Int64) :=
  (if p2 = 0 then some p1 else some ((27 * p1) + ((((p2 - 97) + 1) : Int32).toInt64)))
set_option maxHeartbeats 4000000 in
set_option maxRecDepth 20000 in
theorem f_Mod_appends {l : Launch} {ld : Nat} {M : gM} {L : gL} {Q : Option Value → gM → gL → gR → Prop} (hld : isLa ld) {p1 : Int64} {p2 : Int32}  {q : Int64} (h : F_Mod_appends p1 p2 = some q) (hQ : Q (some (.long q)) M L (rf ld)) : Tm l y_Mod_appends (0, 0, 447) 447 [.long p1, .int p2] M L (rf ld) Q := by
  refine Tm.of (by decide) (Nat.le_of_ble_eq_true rfl) ?_
  show Wp l y_Mod_appends (0, 0, 447) 447 0 0 0 [(0, .long p1), (2, .int p2)] [] M L (rf ld) Q
  unfold F_Mod_appends at h
  refine g_iload_n (pc1 := 1) d_Mod_appends_0 rfl 1 rfl ?_
  refine g_if_ne (pc1 := 4) (tgt := 8) d_Mod_appends_1 (by decide) rfl (fun c1 => ?_) (fun c1 => ?_)
  · replace h := itn h c1
    refine g_ldc2 (pc1 := 11) (v := 27) d_Mod_appends_8 rfl co_Mod_178 ?_
    refine g_lload_n (pc1 := 12) d_Mod_appends_11 rfl 0 rfl ?_
    refine g_lmul (pc1 := 13) d_Mod_appends_12 rfl ?_
    refine g_iload_n (pc1 := 14) d_Mod_appends_13 rfl 1 rfl ?_
    refine g_bipush (pc1 := 16) (v := 97) d_Mod_appends_14 rfl (by decide) ?_
    refine g_isub (pc1 := 17) d_Mod_appends_16 rfl ?_
    refine g_iconst (pc1 := 18) (v := 1) d_Mod_appends_17 rfl (by decide) ?_
    refine g_iadd (pc1 := 19) d_Mod_appends_18 rfl ?_
    refine g_i2l (pc1 := 20) d_Mod_appends_19 rfl ?_
    refine g_ladd (pc1 := 21) d_Mod_appends_20 rfl ?_
    refine g_lreturn rfl d_Mod_appends_21 rfl ?_
    cases h; exact hQ
  · replace h := itp h c1
    refine g_lload_n (pc1 := 5) d_Mod_appends_4 rfl 0 rfl ?_
    refine g_goto (tgt := 21) d_Mod_appends_5 (by decide) ?_
    refine g_lreturn rfl d_Mod_appends_21 rfl ?_
    cases h; exact hQ

def F_Mod_back (p1 : Int32) (M : gM) : Option (Int32 × gM) :=
  (if p1 < 0 then some ((-1), M) else (if p1 ≤ (M 401 2) then nmM (uM M 401 2 ((M 401 2) - p1)) (fun M3 => some ((M3 401 2), M3)) else some ((-1), M)))
set_option maxHeartbeats 4000000 in
set_option maxRecDepth 20000 in
theorem f_Mod_back {l : Launch} {ld : Nat} {M : gM} {L : gL} {Q : Option Value → gM → gL → gR → Prop} (hld : isLa ld) {p1 : Int32}  {q : Int32 × gM} (h : F_Mod_back p1 M = some q) (hQ : Q (some (.int q.1)) q.2 L (rf ld)) : Tm l y_Mod_back (0, 0, 447) 447 [.ref 401, .int p1] M L (rf ld) Q := by
  refine Tm.of (by decide) (Nat.le_of_ble_eq_true rfl) ?_
  show Wp l y_Mod_back (0, 0, 447) 447 0 0 0 [(0, .ref 401), (1, .int p1)] [] M L (rf ld) Q
  unfold F_Mod_back at h
  refine g_iload_n (pc1 := 1) d_Mod_back_0 rfl 1 rfl ?_
  refine g_if_lt (pc1 := 4) (tgt := 12) d_Mod_back_1 (by decide) rfl (fun c1 => ?_) (fun c1 => ?_)
  · replace h := itp h c1
    refine g_iconst (pc1 := 13) (v := (-1)) d_Mod_back_12 rfl (by decide) ?_
    refine g_ireturn (Or.inl rfl) d_Mod_back_13 rfl ?_
    cases h; exact hQ
  · replace h := itn h c1
    refine g_iload_n (pc1 := 5) d_Mod_back_4 rfl 1 rfl ?_
    refine g_aload_n (pc1 := 6) d_Mod_back_5 rfl 0 rfl ?_
    refine g_geti (pc1 := 9) d_Mod_back_6 rfl ⟨_, fo_Mod_169⟩ sh_401 (by decide) ?_
    refine g_icmp_le (pc1 := 12) (tgt := 14) d_Mod_back_9 (by decide) rfl (fun c2 => ?_) (fun c2 => ?_)
    · replace h := itp h c2
      refine g_aload_n (pc1 := 15) d_Mod_back_14 rfl 0 rfl ?_
      refine g_dup (pc1 := 16) d_Mod_back_15 rfl rfl ?_
      refine g_geti (pc1 := 19) d_Mod_back_16 rfl ⟨_, fo_Mod_169⟩ sh_401 (by decide) ?_
      refine g_iload_n (pc1 := 20) d_Mod_back_19 rfl 1 rfl ?_
      refine g_isub (pc1 := 21) d_Mod_back_20 rfl ?_
      refine g_puti (pc1 := 24) d_Mod_back_21 rfl fo_Mod_169 (po_12_2 _) sh_401 (by decide) ?_
      refine Wp.lM h (fun M3 h => ?_)
      refine g_aload_n (pc1 := 25) d_Mod_back_24 rfl 0 rfl ?_
      refine g_geti (pc1 := 28) d_Mod_back_25 rfl ⟨_, fo_Mod_169⟩ sh_401 (by decide) ?_
      refine g_ireturn (Or.inl rfl) d_Mod_back_28 rfl ?_
      cases h; exact hQ
    · replace h := itn h c2
      refine g_iconst (pc1 := 13) (v := (-1)) d_Mod_back_12 rfl (by decide) ?_
      refine g_ireturn (Or.inl rfl) d_Mod_back_13 rfl ?_
      cases h; exact hQ

def J_Mod_begins_95 (M : gM) : Option (gM) :=
  (if ((M 401 18) : Int32) < 0 ∨ 2 ≤ ((M 401 18) : Int32).toNatClampNeg then none else nmM (uM M 401 54 (M 423 ((M 401 18) : Int32).toNatClampNeg)) (fun M7 => some M7))
set_option maxHeartbeats 4000000 in
set_option maxRecDepth 20000 in
theorem j_Mod_begins_95 {l : Launch} {ld : Nat} {Q : Option Value → gM → gL → gR → Prop} (hld : isLa ld)   {q : gM} {M : gM} {L : gL} (hQ : Q none q L (rf ld))    (h : J_Mod_begins_95 M = some q) : Wp l y_Mod_begins (0, 0, 447) 447 0 0 95 [(0, .ref 401)] [] M L (rf ld) Q := by
  unfold J_Mod_begins_95 at h
  refine g_aload_n (pc1 := 96) d_Mod_begins_95 rfl 0 rfl ?_
  refine g_aload_n (pc1 := 97) d_Mod_begins_96 rfl 0 rfl ?_
  refine g_getr (pc1 := 100) d_Mod_begins_97 rfl ⟨_, fo_Mod_82⟩ sh_401 (by decide) (rf_401_35 ld) ?_
  refine g_aload_n (pc1 := 101) d_Mod_begins_100 rfl 0 rfl ?_
  refine g_geti (pc1 := 104) d_Mod_begins_101 rfl ⟨_, fo_Mod_236⟩ sh_401 (by decide) ?_
  obtain ⟨g6, h⟩ := gdn h
  refine g_iald (pc1 := 105) d_Mod_begins_104 rfl sh_423 (by decide) g6 ?_
  refine g_puti (pc1 := 108) d_Mod_begins_105 rfl fo_Mod_320 (po_12_54 _) sh_401 (by decide) ?_
  refine Wp.lM h (fun M7 h => ?_)
  refine g_return rfl d_Mod_begins_108 rfl ?_
  cases h; exact hQ
def B_Mod_begins_73  (K73 : Int32 → gM → Option (gM)) : Int32 → gM → Option (gM) := fun v1 M =>
  (if 4 ≤ v1 then J_Mod_begins_95 M else (if ((15 + v1) : Int32) < 0 ∨ 38 ≤ ((15 + v1) : Int32).toNatClampNeg then none else nmM (uM M 437 ((15 + v1) : Int32).toNatClampNeg (-2)) (fun M9 => nmI (v1 + 1) (fun x10 => K73 x10 M9))))
def H_Mod_begins_73  : Nat → Int32 → gM → Option (gM) := lpK (B_Mod_begins_73 ) (fun _ _ => none)
set_option maxHeartbeats 4000000 in
set_option maxRecDepth 20000 in
theorem h_Mod_begins_73 {l : Launch} {ld : Nat} {Q : Option Value → gM → gL → gR → Prop} (hld : isLa ld)   {q : gM} {L : gL} (hQ : Q none q L (rf ld))    : ∀ (f : Nat) (v1 : Int32) (M : gM), H_Mod_begins_73  f v1 M = some q → Wp l y_Mod_begins (0, 0, 447) 447 0 0 73 [(0, .ref 401), (1, .int v1)] [] M L (rf ld) Q := by
  intro f
  induction f with
  | zero => intro v1 M h; cases h
  | succ f hK73 =>
    intro v1 M h
    replace h : B_Mod_begins_73  (H_Mod_begins_73  f) v1 M = some q := h
    unfold B_Mod_begins_73 at h
    refine g_iload_n (pc1 := 74) d_Mod_begins_73 rfl 1 rfl ?_
    refine g_iconst (pc1 := 75) (v := 4) d_Mod_begins_74 rfl (by decide) ?_
    refine g_icmp_ge (pc1 := 78) (tgt := 95) d_Mod_begins_75 (by decide) rfl (fun c5 => ?_) (fun c5 => ?_)
    · replace h := itp h c5
      refine Wp.loc (lv' := [(0, .ref 401)]) [0] rfl ?_
      exact j_Mod_begins_95 hld  hQ  h
    · replace h := itn h c5
      refine g_aload_n (pc1 := 79) d_Mod_begins_78 rfl 0 rfl ?_
      refine g_getr (pc1 := 82) d_Mod_begins_79 rfl ⟨_, fo_Mod_125⟩ sh_401 (by decide) (rf_401_53 ld) ?_
      refine g_bipush (pc1 := 84) (v := 15) d_Mod_begins_82 rfl (by decide) ?_
      refine g_iload_n (pc1 := 85) d_Mod_begins_84 rfl 1 rfl ?_
      refine g_iadd (pc1 := 86) d_Mod_begins_85 rfl ?_
      refine g_bipush (pc1 := 88) (v := (-2)) d_Mod_begins_86 rfl (by decide) ?_
      obtain ⟨g8, h⟩ := gdn h
      refine g_iast (pc1 := 89) d_Mod_begins_88 rfl sh_437 (by decide) g8 ?_
      refine Wp.lM h (fun M9 h => ?_)
      obtain ⟨x10, ex10, h⟩ := ltI h
      refine g_iinc (pc1 := 92) (v := x10) (lv' := [(0, .ref 401), (1, .int x10)]) d_Mod_begins_89 rfl 1 rfl (by rw [ex10]; rfl) (by decide) [1, 0] rfl ?_
      refine g_goto (tgt := 73) d_Mod_begins_92 (by decide) ?_
      exact hK73 x10 M9 h
def J_Mod_begins_62 (M : gM) : Option (gM) :=
  nmM (uM M 437 11 (-2)) (fun M4 => H_Mod_begins_73 FU 0 M4)
set_option maxHeartbeats 4000000 in
set_option maxRecDepth 20000 in
theorem j_Mod_begins_62 {l : Launch} {ld : Nat} {Q : Option Value → gM → gL → gR → Prop} (hld : isLa ld)   {q : gM} {M : gM} {L : gL} (hQ : Q none q L (rf ld))    (h : J_Mod_begins_62 M = some q) : Wp l y_Mod_begins (0, 0, 447) 447 0 0 62 [(0, .ref 401)] [] M L (rf ld) Q := by
  unfold J_Mod_begins_62 at h
  refine g_aload_n (pc1 := 63) d_Mod_begins_62 rfl 0 rfl ?_
  refine g_getr (pc1 := 66) d_Mod_begins_63 rfl ⟨_, fo_Mod_125⟩ sh_401 (by decide) (rf_401_53 ld) ?_
  refine g_bipush (pc1 := 68) (v := 11) d_Mod_begins_66 rfl (by decide) ?_
  refine g_bipush (pc1 := 70) (v := (-2)) d_Mod_begins_68 rfl (by decide) ?_
  refine g_iast (pc1 := 71) d_Mod_begins_70 rfl sh_437 (by decide) (vin_lit (x := 11) (by decide)) ?_
  refine Wp.eqM (M' := uM M 437 11 (-2)) (congrArg (fun z => uM M 437 z (-2)) (by decide)) ?_
  refine Wp.lM h (fun M4 h => ?_)
  refine g_iconst (pc1 := 72) (v := 0) d_Mod_begins_71 rfl (by decide) ?_
  refine g_istore_n (pc1 := 73) (lv' := [(0, .ref 401), (1, .int 0)]) d_Mod_begins_72 rfl rfl (by decide) [1, 0] rfl ?_
  exact h_Mod_begins_73 hld  hQ  _ 0 M4 h
def B_Mod_begins_23  (K23 : Int32 → gM → Option (gM)) : Int32 → gM → Option (gM) := fun v1 M =>
  (if ((M 401 18) : Int32) < 0 ∨ 2 ≤ ((M 401 18) : Int32).toNatClampNeg then none else (if (M 411 ((M 401 18) : Int32).toNatClampNeg) ≤ v1 then J_Mod_begins_62 M else (if (((6 * (M 401 18)) + v1) : Int32) < 0 ∨ 12 ≤ (((6 * (M 401 18)) + v1) : Int32).toNatClampNeg then none else (if (v1 : Int32) < 0 ∨ 38 ≤ (v1 : Int32).toNatClampNeg then none else nmM (uM M 437 (v1 : Int32).toNatClampNeg (M 412 (((6 * (M 401 18)) + v1) : Int32).toNatClampNeg)) (fun M13 => nmI (v1 + 1) (fun x14 => K23 x14 M13))))))
def H_Mod_begins_23  : Nat → Int32 → gM → Option (gM) := lpK (B_Mod_begins_23 ) (fun _ _ => none)
set_option maxHeartbeats 4000000 in
set_option maxRecDepth 20000 in
theorem h_Mod_begins_23 {l : Launch} {ld : Nat} {Q : Option Value → gM → gL → gR → Prop} (hld : isLa ld)   {q : gM} {L : gL} (hQ : Q none q L (rf ld))    : ∀ (f : Nat) (v1 : Int32) (M : gM), H_Mod_begins_23  f v1 M = some q → Wp l y_Mod_begins (0, 0, 447) 447 0 0 23 [(0, .ref 401), (1, .int v1)] [] M L (rf ld) Q := by
  intro f
  induction f with
  | zero => intro v1 M h; cases h
  | succ f hK23 =>
    intro v1 M h
    replace h : B_Mod_begins_23  (H_Mod_begins_23  f) v1 M = some q := h
    unfold B_Mod_begins_23 at h
    refine g_iload_n (pc1 := 24) d_Mod_begins_23 rfl 1 rfl ?_
    refine g_aload_n (pc1 := 25) d_Mod_begins_24 rfl 0 rfl ?_
    refine g_getr (pc1 := 28) d_Mod_begins_25 rfl ⟨_, fo_Mod_46⟩ sh_401 (by decide) (rf_401_23 ld) ?_
    refine g_aload_n (pc1 := 29) d_Mod_begins_28 rfl 0 rfl ?_
    refine g_geti (pc1 := 32) d_Mod_begins_29 rfl ⟨_, fo_Mod_236⟩ sh_401 (by decide) ?_
    obtain ⟨g2, h⟩ := gdn h
    refine g_iald (pc1 := 33) d_Mod_begins_32 rfl sh_411 (by decide) g2 ?_
    refine g_icmp_ge (pc1 := 36) (tgt := 62) d_Mod_begins_33 (by decide) rfl (fun c3 => ?_) (fun c3 => ?_)
    · replace h := itp h c3
      refine Wp.loc (lv' := [(0, .ref 401)]) [0] rfl ?_
      exact j_Mod_begins_62 hld  hQ  h
    · replace h := itn h c3
      refine g_aload_n (pc1 := 37) d_Mod_begins_36 rfl 0 rfl ?_
      refine g_getr (pc1 := 40) d_Mod_begins_37 rfl ⟨_, fo_Mod_125⟩ sh_401 (by decide) (rf_401_53 ld) ?_
      refine g_iload_n (pc1 := 41) d_Mod_begins_40 rfl 1 rfl ?_
      refine g_aload_n (pc1 := 42) d_Mod_begins_41 rfl 0 rfl ?_
      refine g_getr (pc1 := 45) d_Mod_begins_42 rfl ⟨_, fo_Mod_49⟩ sh_401 (by decide) (rf_401_24 ld) ?_
      refine g_bipush (pc1 := 47) (v := 6) d_Mod_begins_45 rfl (by decide) ?_
      refine g_aload_n (pc1 := 48) d_Mod_begins_47 rfl 0 rfl ?_
      refine g_geti (pc1 := 51) d_Mod_begins_48 rfl ⟨_, fo_Mod_236⟩ sh_401 (by decide) ?_
      refine g_imul (pc1 := 52) d_Mod_begins_51 rfl ?_
      refine g_iload_n (pc1 := 53) d_Mod_begins_52 rfl 1 rfl ?_
      refine g_iadd (pc1 := 54) d_Mod_begins_53 rfl ?_
      obtain ⟨g11, h⟩ := gdn h
      refine g_iald (pc1 := 55) d_Mod_begins_54 rfl sh_412 (by decide) g11 ?_
      obtain ⟨g12, h⟩ := gdn h
      refine g_iast (pc1 := 56) d_Mod_begins_55 rfl sh_437 (by decide) g12 ?_
      refine Wp.lM h (fun M13 h => ?_)
      obtain ⟨x14, ex14, h⟩ := ltI h
      refine g_iinc (pc1 := 59) (v := x14) (lv' := [(0, .ref 401), (1, .int x14)]) d_Mod_begins_56 rfl 1 rfl (by rw [ex14]; rfl) (by decide) [1, 0] rfl ?_
      refine g_goto (tgt := 23) d_Mod_begins_59 (by decide) ?_
      exact hK23 x14 M13 h
def J_Mod_begins_21 (M : gM) : Option (gM) :=
  H_Mod_begins_23 FU 0 M
set_option maxHeartbeats 4000000 in
set_option maxRecDepth 20000 in
theorem j_Mod_begins_21 {l : Launch} {ld : Nat} {Q : Option Value → gM → gL → gR → Prop} (hld : isLa ld)   {q : gM} {M : gM} {L : gL} (hQ : Q none q L (rf ld))    (h : J_Mod_begins_21 M = some q) : Wp l y_Mod_begins (0, 0, 447) 447 0 0 21 [(0, .ref 401)] [] M L (rf ld) Q := by
  unfold J_Mod_begins_21 at h
  refine g_iconst (pc1 := 22) (v := 0) d_Mod_begins_21 rfl (by decide) ?_
  refine g_istore_n (pc1 := 23) (lv' := [(0, .ref 401), (1, .int 0)]) d_Mod_begins_22 rfl rfl (by decide) [1, 0] rfl ?_
  exact h_Mod_begins_23 hld  hQ  _ 0 M h
def B_Mod_begins_2  (K2 : Int32 → gM → Option (gM)) : Int32 → gM → Option (gM) := fun v1 M =>
  (if 38 ≤ v1 then J_Mod_begins_21 M else (if (v1 : Int32) < 0 ∨ 38 ≤ (v1 : Int32).toNatClampNeg then none else nmM (uM M 437 (v1 : Int32).toNatClampNeg 0) (fun M16 => nmI (v1 + 1) (fun x17 => K2 x17 M16))))
def H_Mod_begins_2  : Nat → Int32 → gM → Option (gM) := lpK (B_Mod_begins_2 ) (fun _ _ => none)
set_option maxHeartbeats 4000000 in
set_option maxRecDepth 20000 in
theorem h_Mod_begins_2 {l : Launch} {ld : Nat} {Q : Option Value → gM → gL → gR → Prop} (hld : isLa ld)   {q : gM} {L : gL} (hQ : Q none q L (rf ld))    : ∀ (f : Nat) (v1 : Int32) (M : gM), H_Mod_begins_2  f v1 M = some q → Wp l y_Mod_begins (0, 0, 447) 447 0 0 2 [(0, .ref 401), (1, .int v1)] [] M L (rf ld) Q := by
  intro f
  induction f with
  | zero => intro v1 M h; cases h
  | succ f hK2 =>
    intro v1 M h
    replace h : B_Mod_begins_2  (H_Mod_begins_2  f) v1 M = some q := h
    unfold B_Mod_begins_2 at h
    refine g_iload_n (pc1 := 3) d_Mod_begins_2 rfl 1 rfl ?_
    refine g_bipush (pc1 := 5) (v := 38) d_Mod_begins_3 rfl (by decide) ?_
    refine g_icmp_ge (pc1 := 8) (tgt := 21) d_Mod_begins_5 (by decide) rfl (fun c1 => ?_) (fun c1 => ?_)
    · replace h := itp h c1
      refine Wp.loc (lv' := [(0, .ref 401)]) [0] rfl ?_
      exact j_Mod_begins_21 hld  hQ  h
    · replace h := itn h c1
      refine g_aload_n (pc1 := 9) d_Mod_begins_8 rfl 0 rfl ?_
      refine g_getr (pc1 := 12) d_Mod_begins_9 rfl ⟨_, fo_Mod_125⟩ sh_401 (by decide) (rf_401_53 ld) ?_
      refine g_iload_n (pc1 := 13) d_Mod_begins_12 rfl 1 rfl ?_
      refine g_iconst (pc1 := 14) (v := 0) d_Mod_begins_13 rfl (by decide) ?_
      obtain ⟨g15, h⟩ := gdn h
      refine g_iast (pc1 := 15) d_Mod_begins_14 rfl sh_437 (by decide) g15 ?_
      refine Wp.lM h (fun M16 h => ?_)
      obtain ⟨x17, ex17, h⟩ := ltI h
      refine g_iinc (pc1 := 18) (v := x17) (lv' := [(0, .ref 401), (1, .int x17)]) d_Mod_begins_15 rfl 1 rfl (by rw [ex17]; rfl) (by decide) [1, 0] rfl ?_
      refine g_goto (tgt := 2) d_Mod_begins_18 (by decide) ?_
      exact hK2 x17 M16 h
def F_Mod_begins (M : gM) : Option (gM) :=
  H_Mod_begins_2 FU 0 M
set_option maxHeartbeats 4000000 in
set_option maxRecDepth 20000 in
theorem f_Mod_begins {l : Launch} {ld : Nat} {M : gM} {L : gL} {Q : Option Value → gM → gL → gR → Prop} (hld : isLa ld)   {q : gM} (h : F_Mod_begins M = some q) (hQ : Q none q L (rf ld)) : Tm l y_Mod_begins (0, 0, 447) 447 [.ref 401] M L (rf ld) Q := by
  refine Tm.of (by decide) (Nat.le_of_ble_eq_true rfl) ?_
  show Wp l y_Mod_begins (0, 0, 447) 447 0 0 0 [(0, .ref 401)] [] M L (rf ld) Q
  unfold F_Mod_begins at h
  refine g_iconst (pc1 := 1) (v := 0) d_Mod_begins_0 rfl (by decide) ?_
  refine g_istore_n (pc1 := 2) (lv' := [(0, .ref 401), (1, .int 0)]) d_Mod_begins_1 rfl rfl (by decide) [1, 0] rfl ?_
  exact h_Mod_begins_2 hld  hQ  _ 0 M h

def B_Mod_bits_4 (v0 : Int32) (K4 : Int32 → Int32 → Option (Int32)) : Int32 → Int32 → Option (Int32) := fun v1 v2 =>
  (if 6 ≤ v2 then some v1 else nmI (v1 + ((v0 >>> (v2 &&& 31)) &&& 1)) (fun x2 => nmI (v2 + 1) (fun x3 => K4 x2 x3)))
def H_Mod_bits_4 (v0 : Int32) : Nat → Int32 → Int32 → Option (Int32) := lpK (B_Mod_bits_4 v0) (fun _ _ => none)
set_option maxHeartbeats 4000000 in
set_option maxRecDepth 20000 in
theorem h_Mod_bits_4 {l : Launch} {ld : Nat} {Q : Option Value → gM → gL → gR → Prop} (hld : isLa ld)   {q : Int32} {M : gM} {L : gL} (hQ : Q (some (.int q)) M L (rf ld))  {v0 : Int32}  : ∀ (f : Nat) (v1 : Int32) (v2 : Int32), H_Mod_bits_4 v0 f v1 v2 = some q → Wp l y_Mod_bits (0, 0, 447) 447 0 0 4 [(0, .int v0), (1, .int v1), (2, .int v2)] [] M L (rf ld) Q := by
  intro f
  induction f with
  | zero => intro v1 v2 h; cases h
  | succ f hK4 =>
    intro v1 v2 h
    replace h : B_Mod_bits_4 v0 (H_Mod_bits_4 v0 f) v1 v2 = some q := h
    unfold B_Mod_bits_4 at h
    refine g_iload_n (pc1 := 5) d_Mod_bits_4 rfl 2 rfl ?_
    refine g_bipush (pc1 := 7) (v := 6) d_Mod_bits_5 rfl (by decide) ?_
    refine g_icmp_ge (pc1 := 10) (tgt := 24) d_Mod_bits_7 (by decide) rfl (fun c1 => ?_) (fun c1 => ?_)
    · replace h := itp h c1
      refine g_iload_n (pc1 := 25) d_Mod_bits_24 rfl 1 rfl ?_
      refine g_ireturn (Or.inl rfl) d_Mod_bits_25 rfl ?_
      cases h; exact hQ
    · replace h := itn h c1
      refine g_iload_n (pc1 := 11) d_Mod_bits_10 rfl 1 rfl ?_
      refine g_iload_n (pc1 := 12) d_Mod_bits_11 rfl 0 rfl ?_
      refine g_iload_n (pc1 := 13) d_Mod_bits_12 rfl 2 rfl ?_
      refine g_ishr (pc1 := 14) d_Mod_bits_13 rfl ?_
      refine g_iconst (pc1 := 15) (v := 1) d_Mod_bits_14 rfl (by decide) ?_
      refine g_iand (pc1 := 16) d_Mod_bits_15 rfl ?_
      refine g_iadd (pc1 := 17) d_Mod_bits_16 rfl ?_
      refine Wp.lI h (fun x2 h => ?_)
      refine g_istore_n (pc1 := 18) (lv' := [(0, .int v0), (1, .int x2), (2, .int v2)]) d_Mod_bits_17 rfl rfl (by decide) [1, 0, 2] rfl ?_
      obtain ⟨x3, ex3, h⟩ := ltI h
      refine g_iinc (pc1 := 21) (v := x3) (lv' := [(0, .int v0), (1, .int x2), (2, .int x3)]) d_Mod_bits_18 rfl 2 rfl (by rw [ex3]; rfl) (by decide) [1, 2, 0] rfl ?_
      refine g_goto (tgt := 4) d_Mod_bits_21 (by decide) ?_
      exact hK4 x2 x3 h
def F_Mod_bits (p1 : Int32) : Option (Int32) :=
  H_Mod_bits_4 p1 FU 0 0
set_option maxHeartbeats 4000000 in
set_option maxRecDepth 20000 in
theorem f_Mod_bits {l : Launch} {ld : Nat} {M : gM} {L : gL} {Q : Option Value → gM → gL → gR → Prop} (hld : isLa ld) {p1 : Int32}  {q : Int32} (h : F_Mod_bits p1 = some q) (hQ : Q (some (.int q)) M L (rf ld)) : Tm l y_Mod_bits (0, 0, 447) 447 [.int p1] M L (rf ld) Q := by
  refine Tm.of (by decide) (Nat.le_of_ble_eq_true rfl) ?_
  show Wp l y_Mod_bits (0, 0, 447) 447 0 0 0 [(0, .int p1)] [] M L (rf ld) Q
  unfold F_Mod_bits at h
  refine g_iconst (pc1 := 1) (v := 0) d_Mod_bits_0 rfl (by decide) ?_
  refine g_istore_n (pc1 := 2) (lv' := [(0, .int p1), (1, .int 0)]) d_Mod_bits_1 rfl rfl (by decide) [1, 0] rfl ?_
  refine g_iconst (pc1 := 3) (v := 0) d_Mod_bits_2 rfl (by decide) ?_
  refine g_istore_n (pc1 := 4) (lv' := [(0, .int p1), (1, .int 0), (2, .int 0)]) d_Mod_bits_3 rfl rfl (by decide) [1, 2, 0] rfl ?_
  exact h_Mod_bits_4 hld  hQ  _ 0 0 h

def F_Mod_byteAt (p1 : Int32) (M : gM) : Option (Int32) :=
  (if (M 401 4) ≤ p1 then some 0 else (if (p1 : Int32) < 0 ∨ 2000 ≤ (p1 : Int32).toNatClampNeg then none else some ((M 403 (p1 : Int32).toNatClampNeg) &&& 255)))
set_option maxHeartbeats 4000000 in
set_option maxRecDepth 20000 in
theorem f_Mod_byteAt {l : Launch} {ld : Nat} {M : gM} {L : gL} {Q : Option Value → gM → gL → gR → Prop} (hld : isLa ld) {p1 : Int32}  {q : Int32} (h : F_Mod_byteAt p1 M = some q) (hQ : Q (some (.int q)) M L (rf ld)) : Tm l y_Mod_byteAt (0, 0, 447) 447 [.ref 401, .int p1] M L (rf ld) Q := by
  refine Tm.of (by decide) (Nat.le_of_ble_eq_true rfl) ?_
  show Wp l y_Mod_byteAt (0, 0, 447) 447 0 0 0 [(0, .ref 401), (1, .int p1)] [] M L (rf ld) Q
  unfold F_Mod_byteAt at h
  refine g_iload_n (pc1 := 1) d_Mod_byteAt_0 rfl 1 rfl ?_
  refine g_aload_n (pc1 := 2) d_Mod_byteAt_1 rfl 0 rfl ?_
  refine g_geti (pc1 := 5) d_Mod_byteAt_2 rfl ⟨_, fo_Mod_175⟩ sh_401 (by decide) ?_
  refine g_icmp_ge (pc1 := 8) (tgt := 21) d_Mod_byteAt_5 (by decide) rfl (fun c1 => ?_) (fun c1 => ?_)
  · replace h := itp h c1
    refine g_iconst (pc1 := 22) (v := 0) d_Mod_byteAt_21 rfl (by decide) ?_
    refine g_ireturn (Or.inl rfl) d_Mod_byteAt_22 rfl ?_
    cases h; exact hQ
  · replace h := itn h c1
    refine g_aload_n (pc1 := 9) d_Mod_byteAt_8 rfl 0 rfl ?_
    refine g_getr (pc1 := 12) d_Mod_byteAt_9 rfl ⟨_, fo_Mod_17⟩ sh_401 (by decide) (rf_401_3 ld) ?_
    refine g_iload_n (pc1 := 13) d_Mod_byteAt_12 rfl 1 rfl ?_
    obtain ⟨g2, h⟩ := gdn h
    refine g_bald (pc1 := 14) d_Mod_byteAt_13 rfl sh_403 (by decide) g2 ?_
    refine g_sipush (pc1 := 17) (v := 255) d_Mod_byteAt_14 rfl (by decide) ?_
    refine g_iand (pc1 := 18) d_Mod_byteAt_17 rfl ?_
    refine g_goto (tgt := 22) d_Mod_byteAt_18 (by decide) ?_
    refine g_ireturn (Or.inl rfl) d_Mod_byteAt_22 rfl ?_
    cases h; exact hQ

def J_Mod_copies_26 (M : gM) : Option (gM) :=
  (if ((M 401 18) : Int32) < 0 ∨ 2 ≤ ((M 401 18) : Int32).toNatClampNeg then none else nmM (uM M 401 54 (M 423 ((M 401 18) : Int32).toNatClampNeg)) (fun M3 => some M3))
set_option maxHeartbeats 4000000 in
set_option maxRecDepth 20000 in
theorem j_Mod_copies_26 {l : Launch} {ld : Nat} {Q : Option Value → gM → gL → gR → Prop} (hld : isLa ld)   {q : gM} {M : gM} {L : gL} (hQ : Q none q L (rf ld))    (h : J_Mod_copies_26 M = some q) : Wp l y_Mod_copies (0, 0, 447) 447 0 0 26 [(0, .ref 401)] [] M L (rf ld) Q := by
  unfold J_Mod_copies_26 at h
  refine g_aload_n (pc1 := 27) d_Mod_copies_26 rfl 0 rfl ?_
  refine g_aload_n (pc1 := 28) d_Mod_copies_27 rfl 0 rfl ?_
  refine g_getr (pc1 := 31) d_Mod_copies_28 rfl ⟨_, fo_Mod_82⟩ sh_401 (by decide) (rf_401_35 ld) ?_
  refine g_aload_n (pc1 := 32) d_Mod_copies_31 rfl 0 rfl ?_
  refine g_geti (pc1 := 35) d_Mod_copies_32 rfl ⟨_, fo_Mod_236⟩ sh_401 (by decide) ?_
  obtain ⟨g2, h⟩ := gdn h
  refine g_iald (pc1 := 36) d_Mod_copies_35 rfl sh_423 (by decide) g2 ?_
  refine g_puti (pc1 := 39) d_Mod_copies_36 rfl fo_Mod_320 (po_12_54 _) sh_401 (by decide) ?_
  refine Wp.lM h (fun M3 h => ?_)
  refine g_return rfl d_Mod_copies_39 rfl ?_
  cases h; exact hQ
def B_Mod_copies_2  (K2 : Int32 → gM → Option (gM)) : Int32 → gM → Option (gM) := fun v1 M =>
  (if 38 ≤ v1 then J_Mod_copies_26 M else (if (v1 : Int32) < 0 ∨ 38 ≤ (v1 : Int32).toNatClampNeg then none else (if (v1 : Int32) < 0 ∨ 38 ≤ (v1 : Int32).toNatClampNeg then none else nmM (uM M 437 (v1 : Int32).toNatClampNeg (M 436 (v1 : Int32).toNatClampNeg)) (fun M6 => nmI (v1 + 1) (fun x7 => K2 x7 M6)))))
def H_Mod_copies_2  : Nat → Int32 → gM → Option (gM) := lpK (B_Mod_copies_2 ) (fun _ _ => none)
set_option maxHeartbeats 4000000 in
set_option maxRecDepth 20000 in
theorem h_Mod_copies_2 {l : Launch} {ld : Nat} {Q : Option Value → gM → gL → gR → Prop} (hld : isLa ld)   {q : gM} {L : gL} (hQ : Q none q L (rf ld))    : ∀ (f : Nat) (v1 : Int32) (M : gM), H_Mod_copies_2  f v1 M = some q → Wp l y_Mod_copies (0, 0, 447) 447 0 0 2 [(0, .ref 401), (1, .int v1)] [] M L (rf ld) Q := by
  intro f
  induction f with
  | zero => intro v1 M h; cases h
  | succ f hK2 =>
    intro v1 M h
    replace h : B_Mod_copies_2  (H_Mod_copies_2  f) v1 M = some q := h
    unfold B_Mod_copies_2 at h
    refine g_iload_n (pc1 := 3) d_Mod_copies_2 rfl 1 rfl ?_
    refine g_bipush (pc1 := 5) (v := 38) d_Mod_copies_3 rfl (by decide) ?_
    refine g_icmp_ge (pc1 := 8) (tgt := 26) d_Mod_copies_5 (by decide) rfl (fun c1 => ?_) (fun c1 => ?_)
    · replace h := itp h c1
      refine Wp.loc (lv' := [(0, .ref 401)]) [0] rfl ?_
      exact j_Mod_copies_26 hld  hQ  h
    · replace h := itn h c1
      refine g_aload_n (pc1 := 9) d_Mod_copies_8 rfl 0 rfl ?_
      refine g_getr (pc1 := 12) d_Mod_copies_9 rfl ⟨_, fo_Mod_125⟩ sh_401 (by decide) (rf_401_53 ld) ?_
      refine g_iload_n (pc1 := 13) d_Mod_copies_12 rfl 1 rfl ?_
      refine g_aload_n (pc1 := 14) d_Mod_copies_13 rfl 0 rfl ?_
      refine g_getr (pc1 := 17) d_Mod_copies_14 rfl ⟨_, fo_Mod_122⟩ sh_401 (by decide) (rf_401_52 ld) ?_
      refine g_iload_n (pc1 := 18) d_Mod_copies_17 rfl 1 rfl ?_
      obtain ⟨g4, h⟩ := gdn h
      refine g_iald (pc1 := 19) d_Mod_copies_18 rfl sh_436 (by decide) g4 ?_
      obtain ⟨g5, h⟩ := gdn h
      refine g_iast (pc1 := 20) d_Mod_copies_19 rfl sh_437 (by decide) g5 ?_
      refine Wp.lM h (fun M6 h => ?_)
      obtain ⟨x7, ex7, h⟩ := ltI h
      refine g_iinc (pc1 := 23) (v := x7) (lv' := [(0, .ref 401), (1, .int x7)]) d_Mod_copies_20 rfl 1 rfl (by rw [ex7]; rfl) (by decide) [1, 0] rfl ?_
      refine g_goto (tgt := 2) d_Mod_copies_23 (by decide) ?_
      exact hK2 x7 M6 h
def F_Mod_copies (M : gM) : Option (gM) :=
  H_Mod_copies_2 FU 0 M
set_option maxHeartbeats 4000000 in
set_option maxRecDepth 20000 in
theorem f_Mod_copies {l : Launch} {ld : Nat} {M : gM} {L : gL} {Q : Option Value → gM → gL → gR → Prop} (hld : isLa ld)   {q : gM} (h : F_Mod_copies M = some q) (hQ : Q none q L (rf ld)) : Tm l y_Mod_copies (0, 0, 447) 447 [.ref 401] M L (rf ld) Q := by
  refine Tm.of (by decide) (Nat.le_of_ble_eq_true rfl) ?_
  show Wp l y_Mod_copies (0, 0, 447) 447 0 0 0 [(0, .ref 401)] [] M L (rf ld) Q
  unfold F_Mod_copies at h
  refine g_iconst (pc1 := 1) (v := 0) d_Mod_copies_0 rfl (by decide) ?_
  refine g_istore_n (pc1 := 2) (lv' := [(0, .ref 401), (1, .int 0)]) d_Mod_copies_1 rfl rfl (by decide) [1, 0] rfl ?_
  exact h_Mod_copies_2 hld  hQ  _ 0 M h

def J_Mod_count_190 (s0 : Int32) (s1 : Int32) (M : gM) : Option (Int32) :=
  (if (M 445 2) = 0 then some ((s0 + s1) + 0) else some ((s0 + s1) + 1))
set_option maxHeartbeats 4000000 in
set_option maxRecDepth 20000 in
theorem j_Mod_count_190 {l : Launch} {ld : Nat} {Q : Option Value → gM → gL → gR → Prop} (hld : isLa ld)   {q : Int32} {M : gM} {L : gL} (hQ : Q (some (.int q)) M L (rf ld))  {s0 : Int32} {s1 : Int32}  (h : J_Mod_count_190 s0 s1 M = some q) : Wp l y_Mod_count (0, 0, 447) 447 0 0 190 [(0, .ref 401)] [.int s1, .int s0] M L (rf ld) Q := by
  unfold J_Mod_count_190 at h
  refine g_iadd (pc1 := 191) d_Mod_count_190 rfl ?_
  refine g_aload_n (pc1 := 192) d_Mod_count_191 rfl 0 rfl ?_
  refine g_getr (pc1 := 195) d_Mod_count_192 rfl ⟨_, fo_Mod_149⟩ sh_401 (by decide) (rf_401_69 ld) ?_
  refine g_iconst (pc1 := 196) (v := 2) d_Mod_count_195 rfl (by decide) ?_
  refine g_zald (pc1 := 197) d_Mod_count_196 rfl sh_445 (by decide) (vin_lit (x := 2) (by decide)) ?_
  refine Wp.vali (y := (M 445 2)) (congrArg (M 445) (by decide)) ?_
  refine g_if_eq (pc1 := 200) (tgt := 204) d_Mod_count_197 (by decide) rfl (fun c26 => ?_) (fun c26 => ?_)
  · replace h := itp h c26
    refine g_iconst (pc1 := 205) (v := 0) d_Mod_count_204 rfl (by decide) ?_
    refine g_iadd (pc1 := 206) d_Mod_count_205 rfl ?_
    refine g_ireturn (Or.inl rfl) d_Mod_count_206 rfl ?_
    cases h; exact hQ
  · replace h := itn h c26
    refine g_iconst (pc1 := 201) (v := 1) d_Mod_count_200 rfl (by decide) ?_
    refine g_goto (tgt := 205) d_Mod_count_201 (by decide) ?_
    refine g_iadd (pc1 := 206) d_Mod_count_205 rfl ?_
    refine g_ireturn (Or.inl rfl) d_Mod_count_206 rfl ?_
    cases h; exact hQ
def J_Mod_count_176 (s0 : Int32) (M : gM) : Option (Int32) :=
  (if (M 445 1) = 0 then J_Mod_count_190 s0 0 M else J_Mod_count_190 s0 1 M)
set_option maxHeartbeats 4000000 in
set_option maxRecDepth 20000 in
theorem j_Mod_count_176 {l : Launch} {ld : Nat} {Q : Option Value → gM → gL → gR → Prop} (hld : isLa ld)   {q : Int32} {M : gM} {L : gL} (hQ : Q (some (.int q)) M L (rf ld))  {s0 : Int32}  (h : J_Mod_count_176 s0 M = some q) : Wp l y_Mod_count (0, 0, 447) 447 0 0 176 [(0, .ref 401)] [.int s0] M L (rf ld) Q := by
  unfold J_Mod_count_176 at h
  refine g_aload_n (pc1 := 177) d_Mod_count_176 rfl 0 rfl ?_
  refine g_getr (pc1 := 180) d_Mod_count_177 rfl ⟨_, fo_Mod_149⟩ sh_401 (by decide) (rf_401_69 ld) ?_
  refine g_iconst (pc1 := 181) (v := 1) d_Mod_count_180 rfl (by decide) ?_
  refine g_zald (pc1 := 182) d_Mod_count_181 rfl sh_445 (by decide) (vin_lit (x := 1) (by decide)) ?_
  refine Wp.vali (y := (M 445 1)) (congrArg (M 445) (by decide)) ?_
  refine g_if_eq (pc1 := 185) (tgt := 189) d_Mod_count_182 (by decide) rfl (fun c25 => ?_) (fun c25 => ?_)
  · replace h := itp h c25
    refine g_iconst (pc1 := 190) (v := 0) d_Mod_count_189 rfl (by decide) ?_
    exact j_Mod_count_190 hld  hQ  h
  · replace h := itn h c25
    refine g_iconst (pc1 := 186) (v := 1) d_Mod_count_185 rfl (by decide) ?_
    refine g_goto (tgt := 190) d_Mod_count_186 (by decide) ?_
    exact j_Mod_count_190 hld  hQ  h
def F_Mod_count (p1 : Int32) (M : gM) : Option (Int32) :=
  (if p1 = 0 then (if ((M 401 18) : Int32) < 0 ∨ 2 ≤ ((M 401 18) : Int32).toNatClampNeg then none else some (M 411 ((M 401 18) : Int32).toNatClampNeg)) else (if p1 = 1 then (if ((M 401 18) : Int32) < 0 ∨ 2 ≤ ((M 401 18) : Int32).toNatClampNeg then none else some (M 415 ((M 401 18) : Int32).toNatClampNeg)) else (if p1 = 2 then (if ((M 401 18) : Int32) < 0 ∨ 2 ≤ ((M 401 18) : Int32).toNatClampNeg then none else some (M 418 ((M 401 18) : Int32).toNatClampNeg)) else (if p1 = 3 then (if ((M 401 18) : Int32) < 0 ∨ 2 ≤ ((M 401 18) : Int32).toNatClampNeg then none else some (M 420 ((M 401 18) : Int32).toNatClampNeg)) else (if p1 = 4 then (if ((31 + p1) : Int32) < 0 ∨ 38 ≤ ((31 + p1) : Int32).toNatClampNeg then none else some (M 436 ((31 + p1) : Int32).toNatClampNeg)) else (if p1 = 5 then (if ((31 + p1) : Int32) < 0 ∨ 38 ≤ ((31 + p1) : Int32).toNatClampNeg then none else some (M 436 ((31 + p1) : Int32).toNatClampNeg)) else (if p1 = 6 then some (M 436 11) else (if p1 = 7 then (if ((5 + p1) : Int32) < 0 ∨ 38 ≤ ((5 + p1) : Int32).toNatClampNeg then none else some (M 436 ((5 + p1) : Int32).toNatClampNeg)) else (if p1 = 8 then (if ((5 + p1) : Int32) < 0 ∨ 38 ≤ ((5 + p1) : Int32).toNatClampNeg then none else some (M 436 ((5 + p1) : Int32).toNatClampNeg)) else (if p1 = 9 then (if ((5 + p1) : Int32) < 0 ∨ 38 ≤ ((5 + p1) : Int32).toNatClampNeg then none else some (M 436 ((5 + p1) : Int32).toNatClampNeg)) else (if p1 = 10 then some (M 401 2) else (if p1 = 11 then some (M 401 57) else (if p1 = 12 then some (M 401 64) else (if p1 = 13 then (if (M 445 0) = 0 then J_Mod_count_176 0 M else J_Mod_count_176 1 M) else (if p1 = 14 then some (M 436 37) else (if p1 = 15 then some ((((M 436 31) + (M 436 32)) + (M 436 33)) + (M 436 34)) else some (-1)))))))))))))))))
set_option maxHeartbeats 4000000 in
set_option maxRecDepth 20000 in
theorem f_Mod_count {l : Launch} {ld : Nat} {M : gM} {L : gL} {Q : Option Value → gM → gL → gR → Prop} (hld : isLa ld) {p1 : Int32}  {q : Int32} (h : F_Mod_count p1 M = some q) (hQ : Q (some (.int q)) M L (rf ld)) : Tm l y_Mod_count (0, 0, 447) 447 [.ref 401, .int p1] M L (rf ld) Q := by
  refine Tm.of (by decide) (Nat.le_of_ble_eq_true rfl) ?_
  show Wp l y_Mod_count (0, 0, 447) 447 0 0 0 [(0, .ref 401), (1, .int p1)] [] M L (rf ld) Q
  unfold F_Mod_count at h
  refine g_iload_n (pc1 := 1) d_Mod_count_0 rfl 1 rfl ?_
  by_cases c1 : p1 = 0
  · replace h := itp h c1
    refine g_tabK (tgt := 80) (off := 79) d_Mod_count_1 c1 (by decide) (by decide) (by decide) (by decide) ?_
    refine g_aload_n (pc1 := 81) d_Mod_count_80 rfl 0 rfl ?_
    refine g_getr (pc1 := 84) d_Mod_count_81 rfl ⟨_, fo_Mod_46⟩ sh_401 (by decide) (rf_401_23 ld) ?_
    refine g_aload_n (pc1 := 85) d_Mod_count_84 rfl 0 rfl ?_
    refine g_geti (pc1 := 88) d_Mod_count_85 rfl ⟨_, fo_Mod_236⟩ sh_401 (by decide) ?_
    obtain ⟨g2, h⟩ := gdn h
    refine g_iald (pc1 := 89) d_Mod_count_88 rfl sh_411 (by decide) g2 ?_
    refine g_ireturn (Or.inl rfl) d_Mod_count_89 rfl ?_
    cases h; exact hQ
  replace h := itn h c1
  by_cases c3 : p1 = 1
  · replace h := itp h c3
    refine g_tabK (tgt := 90) (off := 89) d_Mod_count_1 c3 (by decide) (by decide) (by decide) (by decide) ?_
    refine g_aload_n (pc1 := 91) d_Mod_count_90 rfl 0 rfl ?_
    refine g_getr (pc1 := 94) d_Mod_count_91 rfl ⟨_, fo_Mod_58⟩ sh_401 (by decide) (rf_401_27 ld) ?_
    refine g_aload_n (pc1 := 95) d_Mod_count_94 rfl 0 rfl ?_
    refine g_geti (pc1 := 98) d_Mod_count_95 rfl ⟨_, fo_Mod_236⟩ sh_401 (by decide) ?_
    obtain ⟨g4, h⟩ := gdn h
    refine g_iald (pc1 := 99) d_Mod_count_98 rfl sh_415 (by decide) g4 ?_
    refine g_ireturn (Or.inl rfl) d_Mod_count_99 rfl ?_
    cases h; exact hQ
  replace h := itn h c3
  by_cases c5 : p1 = 2
  · replace h := itp h c5
    refine g_tabK (tgt := 100) (off := 99) d_Mod_count_1 c5 (by decide) (by decide) (by decide) (by decide) ?_
    refine g_aload_n (pc1 := 101) d_Mod_count_100 rfl 0 rfl ?_
    refine g_getr (pc1 := 104) d_Mod_count_101 rfl ⟨_, fo_Mod_67⟩ sh_401 (by decide) (rf_401_30 ld) ?_
    refine g_aload_n (pc1 := 105) d_Mod_count_104 rfl 0 rfl ?_
    refine g_geti (pc1 := 108) d_Mod_count_105 rfl ⟨_, fo_Mod_236⟩ sh_401 (by decide) ?_
    obtain ⟨g6, h⟩ := gdn h
    refine g_iald (pc1 := 109) d_Mod_count_108 rfl sh_418 (by decide) g6 ?_
    refine g_ireturn (Or.inl rfl) d_Mod_count_109 rfl ?_
    cases h; exact hQ
  replace h := itn h c5
  by_cases c7 : p1 = 3
  · replace h := itp h c7
    refine g_tabK (tgt := 110) (off := 109) d_Mod_count_1 c7 (by decide) (by decide) (by decide) (by decide) ?_
    refine g_aload_n (pc1 := 111) d_Mod_count_110 rfl 0 rfl ?_
    refine g_getr (pc1 := 114) d_Mod_count_111 rfl ⟨_, fo_Mod_73⟩ sh_401 (by decide) (rf_401_32 ld) ?_
    refine g_aload_n (pc1 := 115) d_Mod_count_114 rfl 0 rfl ?_
    refine g_geti (pc1 := 118) d_Mod_count_115 rfl ⟨_, fo_Mod_236⟩ sh_401 (by decide) ?_
    obtain ⟨g8, h⟩ := gdn h
    refine g_iald (pc1 := 119) d_Mod_count_118 rfl sh_420 (by decide) g8 ?_
    refine g_ireturn (Or.inl rfl) d_Mod_count_119 rfl ?_
    cases h; exact hQ
  replace h := itn h c7
  by_cases c9 : p1 = 4
  · replace h := itp h c9
    refine g_tabK (tgt := 120) (off := 119) d_Mod_count_1 c9 (by decide) (by decide) (by decide) (by decide) ?_
    refine g_aload_n (pc1 := 121) d_Mod_count_120 rfl 0 rfl ?_
    refine g_getr (pc1 := 124) d_Mod_count_121 rfl ⟨_, fo_Mod_122⟩ sh_401 (by decide) (rf_401_52 ld) ?_
    refine g_bipush (pc1 := 126) (v := 31) d_Mod_count_124 rfl (by decide) ?_
    refine g_iload_n (pc1 := 127) d_Mod_count_126 rfl 1 rfl ?_
    refine g_iadd (pc1 := 128) d_Mod_count_127 rfl ?_
    obtain ⟨g10, h⟩ := gdn h
    refine g_iald (pc1 := 129) d_Mod_count_128 rfl sh_436 (by decide) g10 ?_
    refine g_ireturn (Or.inl rfl) d_Mod_count_129 rfl ?_
    cases h; exact hQ
  replace h := itn h c9
  by_cases c11 : p1 = 5
  · replace h := itp h c11
    refine g_tabK (tgt := 120) (off := 119) d_Mod_count_1 c11 (by decide) (by decide) (by decide) (by decide) ?_
    refine g_aload_n (pc1 := 121) d_Mod_count_120 rfl 0 rfl ?_
    refine g_getr (pc1 := 124) d_Mod_count_121 rfl ⟨_, fo_Mod_122⟩ sh_401 (by decide) (rf_401_52 ld) ?_
    refine g_bipush (pc1 := 126) (v := 31) d_Mod_count_124 rfl (by decide) ?_
    refine g_iload_n (pc1 := 127) d_Mod_count_126 rfl 1 rfl ?_
    refine g_iadd (pc1 := 128) d_Mod_count_127 rfl ?_
    obtain ⟨g12, h⟩ := gdn h
    refine g_iald (pc1 := 129) d_Mod_count_128 rfl sh_436 (by decide) g12 ?_
    refine g_ireturn (Or.inl rfl) d_Mod_count_129 rfl ?_
    cases h; exact hQ
  replace h := itn h c11
  by_cases c13 : p1 = 6
  · replace h := itp h c13
    refine g_tabK (tgt := 130) (off := 129) d_Mod_count_1 c13 (by decide) (by decide) (by decide) (by decide) ?_
    refine g_aload_n (pc1 := 131) d_Mod_count_130 rfl 0 rfl ?_
    refine g_getr (pc1 := 134) d_Mod_count_131 rfl ⟨_, fo_Mod_122⟩ sh_401 (by decide) (rf_401_52 ld) ?_
    refine g_bipush (pc1 := 136) (v := 11) d_Mod_count_134 rfl (by decide) ?_
    refine g_iald (pc1 := 137) d_Mod_count_136 rfl sh_436 (by decide) (vin_lit (x := 11) (by decide)) ?_
    refine Wp.vali (y := (M 436 11)) (congrArg (M 436) (by decide)) ?_
    refine g_ireturn (Or.inl rfl) d_Mod_count_137 rfl ?_
    cases h; exact hQ
  replace h := itn h c13
  by_cases c14 : p1 = 7
  · replace h := itp h c14
    refine g_tabK (tgt := 138) (off := 137) d_Mod_count_1 c14 (by decide) (by decide) (by decide) (by decide) ?_
    refine g_aload_n (pc1 := 139) d_Mod_count_138 rfl 0 rfl ?_
    refine g_getr (pc1 := 142) d_Mod_count_139 rfl ⟨_, fo_Mod_122⟩ sh_401 (by decide) (rf_401_52 ld) ?_
    refine g_iconst (pc1 := 143) (v := 5) d_Mod_count_142 rfl (by decide) ?_
    refine g_iload_n (pc1 := 144) d_Mod_count_143 rfl 1 rfl ?_
    refine g_iadd (pc1 := 145) d_Mod_count_144 rfl ?_
    obtain ⟨g15, h⟩ := gdn h
    refine g_iald (pc1 := 146) d_Mod_count_145 rfl sh_436 (by decide) g15 ?_
    refine g_ireturn (Or.inl rfl) d_Mod_count_146 rfl ?_
    cases h; exact hQ
  replace h := itn h c14
  by_cases c16 : p1 = 8
  · replace h := itp h c16
    refine g_tabK (tgt := 138) (off := 137) d_Mod_count_1 c16 (by decide) (by decide) (by decide) (by decide) ?_
    refine g_aload_n (pc1 := 139) d_Mod_count_138 rfl 0 rfl ?_
    refine g_getr (pc1 := 142) d_Mod_count_139 rfl ⟨_, fo_Mod_122⟩ sh_401 (by decide) (rf_401_52 ld) ?_
    refine g_iconst (pc1 := 143) (v := 5) d_Mod_count_142 rfl (by decide) ?_
    refine g_iload_n (pc1 := 144) d_Mod_count_143 rfl 1 rfl ?_
    refine g_iadd (pc1 := 145) d_Mod_count_144 rfl ?_
    obtain ⟨g17, h⟩ := gdn h
    refine g_iald (pc1 := 146) d_Mod_count_145 rfl sh_436 (by decide) g17 ?_
    refine g_ireturn (Or.inl rfl) d_Mod_count_146 rfl ?_
    cases h; exact hQ
  replace h := itn h c16
  by_cases c18 : p1 = 9
  · replace h := itp h c18
    refine g_tabK (tgt := 138) (off := 137) d_Mod_count_1 c18 (by decide) (by decide) (by decide) (by decide) ?_
    refine g_aload_n (pc1 := 139) d_Mod_count_138 rfl 0 rfl ?_
    refine g_getr (pc1 := 142) d_Mod_count_139 rfl ⟨_, fo_Mod_122⟩ sh_401 (by decide) (rf_401_52 ld) ?_
    refine g_iconst (pc1 := 143) (v := 5) d_Mod_count_142 rfl (by decide) ?_
    refine g_iload_n (pc1 := 144) d_Mod_count_143 rfl 1 rfl ?_
    refine g_iadd (pc1 := 145) d_Mod_count_144 rfl ?_
    obtain ⟨g19, h⟩ := gdn h
    refine g_iald (pc1 := 146) d_Mod_count_145 rfl sh_436 (by decide) g19 ?_
    refine g_ireturn (Or.inl rfl) d_Mod_count_146 rfl ?_
    cases h; exact hQ
  replace h := itn h c18
  by_cases c20 : p1 = 10
  · replace h := itp h c20
    refine g_tabK (tgt := 147) (off := 146) d_Mod_count_1 c20 (by decide) (by decide) (by decide) (by decide) ?_
    refine g_aload_n (pc1 := 148) d_Mod_count_147 rfl 0 rfl ?_
    refine g_geti (pc1 := 151) d_Mod_count_148 rfl ⟨_, fo_Mod_169⟩ sh_401 (by decide) ?_
    refine g_ireturn (Or.inl rfl) d_Mod_count_151 rfl ?_
    cases h; exact hQ
  replace h := itn h c20
  by_cases c21 : p1 = 11
  · replace h := itp h c21
    refine g_tabK (tgt := 152) (off := 151) d_Mod_count_1 c21 (by decide) (by decide) (by decide) (by decide) ?_
    refine g_aload_n (pc1 := 153) d_Mod_count_152 rfl 0 rfl ?_
    refine g_geti (pc1 := 156) d_Mod_count_153 rfl ⟨_, fo_Mod_254⟩ sh_401 (by decide) ?_
    refine g_ireturn (Or.inl rfl) d_Mod_count_156 rfl ?_
    cases h; exact hQ
  replace h := itn h c21
  by_cases c22 : p1 = 12
  · replace h := itp h c22
    refine g_tabK (tgt := 157) (off := 156) d_Mod_count_1 c22 (by decide) (by decide) (by decide) (by decide) ?_
    refine g_aload_n (pc1 := 158) d_Mod_count_157 rfl 0 rfl ?_
    refine g_geti (pc1 := 161) d_Mod_count_158 rfl ⟨_, fo_Mod_257⟩ sh_401 (by decide) ?_
    refine g_ireturn (Or.inl rfl) d_Mod_count_161 rfl ?_
    cases h; exact hQ
  replace h := itn h c22
  by_cases c23 : p1 = 13
  · replace h := itp h c23
    refine g_tabK (tgt := 162) (off := 161) d_Mod_count_1 c23 (by decide) (by decide) (by decide) (by decide) ?_
    refine g_aload_n (pc1 := 163) d_Mod_count_162 rfl 0 rfl ?_
    refine g_getr (pc1 := 166) d_Mod_count_163 rfl ⟨_, fo_Mod_149⟩ sh_401 (by decide) (rf_401_69 ld) ?_
    refine g_iconst (pc1 := 167) (v := 0) d_Mod_count_166 rfl (by decide) ?_
    refine g_zald (pc1 := 168) d_Mod_count_167 rfl sh_445 (by decide) (vin_lit (x := 0) (by decide)) ?_
    refine Wp.vali (y := (M 445 0)) (congrArg (M 445) (by decide)) ?_
    refine g_if_eq (pc1 := 171) (tgt := 175) d_Mod_count_168 (by decide) rfl (fun c24 => ?_) (fun c24 => ?_)
    · replace h := itp h c24
      refine g_iconst (pc1 := 176) (v := 0) d_Mod_count_175 rfl (by decide) ?_
      refine Wp.loc (lv' := [(0, .ref 401)]) [0] rfl ?_
      exact j_Mod_count_176 hld  hQ  h
    · replace h := itn h c24
      refine g_iconst (pc1 := 172) (v := 1) d_Mod_count_171 rfl (by decide) ?_
      refine g_goto (tgt := 176) d_Mod_count_172 (by decide) ?_
      refine Wp.loc (lv' := [(0, .ref 401)]) [0] rfl ?_
      exact j_Mod_count_176 hld  hQ  h
  replace h := itn h c23
  by_cases c27 : p1 = 14
  · replace h := itp h c27
    refine g_tabK (tgt := 207) (off := 206) d_Mod_count_1 c27 (by decide) (by decide) (by decide) (by decide) ?_
    refine g_aload_n (pc1 := 208) d_Mod_count_207 rfl 0 rfl ?_
    refine g_getr (pc1 := 211) d_Mod_count_208 rfl ⟨_, fo_Mod_122⟩ sh_401 (by decide) (rf_401_52 ld) ?_
    refine g_bipush (pc1 := 213) (v := 37) d_Mod_count_211 rfl (by decide) ?_
    refine g_iald (pc1 := 214) d_Mod_count_213 rfl sh_436 (by decide) (vin_lit (x := 37) (by decide)) ?_
    refine Wp.vali (y := (M 436 37)) (congrArg (M 436) (by decide)) ?_
    refine g_ireturn (Or.inl rfl) d_Mod_count_214 rfl ?_
    cases h; exact hQ
  replace h := itn h c27
  by_cases c28 : p1 = 15
  · replace h := itp h c28
    refine g_tabK (tgt := 215) (off := 214) d_Mod_count_1 c28 (by decide) (by decide) (by decide) (by decide) ?_
    refine g_aload_n (pc1 := 216) d_Mod_count_215 rfl 0 rfl ?_
    refine g_getr (pc1 := 219) d_Mod_count_216 rfl ⟨_, fo_Mod_122⟩ sh_401 (by decide) (rf_401_52 ld) ?_
    refine g_bipush (pc1 := 221) (v := 31) d_Mod_count_219 rfl (by decide) ?_
    refine g_iald (pc1 := 222) d_Mod_count_221 rfl sh_436 (by decide) (vin_lit (x := 31) (by decide)) ?_
    refine Wp.vali (y := (M 436 31)) (congrArg (M 436) (by decide)) ?_
    refine g_aload_n (pc1 := 223) d_Mod_count_222 rfl 0 rfl ?_
    refine g_getr (pc1 := 226) d_Mod_count_223 rfl ⟨_, fo_Mod_122⟩ sh_401 (by decide) (rf_401_52 ld) ?_
    refine g_bipush (pc1 := 228) (v := 32) d_Mod_count_226 rfl (by decide) ?_
    refine g_iald (pc1 := 229) d_Mod_count_228 rfl sh_436 (by decide) (vin_lit (x := 32) (by decide)) ?_
    refine Wp.vali (y := (M 436 32)) (congrArg (M 436) (by decide)) ?_
    refine g_iadd (pc1 := 230) d_Mod_count_229 rfl ?_
    refine g_aload_n (pc1 := 231) d_Mod_count_230 rfl 0 rfl ?_
    refine g_getr (pc1 := 234) d_Mod_count_231 rfl ⟨_, fo_Mod_122⟩ sh_401 (by decide) (rf_401_52 ld) ?_
    refine g_bipush (pc1 := 236) (v := 33) d_Mod_count_234 rfl (by decide) ?_
    refine g_iald (pc1 := 237) d_Mod_count_236 rfl sh_436 (by decide) (vin_lit (x := 33) (by decide)) ?_
    refine Wp.vali (y := (M 436 33)) (congrArg (M 436) (by decide)) ?_
    refine g_iadd (pc1 := 238) d_Mod_count_237 rfl ?_
    refine g_aload_n (pc1 := 239) d_Mod_count_238 rfl 0 rfl ?_
    refine g_getr (pc1 := 242) d_Mod_count_239 rfl ⟨_, fo_Mod_122⟩ sh_401 (by decide) (rf_401_52 ld) ?_
    refine g_bipush (pc1 := 244) (v := 34) d_Mod_count_242 rfl (by decide) ?_
    refine g_iald (pc1 := 245) d_Mod_count_244 rfl sh_436 (by decide) (vin_lit (x := 34) (by decide)) ?_
    refine Wp.vali (y := (M 436 34)) (congrArg (M 436) (by decide)) ?_
    refine g_iadd (pc1 := 246) d_Mod_count_245 rfl ?_
    refine g_ireturn (Or.inl rfl) d_Mod_count_246 rfl ?_
    cases h; exact hQ
  replace h := itn h c28
  refine g_tabOut (tgt := 247) d_Mod_count_1 (by
    have nc1 := neT (a := 0) c1 (by decide)
    have nc3 := neT (a := 1) c3 (by decide)
    have nc5 := neT (a := 2) c5 (by decide)
    have nc7 := neT (a := 3) c7 (by decide)
    have nc9 := neT (a := 4) c9 (by decide)
    have nc11 := neT (a := 5) c11 (by decide)
    have nc13 := neT (a := 6) c13 (by decide)
    have nc14 := neT (a := 7) c14 (by decide)
    have nc16 := neT (a := 8) c16 (by decide)
    have nc18 := neT (a := 9) c18 (by decide)
    have nc20 := neT (a := 10) c20 (by decide)
    have nc21 := neT (a := 11) c21 (by decide)
    have nc22 := neT (a := 12) c22 (by decide)
    have nc23 := neT (a := 13) c23 (by decide)
    have nc27 := neT (a := 14) c27 (by decide)
    have nc28 := neT (a := 15) c28 (by decide)
    omega) (by decide) ?_
  refine g_iconst (pc1 := 248) (v := (-1)) d_Mod_count_247 rfl (by decide) ?_
  refine g_ireturn (Or.inl rfl) d_Mod_count_248 rfl ?_
  cases h; exact hQ

def F_Mod_emit (p1 : Int32) (p2 : Int32) (M : gM) : Option (gM) :=
  (if ((M 401 44) : Int32) < 0 ∨ 840 ≤ ((M 401 44) : Int32).toNatClampNeg then none else nmM (uM M 431 ((M 401 44) : Int32).toNatClampNeg p1) (fun M2 => (if ((M2 401 44) : Int32) < 0 ∨ 840 ≤ ((M2 401 44) : Int32).toNatClampNeg then none else nmM (uM M2 432 ((M2 401 44) : Int32).toNatClampNeg p2) (fun M4 => nmM (uM M4 401 44 ((M4 401 44) + 1)) (fun M5 => some M5)))))
set_option maxHeartbeats 4000000 in
set_option maxRecDepth 20000 in
theorem f_Mod_emit {l : Launch} {ld : Nat} {M : gM} {L : gL} {Q : Option Value → gM → gL → gR → Prop} (hld : isLa ld) {p1 : Int32} {p2 : Int32}  {q : gM} (h : F_Mod_emit p1 p2 M = some q) (hQ : Q none q L (rf ld)) : Tm l y_Mod_emit (0, 0, 447) 447 [.ref 401, .int p1, .int p2] M L (rf ld) Q := by
  refine Tm.of (by decide) (Nat.le_of_ble_eq_true rfl) ?_
  show Wp l y_Mod_emit (0, 0, 447) 447 0 0 0 [(0, .ref 401), (1, .int p1), (2, .int p2)] [] M L (rf ld) Q
  unfold F_Mod_emit at h
  refine g_aload_n (pc1 := 1) d_Mod_emit_0 rfl 0 rfl ?_
  refine g_getr (pc1 := 4) d_Mod_emit_1 rfl ⟨_, fo_Mod_107⟩ sh_401 (by decide) (rf_401_45 ld) ?_
  refine g_aload_n (pc1 := 5) d_Mod_emit_4 rfl 0 rfl ?_
  refine g_geti (pc1 := 8) d_Mod_emit_5 rfl ⟨_, fo_Mod_248⟩ sh_401 (by decide) ?_
  refine g_iload_n (pc1 := 9) d_Mod_emit_8 rfl 1 rfl ?_
  obtain ⟨g1, h⟩ := gdn h
  refine g_iast (pc1 := 10) d_Mod_emit_9 rfl sh_431 (by decide) g1 ?_
  refine Wp.lM h (fun M2 h => ?_)
  refine g_aload_n (pc1 := 11) d_Mod_emit_10 rfl 0 rfl ?_
  refine g_getr (pc1 := 14) d_Mod_emit_11 rfl ⟨_, fo_Mod_110⟩ sh_401 (by decide) (rf_401_46 ld) ?_
  refine g_aload_n (pc1 := 15) d_Mod_emit_14 rfl 0 rfl ?_
  refine g_geti (pc1 := 18) d_Mod_emit_15 rfl ⟨_, fo_Mod_248⟩ sh_401 (by decide) ?_
  refine g_iload_n (pc1 := 19) d_Mod_emit_18 rfl 2 rfl ?_
  obtain ⟨g3, h⟩ := gdn h
  refine g_iast (pc1 := 20) d_Mod_emit_19 rfl sh_432 (by decide) g3 ?_
  refine Wp.lM h (fun M4 h => ?_)
  refine g_aload_n (pc1 := 21) d_Mod_emit_20 rfl 0 rfl ?_
  refine g_dup (pc1 := 22) d_Mod_emit_21 rfl rfl ?_
  refine g_geti (pc1 := 25) d_Mod_emit_22 rfl ⟨_, fo_Mod_248⟩ sh_401 (by decide) ?_
  refine g_iconst (pc1 := 26) (v := 1) d_Mod_emit_25 rfl (by decide) ?_
  refine g_iadd (pc1 := 27) d_Mod_emit_26 rfl ?_
  refine g_puti (pc1 := 30) d_Mod_emit_27 rfl fo_Mod_248 (po_12_44 _) sh_401 (by decide) ?_
  refine Wp.lM h (fun M5 h => ?_)
  refine g_return rfl d_Mod_emit_30 rfl ?_
  cases h; exact hQ

def F_Mod_fail (p1 : Int32) (M : gM) : Option (gM) :=
  (if (M 401 13) ≤ 0 then nmM (uM M 401 13 p1) (fun M2 => (if ((M2 401 11) : Int32) < 0 ∨ 403 ≤ ((M2 401 11) : Int32).toNatClampNeg then none else nmM (uM M2 401 14 (M2 405 ((M2 401 11) : Int32).toNatClampNeg)) (fun M4 => some M4))) else some M)
set_option maxHeartbeats 4000000 in
set_option maxRecDepth 20000 in
theorem f_Mod_fail {l : Launch} {ld : Nat} {M : gM} {L : gL} {Q : Option Value → gM → gL → gR → Prop} (hld : isLa ld) {p1 : Int32}  {q : gM} (h : F_Mod_fail p1 M = some q) (hQ : Q none q L (rf ld)) : Tm l y_Mod_fail (0, 0, 447) 447 [.ref 401, .int p1] M L (rf ld) Q := by
  refine Tm.of (by decide) (Nat.le_of_ble_eq_true rfl) ?_
  show Wp l y_Mod_fail (0, 0, 447) 447 0 0 0 [(0, .ref 401), (1, .int p1)] [] M L (rf ld) Q
  unfold F_Mod_fail at h
  refine g_aload_n (pc1 := 1) d_Mod_fail_0 rfl 0 rfl ?_
  refine g_geti (pc1 := 4) d_Mod_fail_1 rfl ⟨_, fo_Mod_206⟩ sh_401 (by decide) ?_
  refine g_if_le (pc1 := 7) (tgt := 8) d_Mod_fail_4 (by decide) rfl (fun c1 => ?_) (fun c1 => ?_)
  · replace h := itp h c1
    refine g_aload_n (pc1 := 9) d_Mod_fail_8 rfl 0 rfl ?_
    refine g_iload_n (pc1 := 10) d_Mod_fail_9 rfl 1 rfl ?_
    refine g_puti (pc1 := 13) d_Mod_fail_10 rfl fo_Mod_206 (po_12_13 _) sh_401 (by decide) ?_
    refine Wp.lM h (fun M2 h => ?_)
    refine g_aload_n (pc1 := 14) d_Mod_fail_13 rfl 0 rfl ?_
    refine g_aload_n (pc1 := 15) d_Mod_fail_14 rfl 0 rfl ?_
    refine g_getr (pc1 := 18) d_Mod_fail_15 rfl ⟨_, fo_Mod_24⟩ sh_401 (by decide) (rf_401_6 ld) ?_
    refine g_aload_n (pc1 := 19) d_Mod_fail_18 rfl 0 rfl ?_
    refine g_geti (pc1 := 22) d_Mod_fail_19 rfl ⟨_, fo_Mod_209⟩ sh_401 (by decide) ?_
    obtain ⟨g3, h⟩ := gdn h
    refine g_iald (pc1 := 23) d_Mod_fail_22 rfl sh_405 (by decide) g3 ?_
    refine g_puti (pc1 := 26) d_Mod_fail_23 rfl fo_Mod_212 (po_12_14 _) sh_401 (by decide) ?_
    refine Wp.lM h (fun M4 h => ?_)
    refine g_return rfl d_Mod_fail_26 rfl ?_
    cases h; exact hQ
  · replace h := itn h c1
    refine g_return rfl d_Mod_fail_7 rfl ?_
    cases h; exact hQ

def J_Mod_fillsPot_48 (K2 : Int32 → gM → Option (gM)) (v1 : Int32) (v2 : Int32) (s1 : Int32) (s2 : Int32) (M : gM) : Option (gM) :=
  (if (s1 : Int32) < 0 ∨ 6 ≤ (s1 : Int32).toNatClampNeg then none else nmM (uM M 438 (s1 : Int32).toNatClampNeg s2) (fun M5 => nmI (v2 + 1) (fun x6 => K2 x6 M5)))
set_option maxHeartbeats 4000000 in
set_option maxRecDepth 20000 in
theorem j_Mod_fillsPot_48 {l : Launch} {ld : Nat} {Q : Option Value → gM → gL → gR → Prop} (hld : isLa ld)   {q : gM} {M : gM} {L : gL} (hQ : Q none q L (rf ld)) {K2 : Int32 → gM → Option (gM)} {v1 : Int32} {v2 : Int32} {s1 : Int32} {s2 : Int32} (hK2 : ∀ (w2 : Int32) (M : gM), K2 w2 M = some q → Wp l y_Mod_fillsPot (0, 0, 447) 447 0 0 2 [(0, .ref 401), (1, .int v1), (2, .int w2)] [] M L (rf ld) Q) (h : J_Mod_fillsPot_48 K2 v1 v2 s1 s2 M = some q) : Wp l y_Mod_fillsPot (0, 0, 447) 447 0 0 48 [(0, .ref 401), (1, .int v1), (2, .int v2)] [.int s2, .int s1, .ref 438] M L (rf ld) Q := by
  unfold J_Mod_fillsPot_48 at h
  obtain ⟨g4, h⟩ := gdn h
  refine g_iast (pc1 := 49) d_Mod_fillsPot_48 rfl sh_438 (by decide) g4 ?_
  refine Wp.lM h (fun M5 h => ?_)
  obtain ⟨x6, ex6, h⟩ := ltI h
  refine g_iinc (pc1 := 52) (v := x6) (lv' := [(0, .ref 401), (1, .int v1), (2, .int x6)]) d_Mod_fillsPot_49 rfl 2 rfl (by rw [ex6]; rfl) (by decide) [1, 2, 0] rfl ?_
  refine g_goto (tgt := 2) d_Mod_fillsPot_52 (by decide) ?_
  exact hK2 x6 M5 h
def B_Mod_fillsPot_2 (v1 : Int32) (K2 : Int32 → gM → Option (gM)) : Int32 → gM → Option (gM) := fun v2 M =>
  (if 6 ≤ v2 then some M else (if ((M 401 18) : Int32) < 0 ∨ 2 ≤ ((M 401 18) : Int32).toNatClampNeg then none else (if (M 411 ((M 401 18) : Int32).toNatClampNeg) ≤ v2 then J_Mod_fillsPot_48 K2 v1 v2 v2 0 M else (if (((6 * ((5 * (M 401 18)) + v1)) + v2) : Int32) < 0 ∨ 60 ≤ (((6 * ((5 * (M 401 18)) + v1)) + v2) : Int32).toNatClampNeg then none else J_Mod_fillsPot_48 K2 v1 v2 v2 (M 417 (((6 * ((5 * (M 401 18)) + v1)) + v2) : Int32).toNatClampNeg) M))))
def H_Mod_fillsPot_2 (v1 : Int32) : Nat → Int32 → gM → Option (gM) := lpK (B_Mod_fillsPot_2 v1) (fun _ _ => none)
set_option maxHeartbeats 4000000 in
set_option maxRecDepth 20000 in
theorem h_Mod_fillsPot_2 {l : Launch} {ld : Nat} {Q : Option Value → gM → gL → gR → Prop} (hld : isLa ld)   {q : gM} {L : gL} (hQ : Q none q L (rf ld))  {v1 : Int32}  : ∀ (f : Nat) (v2 : Int32) (M : gM), H_Mod_fillsPot_2 v1 f v2 M = some q → Wp l y_Mod_fillsPot (0, 0, 447) 447 0 0 2 [(0, .ref 401), (1, .int v1), (2, .int v2)] [] M L (rf ld) Q := by
  intro f
  induction f with
  | zero => intro v2 M h; cases h
  | succ f hK2 =>
    intro v2 M h
    replace h : B_Mod_fillsPot_2 v1 (H_Mod_fillsPot_2 v1 f) v2 M = some q := h
    unfold B_Mod_fillsPot_2 at h
    refine g_iload_n (pc1 := 3) d_Mod_fillsPot_2 rfl 2 rfl ?_
    refine g_bipush (pc1 := 5) (v := 6) d_Mod_fillsPot_3 rfl (by decide) ?_
    refine g_icmp_ge (pc1 := 8) (tgt := 55) d_Mod_fillsPot_5 (by decide) rfl (fun c1 => ?_) (fun c1 => ?_)
    · replace h := itp h c1
      refine g_return rfl d_Mod_fillsPot_55 rfl ?_
      cases h; exact hQ
    · replace h := itn h c1
      refine g_aload_n (pc1 := 9) d_Mod_fillsPot_8 rfl 0 rfl ?_
      refine g_getr (pc1 := 12) d_Mod_fillsPot_9 rfl ⟨_, fo_Mod_128⟩ sh_401 (by decide) (rf_401_55 ld) ?_
      refine g_iload_n (pc1 := 13) d_Mod_fillsPot_12 rfl 2 rfl ?_
      refine g_iload_n (pc1 := 14) d_Mod_fillsPot_13 rfl 2 rfl ?_
      refine g_aload_n (pc1 := 15) d_Mod_fillsPot_14 rfl 0 rfl ?_
      refine g_getr (pc1 := 18) d_Mod_fillsPot_15 rfl ⟨_, fo_Mod_46⟩ sh_401 (by decide) (rf_401_23 ld) ?_
      refine g_aload_n (pc1 := 19) d_Mod_fillsPot_18 rfl 0 rfl ?_
      refine g_geti (pc1 := 22) d_Mod_fillsPot_19 rfl ⟨_, fo_Mod_236⟩ sh_401 (by decide) ?_
      obtain ⟨g2, h⟩ := gdn h
      refine g_iald (pc1 := 23) d_Mod_fillsPot_22 rfl sh_411 (by decide) g2 ?_
      refine g_icmp_ge (pc1 := 26) (tgt := 47) d_Mod_fillsPot_23 (by decide) rfl (fun c3 => ?_) (fun c3 => ?_)
      · replace h := itp h c3
        refine g_iconst (pc1 := 48) (v := 0) d_Mod_fillsPot_47 rfl (by decide) ?_
        exact j_Mod_fillsPot_48 hld  hQ hK2 h
      · replace h := itn h c3
        refine g_aload_n (pc1 := 27) d_Mod_fillsPot_26 rfl 0 rfl ?_
        refine g_getr (pc1 := 30) d_Mod_fillsPot_27 rfl ⟨_, fo_Mod_64⟩ sh_401 (by decide) (rf_401_29 ld) ?_
        refine g_bipush (pc1 := 32) (v := 6) d_Mod_fillsPot_30 rfl (by decide) ?_
        refine g_iconst (pc1 := 33) (v := 5) d_Mod_fillsPot_32 rfl (by decide) ?_
        refine g_aload_n (pc1 := 34) d_Mod_fillsPot_33 rfl 0 rfl ?_
        refine g_geti (pc1 := 37) d_Mod_fillsPot_34 rfl ⟨_, fo_Mod_236⟩ sh_401 (by decide) ?_
        refine g_imul (pc1 := 38) d_Mod_fillsPot_37 rfl ?_
        refine g_iload_n (pc1 := 39) d_Mod_fillsPot_38 rfl 1 rfl ?_
        refine g_iadd (pc1 := 40) d_Mod_fillsPot_39 rfl ?_
        refine g_imul (pc1 := 41) d_Mod_fillsPot_40 rfl ?_
        refine g_iload_n (pc1 := 42) d_Mod_fillsPot_41 rfl 2 rfl ?_
        refine g_iadd (pc1 := 43) d_Mod_fillsPot_42 rfl ?_
        obtain ⟨g7, h⟩ := gdn h
        refine g_iald (pc1 := 44) d_Mod_fillsPot_43 rfl sh_417 (by decide) g7 ?_
        refine g_goto (tgt := 48) d_Mod_fillsPot_44 (by decide) ?_
        exact j_Mod_fillsPot_48 hld  hQ hK2 h
def F_Mod_fillsPot (p1 : Int32) (M : gM) : Option (gM) :=
  H_Mod_fillsPot_2 p1 FU 0 M
set_option maxHeartbeats 4000000 in
set_option maxRecDepth 20000 in
theorem f_Mod_fillsPot {l : Launch} {ld : Nat} {M : gM} {L : gL} {Q : Option Value → gM → gL → gR → Prop} (hld : isLa ld) {p1 : Int32}  {q : gM} (h : F_Mod_fillsPot p1 M = some q) (hQ : Q none q L (rf ld)) : Tm l y_Mod_fillsPot (0, 0, 447) 447 [.ref 401, .int p1] M L (rf ld) Q := by
  refine Tm.of (by decide) (Nat.le_of_ble_eq_true rfl) ?_
  show Wp l y_Mod_fillsPot (0, 0, 447) 447 0 0 0 [(0, .ref 401), (1, .int p1)] [] M L (rf ld) Q
  unfold F_Mod_fillsPot at h
  refine g_iconst (pc1 := 1) (v := 0) d_Mod_fillsPot_0 rfl (by decide) ?_
  refine g_istore_n (pc1 := 2) (lv' := [(0, .ref 401), (1, .int p1), (2, .int 0)]) d_Mod_fillsPot_1 rfl rfl (by decide) [1, 2, 0] rfl ?_
  exact h_Mod_fillsPot_2 hld  hQ  _ 0 M h

def F_Mod_forget (M : gM) : Option (Int32 × gM) :=
  nmI (M 401 64) (fun x1 => nmM (uM M 401 64 0) (fun M2 => some (x1, M2)))
set_option maxHeartbeats 4000000 in
set_option maxRecDepth 20000 in
theorem f_Mod_forget {l : Launch} {ld : Nat} {M : gM} {L : gL} {Q : Option Value → gM → gL → gR → Prop} (hld : isLa ld)   {q : Int32 × gM} (h : F_Mod_forget M = some q) (hQ : Q (some (.int q.1)) q.2 L (rf ld)) : Tm l y_Mod_forget (0, 0, 447) 447 [.ref 401] M L (rf ld) Q := by
  refine Tm.of (by decide) (Nat.le_of_ble_eq_true rfl) ?_
  show Wp l y_Mod_forget (0, 0, 447) 447 0 0 0 [(0, .ref 401)] [] M L (rf ld) Q
  unfold F_Mod_forget at h
  refine g_aload_n (pc1 := 1) d_Mod_forget_0 rfl 0 rfl ?_
  refine g_geti (pc1 := 4) d_Mod_forget_1 rfl ⟨_, fo_Mod_257⟩ sh_401 (by decide) ?_
  refine Wp.lI h (fun x1 h => ?_)
  refine g_istore_n (pc1 := 5) (lv' := [(0, .ref 401), (1, .int x1)]) d_Mod_forget_4 rfl rfl (by decide) [1, 0] rfl ?_
  refine g_aload_n (pc1 := 6) d_Mod_forget_5 rfl 0 rfl ?_
  refine g_iconst (pc1 := 7) (v := 0) d_Mod_forget_6 rfl (by decide) ?_
  refine g_puti (pc1 := 10) d_Mod_forget_7 rfl fo_Mod_257 (po_12_64 _) sh_401 (by decide) ?_
  refine Wp.lM h (fun M2 h => ?_)
  refine g_iload_n (pc1 := 11) d_Mod_forget_10 rfl 1 rfl ?_
  refine g_ireturn (Or.inl rfl) d_Mod_forget_11 rfl ?_
  cases h; exact hQ

def F_Mod_held (p1 : Int32) (p2 : Int32) (p3 : Int32) : Option (Int32) :=
  (if p2 ≤ p1 then (if p1 ≤ p3 then some p1 else some p3) else some p2)
set_option maxHeartbeats 4000000 in
set_option maxRecDepth 20000 in
theorem f_Mod_held {l : Launch} {ld : Nat} {M : gM} {L : gL} {Q : Option Value → gM → gL → gR → Prop} (hld : isLa ld) {p1 : Int32} {p2 : Int32} {p3 : Int32}  {q : Int32} (h : F_Mod_held p1 p2 p3 = some q) (hQ : Q (some (.int q)) M L (rf ld)) : Tm l y_Mod_held (0, 0, 447) 447 [.int p1, .int p2, .int p3] M L (rf ld) Q := by
  refine Tm.of (by decide) (Nat.le_of_ble_eq_true rfl) ?_
  show Wp l y_Mod_held (0, 0, 447) 447 0 0 0 [(0, .int p1), (1, .int p2), (2, .int p3)] [] M L (rf ld) Q
  unfold F_Mod_held at h
  refine g_iload_n (pc1 := 1) d_Mod_held_0 rfl 0 rfl ?_
  refine g_iload_n (pc1 := 2) d_Mod_held_1 rfl 1 rfl ?_
  refine g_icmp_ge (pc1 := 5) (tgt := 9) d_Mod_held_2 (by decide) rfl (fun c1 => ?_) (fun c1 => ?_)
  · replace h := itp h c1
    refine g_iload_n (pc1 := 10) d_Mod_held_9 rfl 0 rfl ?_
    refine g_iload_n (pc1 := 11) d_Mod_held_10 rfl 2 rfl ?_
    refine g_icmp_le (pc1 := 14) (tgt := 18) d_Mod_held_11 (by decide) rfl (fun c2 => ?_) (fun c2 => ?_)
    · replace h := itp h c2
      refine g_iload_n (pc1 := 19) d_Mod_held_18 rfl 0 rfl ?_
      refine g_ireturn (Or.inl rfl) d_Mod_held_19 rfl ?_
      cases h; exact hQ
    · replace h := itn h c2
      refine g_iload_n (pc1 := 15) d_Mod_held_14 rfl 2 rfl ?_
      refine g_goto (tgt := 19) d_Mod_held_15 (by decide) ?_
      refine g_ireturn (Or.inl rfl) d_Mod_held_19 rfl ?_
      cases h; exact hQ
  · replace h := itn h c1
    refine g_iload_n (pc1 := 6) d_Mod_held_5 rfl 1 rfl ?_
    refine g_goto (tgt := 19) d_Mod_held_6 (by decide) ?_
    refine g_ireturn (Or.inl rfl) d_Mod_held_19 rfl ?_
    cases h; exact hQ

def F_Mod_in (p1 : Int32) (p2 : Int32) (p3 : Int32) : Option (Int32) :=
  (if p1 < p2 then some 0 else (if p3 < p1 then some 0 else some 1))
set_option maxHeartbeats 4000000 in
set_option maxRecDepth 20000 in
theorem f_Mod_in {l : Launch} {ld : Nat} {M : gM} {L : gL} {Q : Option Value → gM → gL → gR → Prop} (hld : isLa ld) {p1 : Int32} {p2 : Int32} {p3 : Int32}  {q : Int32} (h : F_Mod_in p1 p2 p3 = some q) (hQ : Q (some (.int q)) M L (rf ld)) : Tm l y_Mod_in (0, 0, 447) 447 [.int p1, .int p2, .int p3] M L (rf ld) Q := by
  refine Tm.of (by decide) (Nat.le_of_ble_eq_true rfl) ?_
  show Wp l y_Mod_in (0, 0, 447) 447 0 0 0 [(0, .int p1), (1, .int p2), (2, .int p3)] [] M L (rf ld) Q
  unfold F_Mod_in at h
  refine g_iload_n (pc1 := 1) d_Mod_in_0 rfl 0 rfl ?_
  refine g_iload_n (pc1 := 2) d_Mod_in_1 rfl 1 rfl ?_
  refine g_icmp_lt (pc1 := 5) (tgt := 14) d_Mod_in_2 (by decide) rfl (fun c1 => ?_) (fun c1 => ?_)
  · replace h := itp h c1
    refine g_iconst (pc1 := 15) (v := 0) d_Mod_in_14 rfl (by decide) ?_
    refine g_ireturn (Or.inr ⟨rfl, rfl⟩) d_Mod_in_15 rfl ?_
    cases h; exact hQ
  · replace h := itn h c1
    refine g_iload_n (pc1 := 6) d_Mod_in_5 rfl 0 rfl ?_
    refine g_iload_n (pc1 := 7) d_Mod_in_6 rfl 2 rfl ?_
    refine g_icmp_gt (pc1 := 10) (tgt := 14) d_Mod_in_7 (by decide) rfl (fun c2 => ?_) (fun c2 => ?_)
    · replace h := itp h c2
      refine g_iconst (pc1 := 15) (v := 0) d_Mod_in_14 rfl (by decide) ?_
      refine g_ireturn (Or.inr ⟨rfl, rfl⟩) d_Mod_in_15 rfl ?_
      cases h; exact hQ
    · replace h := itn h c2
      refine g_iconst (pc1 := 11) (v := 1) d_Mod_in_10 rfl (by decide) ?_
      refine g_goto (tgt := 15) d_Mod_in_11 (by decide) ?_
      refine g_ireturn (Or.inr ⟨rfl, rfl⟩) d_Mod_in_15 rfl ?_
      cases h; exact hQ

def F_Mod_is (p1 : Int32) (M : gM) : Option (Int32) :=
  (if (M 401 13) = 0 then (if ((M 401 11) : Int32) < 0 ∨ 403 ≤ ((M 401 11) : Int32).toNatClampNeg then none else (if (M 404 ((M 401 11) : Int32).toNatClampNeg) = p1 then some 1 else some 0)) else some 0)
set_option maxHeartbeats 4000000 in
set_option maxRecDepth 20000 in
theorem f_Mod_is {l : Launch} {ld : Nat} {M : gM} {L : gL} {Q : Option Value → gM → gL → gR → Prop} (hld : isLa ld) {p1 : Int32}  {q : Int32} (h : F_Mod_is p1 M = some q) (hQ : Q (some (.int q)) M L (rf ld)) : Tm l y_Mod_is (0, 0, 447) 447 [.ref 401, .int p1] M L (rf ld) Q := by
  refine Tm.of (by decide) (Nat.le_of_ble_eq_true rfl) ?_
  show Wp l y_Mod_is (0, 0, 447) 447 0 0 0 [(0, .ref 401), (1, .int p1)] [] M L (rf ld) Q
  unfold F_Mod_is at h
  refine g_aload_n (pc1 := 1) d_Mod_is_0 rfl 0 rfl ?_
  refine g_geti (pc1 := 4) d_Mod_is_1 rfl ⟨_, fo_Mod_206⟩ sh_401 (by decide) ?_
  refine g_if_ne (pc1 := 7) (tgt := 24) d_Mod_is_4 (by decide) rfl (fun c1 => ?_) (fun c1 => ?_)
  · replace h := itn h c1
    refine g_iconst (pc1 := 25) (v := 0) d_Mod_is_24 rfl (by decide) ?_
    refine g_ireturn (Or.inr ⟨rfl, rfl⟩) d_Mod_is_25 rfl ?_
    cases h; exact hQ
  · replace h := itp h c1
    refine g_aload_n (pc1 := 8) d_Mod_is_7 rfl 0 rfl ?_
    refine g_getr (pc1 := 11) d_Mod_is_8 rfl ⟨_, fo_Mod_20⟩ sh_401 (by decide) (rf_401_5 ld) ?_
    refine g_aload_n (pc1 := 12) d_Mod_is_11 rfl 0 rfl ?_
    refine g_geti (pc1 := 15) d_Mod_is_12 rfl ⟨_, fo_Mod_209⟩ sh_401 (by decide) ?_
    obtain ⟨g2, h⟩ := gdn h
    refine g_iald (pc1 := 16) d_Mod_is_15 rfl sh_404 (by decide) g2 ?_
    refine g_iload_n (pc1 := 17) d_Mod_is_16 rfl 1 rfl ?_
    refine g_icmp_ne (pc1 := 20) (tgt := 24) d_Mod_is_17 (by decide) rfl (fun c3 => ?_) (fun c3 => ?_)
    · replace h := itn h c3
      refine g_iconst (pc1 := 25) (v := 0) d_Mod_is_24 rfl (by decide) ?_
      refine g_ireturn (Or.inr ⟨rfl, rfl⟩) d_Mod_is_25 rfl ?_
      cases h; exact hQ
    · replace h := itp h c3
      refine g_iconst (pc1 := 21) (v := 1) d_Mod_is_20 rfl (by decide) ?_
      refine g_goto (tgt := 25) d_Mod_is_21 (by decide) ?_
      refine g_ireturn (Or.inr ⟨rfl, rfl⟩) d_Mod_is_25 rfl ?_
      cases h; exact hQ

def F_Mod_isDigit (p1 : Int32) : Option (Int32) :=
  (if p1 < 48 then some 0 else (if 57 < p1 then some 0 else some 1))
set_option maxHeartbeats 4000000 in
set_option maxRecDepth 20000 in
theorem f_Mod_isDigit {l : Launch} {ld : Nat} {M : gM} {L : gL} {Q : Option Value → gM → gL → gR → Prop} (hld : isLa ld) {p1 : Int32}  {q : Int32} (h : F_Mod_isDigit p1 = some q) (hQ : Q (some (.int q)) M L (rf ld)) : Tm l y_Mod_isDigit (0, 0, 447) 447 [.int p1] M L (rf ld) Q := by
  refine Tm.of (by decide) (Nat.le_of_ble_eq_true rfl) ?_
  show Wp l y_Mod_isDigit (0, 0, 447) 447 0 0 0 [(0, .int p1)] [] M L (rf ld) Q
  unfold F_Mod_isDigit at h
  refine g_iload_n (pc1 := 1) d_Mod_isDigit_0 rfl 0 rfl ?_
  refine g_bipush (pc1 := 3) (v := 48) d_Mod_isDigit_1 rfl (by decide) ?_
  refine g_icmp_lt (pc1 := 6) (tgt := 16) d_Mod_isDigit_3 (by decide) rfl (fun c1 => ?_) (fun c1 => ?_)
  · replace h := itp h c1
    refine g_iconst (pc1 := 17) (v := 0) d_Mod_isDigit_16 rfl (by decide) ?_
    refine g_ireturn (Or.inr ⟨rfl, rfl⟩) d_Mod_isDigit_17 rfl ?_
    cases h; exact hQ
  · replace h := itn h c1
    refine g_iload_n (pc1 := 7) d_Mod_isDigit_6 rfl 0 rfl ?_
    refine g_bipush (pc1 := 9) (v := 57) d_Mod_isDigit_7 rfl (by decide) ?_
    refine g_icmp_gt (pc1 := 12) (tgt := 16) d_Mod_isDigit_9 (by decide) rfl (fun c2 => ?_) (fun c2 => ?_)
    · replace h := itp h c2
      refine g_iconst (pc1 := 17) (v := 0) d_Mod_isDigit_16 rfl (by decide) ?_
      refine g_ireturn (Or.inr ⟨rfl, rfl⟩) d_Mod_isDigit_17 rfl ?_
      cases h; exact hQ
    · replace h := itn h c2
      refine g_iconst (pc1 := 13) (v := 1) d_Mod_isDigit_12 rfl (by decide) ?_
      refine g_goto (tgt := 17) d_Mod_isDigit_13 (by decide) ?_
      refine g_ireturn (Or.inr ⟨rfl, rfl⟩) d_Mod_isDigit_17 rfl ?_
      cases h; exact hQ

def F_Mod_isLetter (p1 : Int32) : Option (Int32) :=
  (if p1 < 97 then some 0 else (if 122 < p1 then some 0 else some 1))
set_option maxHeartbeats 4000000 in
set_option maxRecDepth 20000 in
theorem f_Mod_isLetter {l : Launch} {ld : Nat} {M : gM} {L : gL} {Q : Option Value → gM → gL → gR → Prop} (hld : isLa ld) {p1 : Int32}  {q : Int32} (h : F_Mod_isLetter p1 = some q) (hQ : Q (some (.int q)) M L (rf ld)) : Tm l y_Mod_isLetter (0, 0, 447) 447 [.int p1] M L (rf ld) Q := by
  refine Tm.of (by decide) (Nat.le_of_ble_eq_true rfl) ?_
  show Wp l y_Mod_isLetter (0, 0, 447) 447 0 0 0 [(0, .int p1)] [] M L (rf ld) Q
  unfold F_Mod_isLetter at h
  refine g_iload_n (pc1 := 1) d_Mod_isLetter_0 rfl 0 rfl ?_
  refine g_bipush (pc1 := 3) (v := 97) d_Mod_isLetter_1 rfl (by decide) ?_
  refine g_icmp_lt (pc1 := 6) (tgt := 16) d_Mod_isLetter_3 (by decide) rfl (fun c1 => ?_) (fun c1 => ?_)
  · replace h := itp h c1
    refine g_iconst (pc1 := 17) (v := 0) d_Mod_isLetter_16 rfl (by decide) ?_
    refine g_ireturn (Or.inr ⟨rfl, rfl⟩) d_Mod_isLetter_17 rfl ?_
    cases h; exact hQ
  · replace h := itn h c1
    refine g_iload_n (pc1 := 7) d_Mod_isLetter_6 rfl 0 rfl ?_
    refine g_bipush (pc1 := 9) (v := 122) d_Mod_isLetter_7 rfl (by decide) ?_
    refine g_icmp_gt (pc1 := 12) (tgt := 16) d_Mod_isLetter_9 (by decide) rfl (fun c2 => ?_) (fun c2 => ?_)
    · replace h := itp h c2
      refine g_iconst (pc1 := 17) (v := 0) d_Mod_isLetter_16 rfl (by decide) ?_
      refine g_ireturn (Or.inr ⟨rfl, rfl⟩) d_Mod_isLetter_17 rfl ?_
      cases h; exact hQ
    · replace h := itn h c2
      refine g_iconst (pc1 := 13) (v := 1) d_Mod_isLetter_12 rfl (by decide) ?_
      refine g_goto (tgt := 17) d_Mod_isLetter_13 (by decide) ?_
      refine g_ireturn (Or.inr ⟨rfl, rfl⟩) d_Mod_isLetter_17 rfl ?_
      cases h; exact hQ

def B_Mod_keepsRow_2  (K2 : Int32 → gM → Option (gM)) : Int32 → gM → Option (gM) := fun v1 M =>
  (if 38 ≤ v1 then some M else (if (v1 : Int32) < 0 ∨ 38 ≤ (v1 : Int32).toNatClampNeg then none else (if (v1 : Int32) < 0 ∨ 38 ≤ (v1 : Int32).toNatClampNeg then none else nmM (uM M 436 (v1 : Int32).toNatClampNeg (M 437 (v1 : Int32).toNatClampNeg)) (fun M4 => nmI (v1 + 1) (fun x5 => K2 x5 M4)))))
def H_Mod_keepsRow_2  : Nat → Int32 → gM → Option (gM) := lpK (B_Mod_keepsRow_2 ) (fun _ _ => none)
set_option maxHeartbeats 4000000 in
set_option maxRecDepth 20000 in
theorem h_Mod_keepsRow_2 {l : Launch} {ld : Nat} {Q : Option Value → gM → gL → gR → Prop} (hld : isLa ld)   {q : gM} {L : gL} (hQ : Q none q L (rf ld))    : ∀ (f : Nat) (v1 : Int32) (M : gM), H_Mod_keepsRow_2  f v1 M = some q → Wp l y_Mod_keepsRow (0, 0, 447) 447 0 0 2 [(0, .ref 401), (1, .int v1)] [] M L (rf ld) Q := by
  intro f
  induction f with
  | zero => intro v1 M h; cases h
  | succ f hK2 =>
    intro v1 M h
    replace h : B_Mod_keepsRow_2  (H_Mod_keepsRow_2  f) v1 M = some q := h
    unfold B_Mod_keepsRow_2 at h
    refine g_iload_n (pc1 := 3) d_Mod_keepsRow_2 rfl 1 rfl ?_
    refine g_bipush (pc1 := 5) (v := 38) d_Mod_keepsRow_3 rfl (by decide) ?_
    refine g_icmp_ge (pc1 := 8) (tgt := 26) d_Mod_keepsRow_5 (by decide) rfl (fun c1 => ?_) (fun c1 => ?_)
    · replace h := itp h c1
      refine g_return rfl d_Mod_keepsRow_26 rfl ?_
      cases h; exact hQ
    · replace h := itn h c1
      refine g_aload_n (pc1 := 9) d_Mod_keepsRow_8 rfl 0 rfl ?_
      refine g_getr (pc1 := 12) d_Mod_keepsRow_9 rfl ⟨_, fo_Mod_122⟩ sh_401 (by decide) (rf_401_52 ld) ?_
      refine g_iload_n (pc1 := 13) d_Mod_keepsRow_12 rfl 1 rfl ?_
      refine g_aload_n (pc1 := 14) d_Mod_keepsRow_13 rfl 0 rfl ?_
      refine g_getr (pc1 := 17) d_Mod_keepsRow_14 rfl ⟨_, fo_Mod_125⟩ sh_401 (by decide) (rf_401_53 ld) ?_
      refine g_iload_n (pc1 := 18) d_Mod_keepsRow_17 rfl 1 rfl ?_
      obtain ⟨g2, h⟩ := gdn h
      refine g_iald (pc1 := 19) d_Mod_keepsRow_18 rfl sh_437 (by decide) g2 ?_
      obtain ⟨g3, h⟩ := gdn h
      refine g_iast (pc1 := 20) d_Mod_keepsRow_19 rfl sh_436 (by decide) g3 ?_
      refine Wp.lM h (fun M4 h => ?_)
      obtain ⟨x5, ex5, h⟩ := ltI h
      refine g_iinc (pc1 := 23) (v := x5) (lv' := [(0, .ref 401), (1, .int x5)]) d_Mod_keepsRow_20 rfl 1 rfl (by rw [ex5]; rfl) (by decide) [1, 0] rfl ?_
      refine g_goto (tgt := 2) d_Mod_keepsRow_23 (by decide) ?_
      exact hK2 x5 M4 h
def F_Mod_keepsRow (M : gM) : Option (gM) :=
  H_Mod_keepsRow_2 FU 0 M
set_option maxHeartbeats 4000000 in
set_option maxRecDepth 20000 in
theorem f_Mod_keepsRow {l : Launch} {ld : Nat} {M : gM} {L : gL} {Q : Option Value → gM → gL → gR → Prop} (hld : isLa ld)   {q : gM} (h : F_Mod_keepsRow M = some q) (hQ : Q none q L (rf ld)) : Tm l y_Mod_keepsRow (0, 0, 447) 447 [.ref 401] M L (rf ld) Q := by
  refine Tm.of (by decide) (Nat.le_of_ble_eq_true rfl) ?_
  show Wp l y_Mod_keepsRow (0, 0, 447) 447 0 0 0 [(0, .ref 401)] [] M L (rf ld) Q
  unfold F_Mod_keepsRow at h
  refine g_iconst (pc1 := 1) (v := 0) d_Mod_keepsRow_0 rfl (by decide) ?_
  refine g_istore_n (pc1 := 2) (lv' := [(0, .ref 401), (1, .int 0)]) d_Mod_keepsRow_1 rfl rfl (by decide) [1, 0] rfl ?_
  exact h_Mod_keepsRow_2 hld  hQ  _ 0 M h

def J_Mod_looks_21 (M : gM) : Option (gM) :=
  nmM (uM M 434 4 (M 437 35)) (fun M2 => some M2)
set_option maxHeartbeats 4000000 in
set_option maxRecDepth 20000 in
theorem j_Mod_looks_21 {l : Launch} {ld : Nat} {Q : Option Value → gM → gL → gR → Prop} (hld : isLa ld)   {q : gM} {M : gM} {L : gL} (hQ : Q none q L (rf ld))    (h : J_Mod_looks_21 M = some q) : Wp l y_Mod_looks (0, 0, 447) 447 0 0 21 [(0, .ref 401)] [] M L (rf ld) Q := by
  unfold J_Mod_looks_21 at h
  refine g_aload_n (pc1 := 22) d_Mod_looks_21 rfl 0 rfl ?_
  refine g_getr (pc1 := 25) d_Mod_looks_22 rfl ⟨_, fo_Mod_116⟩ sh_401 (by decide) (rf_401_49 ld) ?_
  refine g_iconst (pc1 := 26) (v := 4) d_Mod_looks_25 rfl (by decide) ?_
  refine g_aload_n (pc1 := 27) d_Mod_looks_26 rfl 0 rfl ?_
  refine g_getr (pc1 := 30) d_Mod_looks_27 rfl ⟨_, fo_Mod_125⟩ sh_401 (by decide) (rf_401_53 ld) ?_
  refine g_bipush (pc1 := 32) (v := 35) d_Mod_looks_30 rfl (by decide) ?_
  refine g_iald (pc1 := 33) d_Mod_looks_32 rfl sh_437 (by decide) (vin_lit (x := 35) (by decide)) ?_
  refine Wp.vali (y := (M 437 35)) (congrArg (M 437) (by decide)) ?_
  refine g_iast (pc1 := 34) d_Mod_looks_33 rfl sh_434 (by decide) (vin_lit (x := 4) (by decide)) ?_
  refine Wp.eqM (M' := uM M 434 4 (M 437 35)) (congrArg (fun z => uM M 434 z (M 437 35)) (by decide)) ?_
  refine Wp.lM h (fun M2 h => ?_)
  refine g_return rfl d_Mod_looks_34 rfl ?_
  cases h; exact hQ
def B_Mod_looks_2  (K2 : Int32 → gM → Option (gM)) : Int32 → gM → Option (gM) := fun v1 M =>
  (if 9 ≤ v1 then J_Mod_looks_21 M else (if (v1 : Int32) < 0 ∨ 9 ≤ (v1 : Int32).toNatClampNeg then none else nmM (uM M 434 (v1 : Int32).toNatClampNeg 0) (fun M4 => nmI (v1 + 1) (fun x5 => K2 x5 M4))))
def H_Mod_looks_2  : Nat → Int32 → gM → Option (gM) := lpK (B_Mod_looks_2 ) (fun _ _ => none)
set_option maxHeartbeats 4000000 in
set_option maxRecDepth 20000 in
theorem h_Mod_looks_2 {l : Launch} {ld : Nat} {Q : Option Value → gM → gL → gR → Prop} (hld : isLa ld)   {q : gM} {L : gL} (hQ : Q none q L (rf ld))    : ∀ (f : Nat) (v1 : Int32) (M : gM), H_Mod_looks_2  f v1 M = some q → Wp l y_Mod_looks (0, 0, 447) 447 0 0 2 [(0, .ref 401), (1, .int v1)] [] M L (rf ld) Q := by
  intro f
  induction f with
  | zero => intro v1 M h; cases h
  | succ f hK2 =>
    intro v1 M h
    replace h : B_Mod_looks_2  (H_Mod_looks_2  f) v1 M = some q := h
    unfold B_Mod_looks_2 at h
    refine g_iload_n (pc1 := 3) d_Mod_looks_2 rfl 1 rfl ?_
    refine g_bipush (pc1 := 5) (v := 9) d_Mod_looks_3 rfl (by decide) ?_
    refine g_icmp_ge (pc1 := 8) (tgt := 21) d_Mod_looks_5 (by decide) rfl (fun c1 => ?_) (fun c1 => ?_)
    · replace h := itp h c1
      refine Wp.loc (lv' := [(0, .ref 401)]) [0] rfl ?_
      exact j_Mod_looks_21 hld  hQ  h
    · replace h := itn h c1
      refine g_aload_n (pc1 := 9) d_Mod_looks_8 rfl 0 rfl ?_
      refine g_getr (pc1 := 12) d_Mod_looks_9 rfl ⟨_, fo_Mod_116⟩ sh_401 (by decide) (rf_401_49 ld) ?_
      refine g_iload_n (pc1 := 13) d_Mod_looks_12 rfl 1 rfl ?_
      refine g_iconst (pc1 := 14) (v := 0) d_Mod_looks_13 rfl (by decide) ?_
      obtain ⟨g3, h⟩ := gdn h
      refine g_iast (pc1 := 15) d_Mod_looks_14 rfl sh_434 (by decide) g3 ?_
      refine Wp.lM h (fun M4 h => ?_)
      obtain ⟨x5, ex5, h⟩ := ltI h
      refine g_iinc (pc1 := 18) (v := x5) (lv' := [(0, .ref 401), (1, .int x5)]) d_Mod_looks_15 rfl 1 rfl (by rw [ex5]; rfl) (by decide) [1, 0] rfl ?_
      refine g_goto (tgt := 2) d_Mod_looks_18 (by decide) ?_
      exact hK2 x5 M4 h
def F_Mod_looks (M : gM) : Option (gM) :=
  H_Mod_looks_2 FU 0 M
set_option maxHeartbeats 4000000 in
set_option maxRecDepth 20000 in
theorem f_Mod_looks {l : Launch} {ld : Nat} {M : gM} {L : gL} {Q : Option Value → gM → gL → gR → Prop} (hld : isLa ld)   {q : gM} (h : F_Mod_looks M = some q) (hQ : Q none q L (rf ld)) : Tm l y_Mod_looks (0, 0, 447) 447 [.ref 401] M L (rf ld) Q := by
  refine Tm.of (by decide) (Nat.le_of_ble_eq_true rfl) ?_
  show Wp l y_Mod_looks (0, 0, 447) 447 0 0 0 [(0, .ref 401)] [] M L (rf ld) Q
  unfold F_Mod_looks at h
  refine g_iconst (pc1 := 1) (v := 0) d_Mod_looks_0 rfl (by decide) ?_
  refine g_istore_n (pc1 := 2) (lv' := [(0, .ref 401), (1, .int 0)]) d_Mod_looks_1 rfl rfl (by decide) [1, 0] rfl ?_
  exact h_Mod_looks_2 hld  hQ  _ 0 M h

def F_Mod_mixed (p1 : Int32) (p2 : Int32) : Option (Int32) :=
  nmI (((p1 ^^^ p2) * 1103515245) + 12345) (fun x1 => some (x1 ^^^ ((x1.toUInt32 >>> ((15 : Int32).toUInt32 &&& Int32.toUInt32 31)).toInt32)))
set_option maxHeartbeats 4000000 in
set_option maxRecDepth 20000 in
theorem f_Mod_mixed {l : Launch} {ld : Nat} {M : gM} {L : gL} {Q : Option Value → gM → gL → gR → Prop} (hld : isLa ld) {p1 : Int32} {p2 : Int32}  {q : Int32} (h : F_Mod_mixed p1 p2 = some q) (hQ : Q (some (.int q)) M L (rf ld)) : Tm l y_Mod_mixed (0, 0, 447) 447 [.int p1, .int p2] M L (rf ld) Q := by
  refine Tm.of (by decide) (Nat.le_of_ble_eq_true rfl) ?_
  show Wp l y_Mod_mixed (0, 0, 447) 447 0 0 0 [(0, .int p1), (1, .int p2)] [] M L (rf ld) Q
  unfold F_Mod_mixed at h
  refine g_iload_n (pc1 := 1) d_Mod_mixed_0 rfl 0 rfl ?_
  refine g_iload_n (pc1 := 2) d_Mod_mixed_1 rfl 1 rfl ?_
  refine g_ixor (pc1 := 3) d_Mod_mixed_2 rfl ?_
  refine g_ldcw (pc1 := 6) (v := 1103515245) d_Mod_mixed_3 rfl co_Mod_323 ?_
  refine g_imul (pc1 := 7) d_Mod_mixed_6 rfl ?_
  refine g_sipush (pc1 := 10) (v := 12345) d_Mod_mixed_7 rfl (by decide) ?_
  refine g_iadd (pc1 := 11) d_Mod_mixed_10 rfl ?_
  refine Wp.lI h (fun x1 h => ?_)
  refine g_istore_n (pc1 := 12) (lv' := [(0, .int p1), (1, .int p2), (2, .int x1)]) d_Mod_mixed_11 rfl rfl (by decide) [1, 2, 0] rfl ?_
  refine g_iload_n (pc1 := 13) d_Mod_mixed_12 rfl 2 rfl ?_
  refine g_iload_n (pc1 := 14) d_Mod_mixed_13 rfl 2 rfl ?_
  refine g_bipush (pc1 := 16) (v := 15) d_Mod_mixed_14 rfl (by decide) ?_
  refine g_iushr (pc1 := 17) d_Mod_mixed_16 rfl ?_
  refine g_ixor (pc1 := 18) d_Mod_mixed_17 rfl ?_
  refine g_ireturn (Or.inl rfl) d_Mod_mixed_18 rfl ?_
  cases h; exact hQ

def F_Mod_off (p1 : Int32) (p2 : Int32) : Option (Int32) :=
  (if p2 ≤ p1 then some (p1 - p2) else some (p2 - p1))
set_option maxHeartbeats 4000000 in
set_option maxRecDepth 20000 in
theorem f_Mod_off {l : Launch} {ld : Nat} {M : gM} {L : gL} {Q : Option Value → gM → gL → gR → Prop} (hld : isLa ld) {p1 : Int32} {p2 : Int32}  {q : Int32} (h : F_Mod_off p1 p2 = some q) (hQ : Q (some (.int q)) M L (rf ld)) : Tm l y_Mod_off (0, 0, 447) 447 [.int p1, .int p2] M L (rf ld) Q := by
  refine Tm.of (by decide) (Nat.le_of_ble_eq_true rfl) ?_
  show Wp l y_Mod_off (0, 0, 447) 447 0 0 0 [(0, .int p1), (1, .int p2)] [] M L (rf ld) Q
  unfold F_Mod_off at h
  refine g_iload_n (pc1 := 1) d_Mod_off_0 rfl 0 rfl ?_
  refine g_iload_n (pc1 := 2) d_Mod_off_1 rfl 1 rfl ?_
  refine g_icmp_ge (pc1 := 5) (tgt := 11) d_Mod_off_2 (by decide) rfl (fun c1 => ?_) (fun c1 => ?_)
  · replace h := itp h c1
    refine g_iload_n (pc1 := 12) d_Mod_off_11 rfl 0 rfl ?_
    refine g_iload_n (pc1 := 13) d_Mod_off_12 rfl 1 rfl ?_
    refine g_isub (pc1 := 14) d_Mod_off_13 rfl ?_
    refine g_ireturn (Or.inl rfl) d_Mod_off_14 rfl ?_
    cases h; exact hQ
  · replace h := itn h c1
    refine g_iload_n (pc1 := 6) d_Mod_off_5 rfl 1 rfl ?_
    refine g_iload_n (pc1 := 7) d_Mod_off_6 rfl 0 rfl ?_
    refine g_isub (pc1 := 8) d_Mod_off_7 rfl ?_
    refine g_goto (tgt := 14) d_Mod_off_8 (by decide) ?_
    refine g_ireturn (Or.inl rfl) d_Mod_off_14 rfl ?_
    cases h; exact hQ

def F_Mod_place (M : gM) : Option (Int32) :=
  some (M 401 17)
set_option maxHeartbeats 4000000 in
set_option maxRecDepth 20000 in
theorem f_Mod_place {l : Launch} {ld : Nat} {M : gM} {L : gL} {Q : Option Value → gM → gL → gR → Prop} (hld : isLa ld)   {q : Int32} (h : F_Mod_place M = some q) (hQ : Q (some (.int q)) M L (rf ld)) : Tm l y_Mod_place (0, 0, 447) 447 [.ref 401] M L (rf ld) Q := by
  refine Tm.of (by decide) (Nat.le_of_ble_eq_true rfl) ?_
  show Wp l y_Mod_place (0, 0, 447) 447 0 0 0 [(0, .ref 401)] [] M L (rf ld) Q
  unfold F_Mod_place at h
  refine g_aload_n (pc1 := 1) d_Mod_place_0 rfl 0 rfl ?_
  refine g_geti (pc1 := 4) d_Mod_place_1 rfl ⟨_, fo_Mod_37⟩ sh_401 (by decide) ?_
  refine g_ireturn (Or.inl rfl) d_Mod_place_4 rfl ?_
  cases h; exact hQ

def B_Mod_plain_37 (v1 : Int32) (K37 : Int32 → gM → Option (gM)) : Int32 → gM → Option (gM) := fun v2 M =>
  (if 4 ≤ v2 then some M else (if (((4 * v1) + v2) : Int32) < 0 ∨ 8 ≤ (((4 * v1) + v2) : Int32).toNatClampNeg then none else nmM (uM M 424 (((4 * v1) + v2) : Int32).toNatClampNeg 0) (fun M13 => (if (((4 * v1) + v2) : Int32) < 0 ∨ 8 ≤ (((4 * v1) + v2) : Int32).toNatClampNeg then none else nmM (uM M13 425 (((4 * v1) + v2) : Int32).toNatClampNeg 0) (fun M15 => nmI (v2 + 1) (fun x16 => K37 x16 M15))))))
def H_Mod_plain_37 (v1 : Int32) : Nat → Int32 → gM → Option (gM) := lpK (B_Mod_plain_37 v1) (fun _ _ => none)
set_option maxHeartbeats 4000000 in
set_option maxRecDepth 20000 in
theorem h_Mod_plain_37 {l : Launch} {ld : Nat} {Q : Option Value → gM → gL → gR → Prop} (hld : isLa ld)   {q : gM} {L : gL} (hQ : Q none q L (rf ld))  {v1 : Int32}  : ∀ (f : Nat) (v2 : Int32) (M : gM), H_Mod_plain_37 v1 f v2 M = some q → Wp l y_Mod_plain (0, 0, 447) 447 0 0 37 [(0, .ref 401), (1, .int v1), (2, .int v2)] [] M L (rf ld) Q := by
  intro f
  induction f with
  | zero => intro v2 M h; cases h
  | succ f hK37 =>
    intro v2 M h
    replace h : B_Mod_plain_37 v1 (H_Mod_plain_37 v1 f) v2 M = some q := h
    unfold B_Mod_plain_37 at h
    refine g_iload_n (pc1 := 38) d_Mod_plain_37 rfl 2 rfl ?_
    refine g_iconst (pc1 := 39) (v := 4) d_Mod_plain_38 rfl (by decide) ?_
    refine g_icmp_ge (pc1 := 42) (tgt := 70) d_Mod_plain_39 (by decide) rfl (fun c11 => ?_) (fun c11 => ?_)
    · replace h := itp h c11
      refine g_return rfl d_Mod_plain_70 rfl ?_
      cases h; exact hQ
    · replace h := itn h c11
      refine g_aload_n (pc1 := 43) d_Mod_plain_42 rfl 0 rfl ?_
      refine g_getr (pc1 := 46) d_Mod_plain_43 rfl ⟨_, fo_Mod_85⟩ sh_401 (by decide) (rf_401_36 ld) ?_
      refine g_iconst (pc1 := 47) (v := 4) d_Mod_plain_46 rfl (by decide) ?_
      refine g_iload_n (pc1 := 48) d_Mod_plain_47 rfl 1 rfl ?_
      refine g_imul (pc1 := 49) d_Mod_plain_48 rfl ?_
      refine g_iload_n (pc1 := 50) d_Mod_plain_49 rfl 2 rfl ?_
      refine g_iadd (pc1 := 51) d_Mod_plain_50 rfl ?_
      refine g_iconst (pc1 := 52) (v := 0) d_Mod_plain_51 rfl (by decide) ?_
      obtain ⟨g12, h⟩ := gdn h
      refine g_iast (pc1 := 53) d_Mod_plain_52 rfl sh_424 (by decide) g12 ?_
      refine Wp.lM h (fun M13 h => ?_)
      refine g_aload_n (pc1 := 54) d_Mod_plain_53 rfl 0 rfl ?_
      refine g_getr (pc1 := 57) d_Mod_plain_54 rfl ⟨_, fo_Mod_88⟩ sh_401 (by decide) (rf_401_37 ld) ?_
      refine g_iconst (pc1 := 58) (v := 4) d_Mod_plain_57 rfl (by decide) ?_
      refine g_iload_n (pc1 := 59) d_Mod_plain_58 rfl 1 rfl ?_
      refine g_imul (pc1 := 60) d_Mod_plain_59 rfl ?_
      refine g_iload_n (pc1 := 61) d_Mod_plain_60 rfl 2 rfl ?_
      refine g_iadd (pc1 := 62) d_Mod_plain_61 rfl ?_
      refine g_iconst (pc1 := 63) (v := 0) d_Mod_plain_62 rfl (by decide) ?_
      obtain ⟨g14, h⟩ := gdn h
      refine g_iast (pc1 := 64) d_Mod_plain_63 rfl sh_425 (by decide) g14 ?_
      refine Wp.lM h (fun M15 h => ?_)
      obtain ⟨x16, ex16, h⟩ := ltI h
      refine g_iinc (pc1 := 67) (v := x16) (lv' := [(0, .ref 401), (1, .int v1), (2, .int x16)]) d_Mod_plain_64 rfl 2 rfl (by rw [ex16]; rfl) (by decide) [1, 2, 0] rfl ?_
      refine g_goto (tgt := 37) d_Mod_plain_67 (by decide) ?_
      exact hK37 x16 M15 h
def F_Mod_plain (p1 : Int32) (M : gM) : Option (gM) :=
  (if (p1 : Int32) < 0 ∨ 2 ≤ (p1 : Int32).toNatClampNeg then none else nmM (uM M 411 (p1 : Int32).toNatClampNeg 0) (fun M2 => (if (p1 : Int32) < 0 ∨ 2 ≤ (p1 : Int32).toNatClampNeg then none else nmM (uM M2 415 (p1 : Int32).toNatClampNeg 0) (fun M4 => (if (p1 : Int32) < 0 ∨ 2 ≤ (p1 : Int32).toNatClampNeg then none else nmM (uM M4 418 (p1 : Int32).toNatClampNeg 0) (fun M6 => (if (p1 : Int32) < 0 ∨ 2 ≤ (p1 : Int32).toNatClampNeg then none else nmM (uM M6 420 (p1 : Int32).toNatClampNeg 0) (fun M8 => (if (p1 : Int32) < 0 ∨ 2 ≤ (p1 : Int32).toNatClampNeg then none else nmM (uM M8 423 (p1 : Int32).toNatClampNeg 0) (fun M10 => H_Mod_plain_37 p1 FU 0 M10))))))))))
set_option maxHeartbeats 4000000 in
set_option maxRecDepth 20000 in
theorem f_Mod_plain {l : Launch} {ld : Nat} {M : gM} {L : gL} {Q : Option Value → gM → gL → gR → Prop} (hld : isLa ld) {p1 : Int32}  {q : gM} (h : F_Mod_plain p1 M = some q) (hQ : Q none q L (rf ld)) : Tm l y_Mod_plain (0, 0, 447) 447 [.ref 401, .int p1] M L (rf ld) Q := by
  refine Tm.of (by decide) (Nat.le_of_ble_eq_true rfl) ?_
  show Wp l y_Mod_plain (0, 0, 447) 447 0 0 0 [(0, .ref 401), (1, .int p1)] [] M L (rf ld) Q
  unfold F_Mod_plain at h
  refine g_aload_n (pc1 := 1) d_Mod_plain_0 rfl 0 rfl ?_
  refine g_getr (pc1 := 4) d_Mod_plain_1 rfl ⟨_, fo_Mod_46⟩ sh_401 (by decide) (rf_401_23 ld) ?_
  refine g_iload_n (pc1 := 5) d_Mod_plain_4 rfl 1 rfl ?_
  refine g_iconst (pc1 := 6) (v := 0) d_Mod_plain_5 rfl (by decide) ?_
  obtain ⟨g1, h⟩ := gdn h
  refine g_iast (pc1 := 7) d_Mod_plain_6 rfl sh_411 (by decide) g1 ?_
  refine Wp.lM h (fun M2 h => ?_)
  refine g_aload_n (pc1 := 8) d_Mod_plain_7 rfl 0 rfl ?_
  refine g_getr (pc1 := 11) d_Mod_plain_8 rfl ⟨_, fo_Mod_58⟩ sh_401 (by decide) (rf_401_27 ld) ?_
  refine g_iload_n (pc1 := 12) d_Mod_plain_11 rfl 1 rfl ?_
  refine g_iconst (pc1 := 13) (v := 0) d_Mod_plain_12 rfl (by decide) ?_
  obtain ⟨g3, h⟩ := gdn h
  refine g_iast (pc1 := 14) d_Mod_plain_13 rfl sh_415 (by decide) g3 ?_
  refine Wp.lM h (fun M4 h => ?_)
  refine g_aload_n (pc1 := 15) d_Mod_plain_14 rfl 0 rfl ?_
  refine g_getr (pc1 := 18) d_Mod_plain_15 rfl ⟨_, fo_Mod_67⟩ sh_401 (by decide) (rf_401_30 ld) ?_
  refine g_iload_n (pc1 := 19) d_Mod_plain_18 rfl 1 rfl ?_
  refine g_iconst (pc1 := 20) (v := 0) d_Mod_plain_19 rfl (by decide) ?_
  obtain ⟨g5, h⟩ := gdn h
  refine g_iast (pc1 := 21) d_Mod_plain_20 rfl sh_418 (by decide) g5 ?_
  refine Wp.lM h (fun M6 h => ?_)
  refine g_aload_n (pc1 := 22) d_Mod_plain_21 rfl 0 rfl ?_
  refine g_getr (pc1 := 25) d_Mod_plain_22 rfl ⟨_, fo_Mod_73⟩ sh_401 (by decide) (rf_401_32 ld) ?_
  refine g_iload_n (pc1 := 26) d_Mod_plain_25 rfl 1 rfl ?_
  refine g_iconst (pc1 := 27) (v := 0) d_Mod_plain_26 rfl (by decide) ?_
  obtain ⟨g7, h⟩ := gdn h
  refine g_iast (pc1 := 28) d_Mod_plain_27 rfl sh_420 (by decide) g7 ?_
  refine Wp.lM h (fun M8 h => ?_)
  refine g_aload_n (pc1 := 29) d_Mod_plain_28 rfl 0 rfl ?_
  refine g_getr (pc1 := 32) d_Mod_plain_29 rfl ⟨_, fo_Mod_82⟩ sh_401 (by decide) (rf_401_35 ld) ?_
  refine g_iload_n (pc1 := 33) d_Mod_plain_32 rfl 1 rfl ?_
  refine g_iconst (pc1 := 34) (v := 0) d_Mod_plain_33 rfl (by decide) ?_
  obtain ⟨g9, h⟩ := gdn h
  refine g_iast (pc1 := 35) d_Mod_plain_34 rfl sh_423 (by decide) g9 ?_
  refine Wp.lM h (fun M10 h => ?_)
  refine g_iconst (pc1 := 36) (v := 0) d_Mod_plain_35 rfl (by decide) ?_
  refine g_istore_n (pc1 := 37) (lv' := [(0, .ref 401), (1, .int p1), (2, .int 0)]) d_Mod_plain_36 rfl rfl (by decide) [1, 2, 0] rfl ?_
  exact h_Mod_plain_37 hld  hQ  _ 0 M10 h

def B_Mod_potMany_4 (M : gM) (K4 : Int32 → Int32 → Option (Int32)) : Int32 → Int32 → Option (Int32) := fun v1 v2 =>
  (if 6 ≤ v2 then some v1 else (if (v2 : Int32) < 0 ∨ 6 ≤ (v2 : Int32).toNatClampNeg then none else nmI (v1 + (M 438 (v2 : Int32).toNatClampNeg)) (fun x3 => nmI (v2 + 1) (fun x4 => K4 x3 x4))))
def H_Mod_potMany_4 (M : gM) : Nat → Int32 → Int32 → Option (Int32) := lpK (B_Mod_potMany_4 M) (fun _ _ => none)
set_option maxHeartbeats 4000000 in
set_option maxRecDepth 20000 in
theorem h_Mod_potMany_4 {l : Launch} {ld : Nat} {Q : Option Value → gM → gL → gR → Prop} (hld : isLa ld)   {q : Int32} {M : gM} {L : gL} (hQ : Q (some (.int q)) M L (rf ld))    : ∀ (f : Nat) (v1 : Int32) (v2 : Int32), H_Mod_potMany_4 M f v1 v2 = some q → Wp l y_Mod_potMany (0, 0, 447) 447 0 0 4 [(0, .ref 401), (1, .int v1), (2, .int v2)] [] M L (rf ld) Q := by
  intro f
  induction f with
  | zero => intro v1 v2 h; cases h
  | succ f hK4 =>
    intro v1 v2 h
    replace h : B_Mod_potMany_4 M (H_Mod_potMany_4 M f) v1 v2 = some q := h
    unfold B_Mod_potMany_4 at h
    refine g_iload_n (pc1 := 5) d_Mod_potMany_4 rfl 2 rfl ?_
    refine g_bipush (pc1 := 7) (v := 6) d_Mod_potMany_5 rfl (by decide) ?_
    refine g_icmp_ge (pc1 := 10) (tgt := 25) d_Mod_potMany_7 (by decide) rfl (fun c1 => ?_) (fun c1 => ?_)
    · replace h := itp h c1
      refine g_iload_n (pc1 := 26) d_Mod_potMany_25 rfl 1 rfl ?_
      refine g_ireturn (Or.inl rfl) d_Mod_potMany_26 rfl ?_
      cases h; exact hQ
    · replace h := itn h c1
      refine g_iload_n (pc1 := 11) d_Mod_potMany_10 rfl 1 rfl ?_
      refine g_aload_n (pc1 := 12) d_Mod_potMany_11 rfl 0 rfl ?_
      refine g_getr (pc1 := 15) d_Mod_potMany_12 rfl ⟨_, fo_Mod_128⟩ sh_401 (by decide) (rf_401_55 ld) ?_
      refine g_iload_n (pc1 := 16) d_Mod_potMany_15 rfl 2 rfl ?_
      obtain ⟨g2, h⟩ := gdn h
      refine g_iald (pc1 := 17) d_Mod_potMany_16 rfl sh_438 (by decide) g2 ?_
      refine g_iadd (pc1 := 18) d_Mod_potMany_17 rfl ?_
      refine Wp.lI h (fun x3 h => ?_)
      refine g_istore_n (pc1 := 19) (lv' := [(0, .ref 401), (1, .int x3), (2, .int v2)]) d_Mod_potMany_18 rfl rfl (by decide) [1, 0, 2] rfl ?_
      obtain ⟨x4, ex4, h⟩ := ltI h
      refine g_iinc (pc1 := 22) (v := x4) (lv' := [(0, .ref 401), (1, .int x3), (2, .int x4)]) d_Mod_potMany_19 rfl 2 rfl (by rw [ex4]; rfl) (by decide) [1, 2, 0] rfl ?_
      refine g_goto (tgt := 4) d_Mod_potMany_22 (by decide) ?_
      exact hK4 x3 x4 h
def F_Mod_potMany (M : gM) : Option (Int32) :=
  H_Mod_potMany_4 M FU 0 0
set_option maxHeartbeats 4000000 in
set_option maxRecDepth 20000 in
theorem f_Mod_potMany {l : Launch} {ld : Nat} {M : gM} {L : gL} {Q : Option Value → gM → gL → gR → Prop} (hld : isLa ld)   {q : Int32} (h : F_Mod_potMany M = some q) (hQ : Q (some (.int q)) M L (rf ld)) : Tm l y_Mod_potMany (0, 0, 447) 447 [.ref 401] M L (rf ld) Q := by
  refine Tm.of (by decide) (Nat.le_of_ble_eq_true rfl) ?_
  show Wp l y_Mod_potMany (0, 0, 447) 447 0 0 0 [(0, .ref 401)] [] M L (rf ld) Q
  unfold F_Mod_potMany at h
  refine g_iconst (pc1 := 1) (v := 0) d_Mod_potMany_0 rfl (by decide) ?_
  refine g_istore_n (pc1 := 2) (lv' := [(0, .ref 401), (1, .int 0)]) d_Mod_potMany_1 rfl rfl (by decide) [1, 0] rfl ?_
  refine g_iconst (pc1 := 3) (v := 0) d_Mod_potMany_2 rfl (by decide) ?_
  refine g_istore_n (pc1 := 4) (lv' := [(0, .ref 401), (1, .int 0), (2, .int 0)]) d_Mod_potMany_3 rfl rfl (by decide) [1, 2, 0] rfl ?_
  exact h_Mod_potMany_4 hld  hQ  _ 0 0 h

def B_Mod_potPrice_4 (M : gM) (K4 : Int32 → Int32 → Option (Int32)) : Int32 → Int32 → Option (Int32) := fun v1 v2 =>
  (if ((M 401 18) : Int32) < 0 ∨ 2 ≤ ((M 401 18) : Int32).toNatClampNeg then none else (if (M 411 ((M 401 18) : Int32).toNatClampNeg) ≤ v2 then some v1 else (if (v2 : Int32) < 0 ∨ 6 ≤ (v2 : Int32).toNatClampNeg then none else (if (((6 * (M 401 18)) + v2) : Int32) < 0 ∨ 12 ≤ (((6 * (M 401 18)) + v2) : Int32).toNatClampNeg then none else nmI (v1 + ((M 438 (v2 : Int32).toNatClampNeg) * (M 413 (((6 * (M 401 18)) + v2) : Int32).toNatClampNeg))) (fun x5 => nmI (v2 + 1) (fun x6 => K4 x5 x6))))))
def H_Mod_potPrice_4 (M : gM) : Nat → Int32 → Int32 → Option (Int32) := lpK (B_Mod_potPrice_4 M) (fun _ _ => none)
set_option maxHeartbeats 4000000 in
set_option maxRecDepth 20000 in
theorem h_Mod_potPrice_4 {l : Launch} {ld : Nat} {Q : Option Value → gM → gL → gR → Prop} (hld : isLa ld)   {q : Int32} {M : gM} {L : gL} (hQ : Q (some (.int q)) M L (rf ld))    : ∀ (f : Nat) (v1 : Int32) (v2 : Int32), H_Mod_potPrice_4 M f v1 v2 = some q → Wp l y_Mod_potPrice (0, 0, 447) 447 0 0 4 [(0, .ref 401), (1, .int v1), (2, .int v2)] [] M L (rf ld) Q := by
  intro f
  induction f with
  | zero => intro v1 v2 h; cases h
  | succ f hK4 =>
    intro v1 v2 h
    replace h : B_Mod_potPrice_4 M (H_Mod_potPrice_4 M f) v1 v2 = some q := h
    unfold B_Mod_potPrice_4 at h
    refine g_iload_n (pc1 := 5) d_Mod_potPrice_4 rfl 2 rfl ?_
    refine g_aload_n (pc1 := 6) d_Mod_potPrice_5 rfl 0 rfl ?_
    refine g_getr (pc1 := 9) d_Mod_potPrice_6 rfl ⟨_, fo_Mod_46⟩ sh_401 (by decide) (rf_401_23 ld) ?_
    refine g_aload_n (pc1 := 10) d_Mod_potPrice_9 rfl 0 rfl ?_
    refine g_geti (pc1 := 13) d_Mod_potPrice_10 rfl ⟨_, fo_Mod_236⟩ sh_401 (by decide) ?_
    obtain ⟨g1, h⟩ := gdn h
    refine g_iald (pc1 := 14) d_Mod_potPrice_13 rfl sh_411 (by decide) g1 ?_
    refine g_icmp_ge (pc1 := 17) (tgt := 47) d_Mod_potPrice_14 (by decide) rfl (fun c2 => ?_) (fun c2 => ?_)
    · replace h := itp h c2
      refine g_iload_n (pc1 := 48) d_Mod_potPrice_47 rfl 1 rfl ?_
      refine g_ireturn (Or.inl rfl) d_Mod_potPrice_48 rfl ?_
      cases h; exact hQ
    · replace h := itn h c2
      refine g_iload_n (pc1 := 18) d_Mod_potPrice_17 rfl 1 rfl ?_
      refine g_aload_n (pc1 := 19) d_Mod_potPrice_18 rfl 0 rfl ?_
      refine g_getr (pc1 := 22) d_Mod_potPrice_19 rfl ⟨_, fo_Mod_128⟩ sh_401 (by decide) (rf_401_55 ld) ?_
      refine g_iload_n (pc1 := 23) d_Mod_potPrice_22 rfl 2 rfl ?_
      obtain ⟨g3, h⟩ := gdn h
      refine g_iald (pc1 := 24) d_Mod_potPrice_23 rfl sh_438 (by decide) g3 ?_
      refine g_aload_n (pc1 := 25) d_Mod_potPrice_24 rfl 0 rfl ?_
      refine g_getr (pc1 := 28) d_Mod_potPrice_25 rfl ⟨_, fo_Mod_52⟩ sh_401 (by decide) (rf_401_25 ld) ?_
      refine g_bipush (pc1 := 30) (v := 6) d_Mod_potPrice_28 rfl (by decide) ?_
      refine g_aload_n (pc1 := 31) d_Mod_potPrice_30 rfl 0 rfl ?_
      refine g_geti (pc1 := 34) d_Mod_potPrice_31 rfl ⟨_, fo_Mod_236⟩ sh_401 (by decide) ?_
      refine g_imul (pc1 := 35) d_Mod_potPrice_34 rfl ?_
      refine g_iload_n (pc1 := 36) d_Mod_potPrice_35 rfl 2 rfl ?_
      refine g_iadd (pc1 := 37) d_Mod_potPrice_36 rfl ?_
      obtain ⟨g4, h⟩ := gdn h
      refine g_iald (pc1 := 38) d_Mod_potPrice_37 rfl sh_413 (by decide) g4 ?_
      refine g_imul (pc1 := 39) d_Mod_potPrice_38 rfl ?_
      refine g_iadd (pc1 := 40) d_Mod_potPrice_39 rfl ?_
      refine Wp.lI h (fun x5 h => ?_)
      refine g_istore_n (pc1 := 41) (lv' := [(0, .ref 401), (1, .int x5), (2, .int v2)]) d_Mod_potPrice_40 rfl rfl (by decide) [1, 0, 2] rfl ?_
      obtain ⟨x6, ex6, h⟩ := ltI h
      refine g_iinc (pc1 := 44) (v := x6) (lv' := [(0, .ref 401), (1, .int x5), (2, .int x6)]) d_Mod_potPrice_41 rfl 2 rfl (by rw [ex6]; rfl) (by decide) [1, 2, 0] rfl ?_
      refine g_goto (tgt := 4) d_Mod_potPrice_44 (by decide) ?_
      exact hK4 x5 x6 h
def F_Mod_potPrice (M : gM) : Option (Int32) :=
  H_Mod_potPrice_4 M FU 0 0
set_option maxHeartbeats 4000000 in
set_option maxRecDepth 20000 in
theorem f_Mod_potPrice {l : Launch} {ld : Nat} {M : gM} {L : gL} {Q : Option Value → gM → gL → gR → Prop} (hld : isLa ld)   {q : Int32} (h : F_Mod_potPrice M = some q) (hQ : Q (some (.int q)) M L (rf ld)) : Tm l y_Mod_potPrice (0, 0, 447) 447 [.ref 401] M L (rf ld) Q := by
  refine Tm.of (by decide) (Nat.le_of_ble_eq_true rfl) ?_
  show Wp l y_Mod_potPrice (0, 0, 447) 447 0 0 0 [(0, .ref 401)] [] M L (rf ld) Q
  unfold F_Mod_potPrice at h
  refine g_iconst (pc1 := 1) (v := 0) d_Mod_potPrice_0 rfl (by decide) ?_
  refine g_istore_n (pc1 := 2) (lv' := [(0, .ref 401), (1, .int 0)]) d_Mod_potPrice_1 rfl rfl (by decide) [1, 0] rfl ?_
  refine g_iconst (pc1 := 3) (v := 0) d_Mod_potPrice_2 rfl (by decide) ?_
  refine g_istore_n (pc1 := 4) (lv' := [(0, .ref 401), (1, .int 0), (2, .int 0)]) d_Mod_potPrice_3 rfl rfl (by decide) [1, 2, 0] rfl ?_
  exact h_Mod_potPrice_4 hld  hQ  _ 0 0 h

def B_Mod_put_3 (v1 : Int32) (K3 : Int32 → gM → Option (gM)) : Int32 → gM → Option (gM) := fun v2 M =>
  (if v2 < 0 then some M else (if ((M 401 2) : Int32) < 0 ∨ 2000 ≤ ((M 401 2) : Int32).toNatClampNeg then none else nmM (uM M 402 ((M 401 2) : Int32).toNatClampNeg (vp_nar .byte (((v1 >>> (v2 &&& 31)) : Int32).toInt8.toInt32))) (fun M3 => nmM (uM M3 401 2 ((M3 401 2) + 1)) (fun M4 => nmI (v2 + (-8)) (fun x5 => K3 x5 M4)))))
def H_Mod_put_3 (v1 : Int32) : Nat → Int32 → gM → Option (gM) := lpK (B_Mod_put_3 v1) (fun _ _ => none)
set_option maxHeartbeats 4000000 in
set_option maxRecDepth 20000 in
theorem h_Mod_put_3 {l : Launch} {ld : Nat} {Q : Option Value → gM → gL → gR → Prop} (hld : isLa ld)   {q : gM} {L : gL} (hQ : Q none q L (rf ld))  {v1 : Int32}  : ∀ (f : Nat) (v2 : Int32) (M : gM), H_Mod_put_3 v1 f v2 M = some q → Wp l y_Mod_put (0, 0, 447) 447 0 0 3 [(0, .ref 401), (1, .int v1), (2, .int v2)] [] M L (rf ld) Q := by
  intro f
  induction f with
  | zero => intro v2 M h; cases h
  | succ f hK3 =>
    intro v2 M h
    replace h : B_Mod_put_3 v1 (H_Mod_put_3 v1 f) v2 M = some q := h
    unfold B_Mod_put_3 at h
    refine g_iload_n (pc1 := 4) d_Mod_put_3 rfl 2 rfl ?_
    refine g_if_lt (pc1 := 7) (tgt := 36) d_Mod_put_4 (by decide) rfl (fun c1 => ?_) (fun c1 => ?_)
    · replace h := itp h c1
      refine g_return rfl d_Mod_put_36 rfl ?_
      cases h; exact hQ
    · replace h := itn h c1
      refine g_aload_n (pc1 := 8) d_Mod_put_7 rfl 0 rfl ?_
      refine g_getr (pc1 := 11) d_Mod_put_8 rfl ⟨_, fo_Mod_13⟩ sh_401 (by decide) (rf_401_1 ld) ?_
      refine g_aload_n (pc1 := 12) d_Mod_put_11 rfl 0 rfl ?_
      refine g_geti (pc1 := 15) d_Mod_put_12 rfl ⟨_, fo_Mod_169⟩ sh_401 (by decide) ?_
      refine g_iload_n (pc1 := 16) d_Mod_put_15 rfl 1 rfl ?_
      refine g_iload_n (pc1 := 17) d_Mod_put_16 rfl 2 rfl ?_
      refine g_ishr (pc1 := 18) d_Mod_put_17 rfl ?_
      refine g_i2b (pc1 := 19) d_Mod_put_18 rfl ?_
      obtain ⟨g2, h⟩ := gdn h
      refine g_bast (pc1 := 20) d_Mod_put_19 rfl sh_402 (by decide) g2 ?_
      refine Wp.lM h (fun M3 h => ?_)
      refine g_aload_n (pc1 := 21) d_Mod_put_20 rfl 0 rfl ?_
      refine g_dup (pc1 := 22) d_Mod_put_21 rfl rfl ?_
      refine g_geti (pc1 := 25) d_Mod_put_22 rfl ⟨_, fo_Mod_169⟩ sh_401 (by decide) ?_
      refine g_iconst (pc1 := 26) (v := 1) d_Mod_put_25 rfl (by decide) ?_
      refine g_iadd (pc1 := 27) d_Mod_put_26 rfl ?_
      refine g_puti (pc1 := 30) d_Mod_put_27 rfl fo_Mod_169 (po_12_2 _) sh_401 (by decide) ?_
      refine Wp.lM h (fun M4 h => ?_)
      obtain ⟨x5, ex5, h⟩ := ltI h
      refine g_iinc (pc1 := 33) (v := x5) (lv' := [(0, .ref 401), (1, .int v1), (2, .int x5)]) d_Mod_put_30 rfl 2 rfl (by rw [ex5]; rfl) (by decide) [1, 2, 0] rfl ?_
      refine g_goto (tgt := 3) d_Mod_put_33 (by decide) ?_
      exact hK3 x5 M4 h
def F_Mod_put (p1 : Int32) (M : gM) : Option (gM) :=
  H_Mod_put_3 p1 FU 24 M
set_option maxHeartbeats 4000000 in
set_option maxRecDepth 20000 in
theorem f_Mod_put {l : Launch} {ld : Nat} {M : gM} {L : gL} {Q : Option Value → gM → gL → gR → Prop} (hld : isLa ld) {p1 : Int32}  {q : gM} (h : F_Mod_put p1 M = some q) (hQ : Q none q L (rf ld)) : Tm l y_Mod_put (0, 0, 447) 447 [.ref 401, .int p1] M L (rf ld) Q := by
  refine Tm.of (by decide) (Nat.le_of_ble_eq_true rfl) ?_
  show Wp l y_Mod_put (0, 0, 447) 447 0 0 0 [(0, .ref 401), (1, .int p1)] [] M L (rf ld) Q
  unfold F_Mod_put at h
  refine g_bipush (pc1 := 2) (v := 24) d_Mod_put_0 rfl (by decide) ?_
  refine g_istore_n (pc1 := 3) (lv' := [(0, .ref 401), (1, .int p1), (2, .int 24)]) d_Mod_put_2 rfl rfl (by decide) [1, 2, 0] rfl ?_
  exact h_Mod_put_3 hld  hQ  _ 24 M h

def B_Mod_sevens_4 (v0 : Int32) (K4 : Int32 → Int32 → Option (Int32)) : Int32 → Int32 → Option (Int32) := fun v1 v2 =>
  (if v0 ≤ v2 then some v1 else nmI (v1 * 7) (fun x2 => nmI (v2 + 1) (fun x3 => K4 x2 x3)))
def H_Mod_sevens_4 (v0 : Int32) : Nat → Int32 → Int32 → Option (Int32) := lpK (B_Mod_sevens_4 v0) (fun _ _ => none)
set_option maxHeartbeats 4000000 in
set_option maxRecDepth 20000 in
theorem h_Mod_sevens_4 {l : Launch} {ld : Nat} {Q : Option Value → gM → gL → gR → Prop} (hld : isLa ld)   {q : Int32} {M : gM} {L : gL} (hQ : Q (some (.int q)) M L (rf ld))  {v0 : Int32}  : ∀ (f : Nat) (v1 : Int32) (v2 : Int32), H_Mod_sevens_4 v0 f v1 v2 = some q → Wp l y_Mod_sevens (0, 0, 447) 447 0 0 4 [(0, .int v0), (1, .int v1), (2, .int v2)] [] M L (rf ld) Q := by
  intro f
  induction f with
  | zero => intro v1 v2 h; cases h
  | succ f hK4 =>
    intro v1 v2 h
    replace h : B_Mod_sevens_4 v0 (H_Mod_sevens_4 v0 f) v1 v2 = some q := h
    unfold B_Mod_sevens_4 at h
    refine g_iload_n (pc1 := 5) d_Mod_sevens_4 rfl 2 rfl ?_
    refine g_iload_n (pc1 := 6) d_Mod_sevens_5 rfl 0 rfl ?_
    refine g_icmp_ge (pc1 := 9) (tgt := 20) d_Mod_sevens_6 (by decide) rfl (fun c1 => ?_) (fun c1 => ?_)
    · replace h := itp h c1
      refine g_iload_n (pc1 := 21) d_Mod_sevens_20 rfl 1 rfl ?_
      refine g_ireturn (Or.inl rfl) d_Mod_sevens_21 rfl ?_
      cases h; exact hQ
    · replace h := itn h c1
      refine g_iload_n (pc1 := 10) d_Mod_sevens_9 rfl 1 rfl ?_
      refine g_bipush (pc1 := 12) (v := 7) d_Mod_sevens_10 rfl (by decide) ?_
      refine g_imul (pc1 := 13) d_Mod_sevens_12 rfl ?_
      refine Wp.lI h (fun x2 h => ?_)
      refine g_istore_n (pc1 := 14) (lv' := [(0, .int v0), (1, .int x2), (2, .int v2)]) d_Mod_sevens_13 rfl rfl (by decide) [1, 0, 2] rfl ?_
      obtain ⟨x3, ex3, h⟩ := ltI h
      refine g_iinc (pc1 := 17) (v := x3) (lv' := [(0, .int v0), (1, .int x2), (2, .int x3)]) d_Mod_sevens_14 rfl 2 rfl (by rw [ex3]; rfl) (by decide) [1, 2, 0] rfl ?_
      refine g_goto (tgt := 4) d_Mod_sevens_17 (by decide) ?_
      exact hK4 x2 x3 h
def F_Mod_sevens (p1 : Int32) : Option (Int32) :=
  H_Mod_sevens_4 p1 FU 1 0
set_option maxHeartbeats 4000000 in
set_option maxRecDepth 20000 in
theorem f_Mod_sevens {l : Launch} {ld : Nat} {M : gM} {L : gL} {Q : Option Value → gM → gL → gR → Prop} (hld : isLa ld) {p1 : Int32}  {q : Int32} (h : F_Mod_sevens p1 = some q) (hQ : Q (some (.int q)) M L (rf ld)) : Tm l y_Mod_sevens (0, 0, 447) 447 [.int p1] M L (rf ld) Q := by
  refine Tm.of (by decide) (Nat.le_of_ble_eq_true rfl) ?_
  show Wp l y_Mod_sevens (0, 0, 447) 447 0 0 0 [(0, .int p1)] [] M L (rf ld) Q
  unfold F_Mod_sevens at h
  refine g_iconst (pc1 := 1) (v := 1) d_Mod_sevens_0 rfl (by decide) ?_
  refine g_istore_n (pc1 := 2) (lv' := [(0, .int p1), (1, .int 1)]) d_Mod_sevens_1 rfl rfl (by decide) [1, 0] rfl ?_
  refine g_iconst (pc1 := 3) (v := 0) d_Mod_sevens_2 rfl (by decide) ?_
  refine g_istore_n (pc1 := 4) (lv' := [(0, .int p1), (1, .int 1), (2, .int 0)]) d_Mod_sevens_3 rfl rfl (by decide) [1, 2, 0] rfl ?_
  exact h_Mod_sevens_4 hld  hQ  _ 1 0 h

def B_Mod_sixes_4 (v0 : Int32) (K4 : Int32 → Int32 → Option (Int32)) : Int32 → Int32 → Option (Int32) := fun v1 v2 =>
  (if v0 ≤ v2 then some v1 else nmI (v1 * 6) (fun x2 => nmI (v2 + 1) (fun x3 => K4 x2 x3)))
def H_Mod_sixes_4 (v0 : Int32) : Nat → Int32 → Int32 → Option (Int32) := lpK (B_Mod_sixes_4 v0) (fun _ _ => none)
set_option maxHeartbeats 4000000 in
set_option maxRecDepth 20000 in
theorem h_Mod_sixes_4 {l : Launch} {ld : Nat} {Q : Option Value → gM → gL → gR → Prop} (hld : isLa ld)   {q : Int32} {M : gM} {L : gL} (hQ : Q (some (.int q)) M L (rf ld))  {v0 : Int32}  : ∀ (f : Nat) (v1 : Int32) (v2 : Int32), H_Mod_sixes_4 v0 f v1 v2 = some q → Wp l y_Mod_sixes (0, 0, 447) 447 0 0 4 [(0, .int v0), (1, .int v1), (2, .int v2)] [] M L (rf ld) Q := by
  intro f
  induction f with
  | zero => intro v1 v2 h; cases h
  | succ f hK4 =>
    intro v1 v2 h
    replace h : B_Mod_sixes_4 v0 (H_Mod_sixes_4 v0 f) v1 v2 = some q := h
    unfold B_Mod_sixes_4 at h
    refine g_iload_n (pc1 := 5) d_Mod_sixes_4 rfl 2 rfl ?_
    refine g_iload_n (pc1 := 6) d_Mod_sixes_5 rfl 0 rfl ?_
    refine g_icmp_ge (pc1 := 9) (tgt := 20) d_Mod_sixes_6 (by decide) rfl (fun c1 => ?_) (fun c1 => ?_)
    · replace h := itp h c1
      refine g_iload_n (pc1 := 21) d_Mod_sixes_20 rfl 1 rfl ?_
      refine g_ireturn (Or.inl rfl) d_Mod_sixes_21 rfl ?_
      cases h; exact hQ
    · replace h := itn h c1
      refine g_iload_n (pc1 := 10) d_Mod_sixes_9 rfl 1 rfl ?_
      refine g_bipush (pc1 := 12) (v := 6) d_Mod_sixes_10 rfl (by decide) ?_
      refine g_imul (pc1 := 13) d_Mod_sixes_12 rfl ?_
      refine Wp.lI h (fun x2 h => ?_)
      refine g_istore_n (pc1 := 14) (lv' := [(0, .int v0), (1, .int x2), (2, .int v2)]) d_Mod_sixes_13 rfl rfl (by decide) [1, 0, 2] rfl ?_
      obtain ⟨x3, ex3, h⟩ := ltI h
      refine g_iinc (pc1 := 17) (v := x3) (lv' := [(0, .int v0), (1, .int x2), (2, .int x3)]) d_Mod_sixes_14 rfl 2 rfl (by rw [ex3]; rfl) (by decide) [1, 2, 0] rfl ?_
      refine g_goto (tgt := 4) d_Mod_sixes_17 (by decide) ?_
      exact hK4 x2 x3 h
def F_Mod_sixes (p1 : Int32) : Option (Int32) :=
  H_Mod_sixes_4 p1 FU 1 0
set_option maxHeartbeats 4000000 in
set_option maxRecDepth 20000 in
theorem f_Mod_sixes {l : Launch} {ld : Nat} {M : gM} {L : gL} {Q : Option Value → gM → gL → gR → Prop} (hld : isLa ld) {p1 : Int32}  {q : Int32} (h : F_Mod_sixes p1 = some q) (hQ : Q (some (.int q)) M L (rf ld)) : Tm l y_Mod_sixes (0, 0, 447) 447 [.int p1] M L (rf ld) Q := by
  refine Tm.of (by decide) (Nat.le_of_ble_eq_true rfl) ?_
  show Wp l y_Mod_sixes (0, 0, 447) 447 0 0 0 [(0, .int p1)] [] M L (rf ld) Q
  unfold F_Mod_sixes at h
  refine g_iconst (pc1 := 1) (v := 1) d_Mod_sixes_0 rfl (by decide) ?_
  refine g_istore_n (pc1 := 2) (lv' := [(0, .int p1), (1, .int 1)]) d_Mod_sixes_1 rfl rfl (by decide) [1, 0] rfl ?_
  refine g_iconst (pc1 := 3) (v := 0) d_Mod_sixes_2 rfl (by decide) ?_
  refine g_istore_n (pc1 := 4) (lv' := [(0, .int p1), (1, .int 1), (2, .int 0)]) d_Mod_sixes_3 rfl rfl (by decide) [1, 2, 0] rfl ?_
  exact h_Mod_sixes_4 hld  hQ  _ 1 0 h

def J_Mod_termOf_165 (M : gM) : Option (Int32 × gM) :=
  some ((M 435 0), M)
set_option maxHeartbeats 4000000 in
set_option maxRecDepth 20000 in
theorem j_Mod_termOf_165 {l : Launch} {ld : Nat} {Q : Option Value → gM → gL → gR → Prop} (hld : isLa ld)   {q : Int32 × gM} {M : gM} {L : gL} (hQ : Q (some (.int q.1)) q.2 L (rf ld))    (h : J_Mod_termOf_165 M = some q) : Wp l y_Mod_termOf (0, 0, 447) 447 0 0 165 [(0, .ref 401)] [] M L (rf ld) Q := by
  unfold J_Mod_termOf_165 at h
  refine g_aload_n (pc1 := 166) d_Mod_termOf_165 rfl 0 rfl ?_
  refine g_getr (pc1 := 169) d_Mod_termOf_166 rfl ⟨_, fo_Mod_119⟩ sh_401 (by decide) (rf_401_50 ld) ?_
  refine g_iconst (pc1 := 170) (v := 0) d_Mod_termOf_169 rfl (by decide) ?_
  refine g_iald (pc1 := 171) d_Mod_termOf_170 rfl sh_435 (by decide) (vin_lit (x := 0) (by decide)) ?_
  refine Wp.vali (y := (M 435 0)) (congrArg (M 435) (by decide)) ?_
  refine g_ireturn (Or.inl rfl) d_Mod_termOf_171 rfl ?_
  cases h; exact hQ
def J_Mod_termOf_159 (K5 : Int32 → Int32 → gM → Option (Int32 × gM)) (v2 : Int32) (v3 : Int32) (v4 : Int32) (M : gM) : Option (Int32 × gM) :=
  nmI (v4 + 1) (fun x17 => K5 v3 x17 M)
set_option maxHeartbeats 4000000 in
set_option maxRecDepth 20000 in
theorem j_Mod_termOf_159 {l : Launch} {ld : Nat} {Q : Option Value → gM → gL → gR → Prop} (hld : isLa ld)   {q : Int32 × gM} {M : gM} {L : gL} (hQ : Q (some (.int q.1)) q.2 L (rf ld)) {K5 : Int32 → Int32 → gM → Option (Int32 × gM)} {v2 : Int32} {v3 : Int32} {v4 : Int32} (hK5 : ∀ (w3 : Int32) (w4 : Int32) (M : gM), K5 w3 w4 M = some q → Wp l y_Mod_termOf (0, 0, 447) 447 0 0 5 [(0, .ref 401), (2, .int v2), (3, .int w3), (4, .int w4)] [] M L (rf ld) Q) (h : J_Mod_termOf_159 K5 v2 v3 v4 M = some q) : Wp l y_Mod_termOf (0, 0, 447) 447 0 0 159 [(0, .ref 401), (2, .int v2), (3, .int v3), (4, .int v4)] [] M L (rf ld) Q := by
  unfold J_Mod_termOf_159 at h
  obtain ⟨x17, ex17, h⟩ := ltI h
  refine g_iinc (pc1 := 162) (v := x17) (lv' := [(0, .ref 401), (2, .int v2), (3, .int v3), (4, .int x17)]) d_Mod_termOf_159 rfl 3 rfl (by rw [ex17]; rfl) (by decide) [1, 2, 3, 0] rfl ?_
  refine g_goto (tgt := 5) d_Mod_termOf_162 (by decide) ?_
  exact hK5 v3 x17 M h
def J_Mod_termOf_158 (K5 : Int32 → Int32 → gM → Option (Int32 × gM)) (v2 : Int32) (v3 : Int32) (v4 : Int32) (s1 : Int32) (s2 : Int32) (M : gM) : Option (Int32 × gM) :=
  (if (s1 : Int32) < 0 ∨ 400 ≤ (s1 : Int32).toNatClampNeg then none else nmM (uM M 435 (s1 : Int32).toNatClampNeg s2) (fun M16 => J_Mod_termOf_159 K5 v2 v3 v4 M16))
set_option maxHeartbeats 4000000 in
set_option maxRecDepth 20000 in
theorem j_Mod_termOf_158 {l : Launch} {ld : Nat} {Q : Option Value → gM → gL → gR → Prop} (hld : isLa ld)   {q : Int32 × gM} {M : gM} {L : gL} (hQ : Q (some (.int q.1)) q.2 L (rf ld)) {K5 : Int32 → Int32 → gM → Option (Int32 × gM)} {v2 : Int32} {v3 : Int32} {v4 : Int32} {s1 : Int32} {s2 : Int32} (hK5 : ∀ (w3 : Int32) (w4 : Int32) (M : gM), K5 w3 w4 M = some q → Wp l y_Mod_termOf (0, 0, 447) 447 0 0 5 [(0, .ref 401), (2, .int v2), (3, .int w3), (4, .int w4)] [] M L (rf ld) Q) (h : J_Mod_termOf_158 K5 v2 v3 v4 s1 s2 M = some q) : Wp l y_Mod_termOf (0, 0, 447) 447 0 0 158 [(0, .ref 401), (2, .int v2), (3, .int v3), (4, .int v4)] [.int s2, .int s1, .ref 435] M L (rf ld) Q := by
  unfold J_Mod_termOf_158 at h
  obtain ⟨g15, h⟩ := gdn h
  refine g_iast (pc1 := 159) d_Mod_termOf_158 rfl sh_435 (by decide) g15 ?_
  refine Wp.lM h (fun M16 h => ?_)
  exact j_Mod_termOf_159 hld  hQ hK5 h
def J_Mod_termOf_104 (K5 : Int32 → Int32 → gM → Option (Int32 × gM)) (v2 : Int32) (v3 : Int32) (v4 : Int32) (v5 : Int32) (v6 : Int32) (v7 : Int32) (M : gM) : Option (Int32 × gM) :=
  (if v5 = 2 then J_Mod_termOf_158 K5 v2 v3 v4 (v3 - 1) (v6 + v7) M else (if v5 = 3 then J_Mod_termOf_158 K5 v2 v3 v4 (v3 - 1) (v6 - v7) M else (if v5 = 4 then J_Mod_termOf_158 K5 v2 v3 v4 (v3 - 1) (v6 * v7) M else (if v7 = 0 then none else J_Mod_termOf_158 K5 v2 v3 v4 (v3 - 1) (v6 / v7) M))))
set_option maxHeartbeats 4000000 in
set_option maxRecDepth 20000 in
theorem j_Mod_termOf_104 {l : Launch} {ld : Nat} {Q : Option Value → gM → gL → gR → Prop} (hld : isLa ld)   {q : Int32 × gM} {M : gM} {L : gL} (hQ : Q (some (.int q.1)) q.2 L (rf ld)) {K5 : Int32 → Int32 → gM → Option (Int32 × gM)} {v2 : Int32} {v3 : Int32} {v4 : Int32} {v5 : Int32} {v6 : Int32} {v7 : Int32} (hK5 : ∀ (w3 : Int32) (w4 : Int32) (M : gM), K5 w3 w4 M = some q → Wp l y_Mod_termOf (0, 0, 447) 447 0 0 5 [(0, .ref 401), (2, .int v2), (3, .int w3), (4, .int w4)] [] M L (rf ld) Q) (h : J_Mod_termOf_104 K5 v2 v3 v4 v5 v6 v7 M = some q) : Wp l y_Mod_termOf (0, 0, 447) 447 0 0 104 [(0, .ref 401), (2, .int v2), (3, .int v3), (4, .int v4), (5, .int v5), (6, .int v6), (7, .int v7)] [] M L (rf ld) Q := by
  unfold J_Mod_termOf_104 at h
  refine g_aload_n (pc1 := 105) d_Mod_termOf_104 rfl 0 rfl ?_
  refine g_getr (pc1 := 108) d_Mod_termOf_105 rfl ⟨_, fo_Mod_119⟩ sh_401 (by decide) (rf_401_50 ld) ?_
  refine g_iload_n (pc1 := 109) d_Mod_termOf_108 rfl 2 rfl ?_
  refine g_iconst (pc1 := 110) (v := 1) d_Mod_termOf_109 rfl (by decide) ?_
  refine g_isub (pc1 := 111) d_Mod_termOf_110 rfl ?_
  refine g_iload (pc1 := 113) d_Mod_termOf_111 rfl 4 rfl ?_
  refine g_iconst (pc1 := 114) (v := 2) d_Mod_termOf_113 rfl (by decide) ?_
  refine g_icmp_ne (pc1 := 117) (tgt := 125) d_Mod_termOf_114 (by decide) rfl (fun c11 => ?_) (fun c11 => ?_)
  · replace h := itn h c11
    refine g_iload (pc1 := 127) d_Mod_termOf_125 rfl 4 rfl ?_
    refine g_iconst (pc1 := 128) (v := 3) d_Mod_termOf_127 rfl (by decide) ?_
    refine g_icmp_ne (pc1 := 131) (tgt := 139) d_Mod_termOf_128 (by decide) rfl (fun c12 => ?_) (fun c12 => ?_)
    · replace h := itn h c12
      refine g_iload (pc1 := 141) d_Mod_termOf_139 rfl 4 rfl ?_
      refine g_iconst (pc1 := 142) (v := 4) d_Mod_termOf_141 rfl (by decide) ?_
      refine g_icmp_ne (pc1 := 145) (tgt := 153) d_Mod_termOf_142 (by decide) rfl (fun c13 => ?_) (fun c13 => ?_)
      · replace h := itn h c13
        refine g_iload (pc1 := 155) d_Mod_termOf_153 rfl 5 rfl ?_
        refine g_iload (pc1 := 157) d_Mod_termOf_155 rfl 6 rfl ?_
        obtain ⟨g14, h⟩ := gdn h
        refine g_idiv (pc1 := 158) d_Mod_termOf_157 rfl g14 ?_
        refine Wp.loc (lv' := [(0, .ref 401), (2, .int v2), (3, .int v3), (4, .int v4)]) [0, 1, 2, 3] rfl ?_
        exact j_Mod_termOf_158 hld  hQ hK5 h
      · replace h := itp h c13
        refine g_iload (pc1 := 147) d_Mod_termOf_145 rfl 5 rfl ?_
        refine g_iload (pc1 := 149) d_Mod_termOf_147 rfl 6 rfl ?_
        refine g_imul (pc1 := 150) d_Mod_termOf_149 rfl ?_
        refine g_goto (tgt := 158) d_Mod_termOf_150 (by decide) ?_
        refine Wp.loc (lv' := [(0, .ref 401), (2, .int v2), (3, .int v3), (4, .int v4)]) [0, 1, 2, 3] rfl ?_
        exact j_Mod_termOf_158 hld  hQ hK5 h
    · replace h := itp h c12
      refine g_iload (pc1 := 133) d_Mod_termOf_131 rfl 5 rfl ?_
      refine g_iload (pc1 := 135) d_Mod_termOf_133 rfl 6 rfl ?_
      refine g_isub (pc1 := 136) d_Mod_termOf_135 rfl ?_
      refine g_goto (tgt := 158) d_Mod_termOf_136 (by decide) ?_
      refine Wp.loc (lv' := [(0, .ref 401), (2, .int v2), (3, .int v3), (4, .int v4)]) [0, 1, 2, 3] rfl ?_
      exact j_Mod_termOf_158 hld  hQ hK5 h
  · replace h := itp h c11
    refine g_iload (pc1 := 119) d_Mod_termOf_117 rfl 5 rfl ?_
    refine g_iload (pc1 := 121) d_Mod_termOf_119 rfl 6 rfl ?_
    refine g_iadd (pc1 := 122) d_Mod_termOf_121 rfl ?_
    refine g_goto (tgt := 158) d_Mod_termOf_122 (by decide) ?_
    refine Wp.loc (lv' := [(0, .ref 401), (2, .int v2), (3, .int v3), (4, .int v4)]) [0, 1, 2, 3] rfl ?_
    exact j_Mod_termOf_158 hld  hQ hK5 h
def J_Mod_termOf_97 (M : gM) : Option (Int32 × gM) :=
  nmM (uM M 401 51 1) (fun M19 => some (0, M19))
set_option maxHeartbeats 4000000 in
set_option maxRecDepth 20000 in
theorem j_Mod_termOf_97 {l : Launch} {ld : Nat} {Q : Option Value → gM → gL → gR → Prop} (hld : isLa ld)   {q : Int32 × gM} {M : gM} {L : gL} (hQ : Q (some (.int q.1)) q.2 L (rf ld))    (h : J_Mod_termOf_97 M = some q) : Wp l y_Mod_termOf (0, 0, 447) 447 0 0 97 [(0, .ref 401)] [] M L (rf ld) Q := by
  unfold J_Mod_termOf_97 at h
  refine g_aload_n (pc1 := 98) d_Mod_termOf_97 rfl 0 rfl ?_
  refine g_iconst (pc1 := 99) (v := 1) d_Mod_termOf_98 rfl (by decide) ?_
  refine g_putz (pc1 := 102) d_Mod_termOf_99 rfl fo_Mod_312 po_12_51_1 rfl sh_401 (by decide) ?_
  refine Wp.lM h (fun M19 h => ?_)
  refine g_iconst (pc1 := 103) (v := 0) d_Mod_termOf_102 rfl (by decide) ?_
  refine g_ireturn (Or.inl rfl) d_Mod_termOf_103 rfl ?_
  cases h; exact hQ
def J_Mod_termOf_58 (K5 : Int32 → Int32 → gM → Option (Int32 × gM)) (v2 : Int32) (v3 : Int32) (v4 : Int32) (s1 : Int32) (s2 : Int32) (M : gM) : Option (Int32 × gM) :=
  (if (s1 : Int32) < 0 ∨ 400 ≤ (s1 : Int32).toNatClampNeg then none else nmM (uM M 435 (s1 : Int32).toNatClampNeg s2) (fun M24 => nmI (v3 + 1) (fun x25 => J_Mod_termOf_159 K5 v2 x25 v4 M24)))
set_option maxHeartbeats 4000000 in
set_option maxRecDepth 20000 in
theorem j_Mod_termOf_58 {l : Launch} {ld : Nat} {Q : Option Value → gM → gL → gR → Prop} (hld : isLa ld)   {q : Int32 × gM} {M : gM} {L : gL} (hQ : Q (some (.int q.1)) q.2 L (rf ld)) {K5 : Int32 → Int32 → gM → Option (Int32 × gM)} {v2 : Int32} {v3 : Int32} {v4 : Int32} {s1 : Int32} {s2 : Int32} (hK5 : ∀ (w3 : Int32) (w4 : Int32) (M : gM), K5 w3 w4 M = some q → Wp l y_Mod_termOf (0, 0, 447) 447 0 0 5 [(0, .ref 401), (2, .int v2), (3, .int w3), (4, .int w4)] [] M L (rf ld) Q) (h : J_Mod_termOf_58 K5 v2 v3 v4 s1 s2 M = some q) : Wp l y_Mod_termOf (0, 0, 447) 447 0 0 58 [(0, .ref 401), (2, .int v2), (3, .int v3), (4, .int v4)] [.int s2, .int s1, .ref 435] M L (rf ld) Q := by
  unfold J_Mod_termOf_58 at h
  obtain ⟨g23, h⟩ := gdn h
  refine g_iast (pc1 := 59) d_Mod_termOf_58 rfl sh_435 (by decide) g23 ?_
  refine Wp.lM h (fun M24 h => ?_)
  obtain ⟨x25, ex25, h⟩ := ltI h
  refine g_iinc (pc1 := 62) (v := x25) (lv' := [(0, .ref 401), (2, .int v2), (3, .int x25), (4, .int v4)]) d_Mod_termOf_59 rfl 2 rfl (by rw [ex25]; rfl) (by decide) [1, 2, 0, 3] rfl ?_
  refine g_goto (tgt := 159) d_Mod_termOf_62 (by decide) ?_
  exact j_Mod_termOf_159 hld  hQ hK5 h
def B_Mod_termOf_5 (v2 : Int32) (K5 : Int32 → Int32 → gM → Option (Int32 × gM)) : Int32 → Int32 → gM → Option (Int32 × gM) := fun v3 v4 M =>
  (if v2 ≤ v4 then J_Mod_termOf_165 M else (if (v4 : Int32) < 0 ∨ 840 ≤ (v4 : Int32).toNatClampNeg then none else nmI (M 431 (v4 : Int32).toNatClampNeg) (fun x3 => (if 2 ≤ x3 then nmI (v3 + (-1)) (fun x5 => (if ((x5 - 1) : Int32) < 0 ∨ 400 ≤ ((x5 - 1) : Int32).toNatClampNeg then none else nmI (M 435 ((x5 - 1) : Int32).toNatClampNeg) (fun x7 => (if (x5 : Int32) < 0 ∨ 400 ≤ (x5 : Int32).toNatClampNeg then none else nmI (M 435 (x5 : Int32).toNatClampNeg) (fun x9 => (if x3 = 5 then (if x9 = 0 then J_Mod_termOf_97 M else J_Mod_termOf_104 K5 v2 x5 v4 x3 x7 x9 M) else J_Mod_termOf_104 K5 v2 x5 v4 x3 x7 x9 M)))))) else (if x3 = 0 then (if (v4 : Int32) < 0 ∨ 840 ≤ (v4 : Int32).toNatClampNeg then none else J_Mod_termOf_58 K5 v2 v3 v4 v3 (M 432 (v4 : Int32).toNatClampNeg) M) else (if (v4 : Int32) < 0 ∨ 840 ≤ (v4 : Int32).toNatClampNeg then none else (if ((M 432 (v4 : Int32).toNatClampNeg) : Int32) < 0 ∨ 9 ≤ ((M 432 (v4 : Int32).toNatClampNeg) : Int32).toNatClampNeg then none else J_Mod_termOf_58 K5 v2 v3 v4 v3 (M 434 ((M 432 (v4 : Int32).toNatClampNeg) : Int32).toNatClampNeg) M)))))))
def H_Mod_termOf_5 (v2 : Int32) : Nat → Int32 → Int32 → gM → Option (Int32 × gM) := lpK (B_Mod_termOf_5 v2) (fun _ _ _ => none)
set_option maxHeartbeats 4000000 in
set_option maxRecDepth 20000 in
theorem h_Mod_termOf_5 {l : Launch} {ld : Nat} {Q : Option Value → gM → gL → gR → Prop} (hld : isLa ld)   {q : Int32 × gM} {L : gL} (hQ : Q (some (.int q.1)) q.2 L (rf ld))  {v2 : Int32}  : ∀ (f : Nat) (v3 : Int32) (v4 : Int32) (M : gM), H_Mod_termOf_5 v2 f v3 v4 M = some q → Wp l y_Mod_termOf (0, 0, 447) 447 0 0 5 [(0, .ref 401), (2, .int v2), (3, .int v3), (4, .int v4)] [] M L (rf ld) Q := by
  intro f
  induction f with
  | zero => intro v3 v4 M h; cases h
  | succ f hK5 =>
    intro v3 v4 M h
    replace h : B_Mod_termOf_5 v2 (H_Mod_termOf_5 v2 f) v3 v4 M = some q := h
    unfold B_Mod_termOf_5 at h
    refine g_iload (pc1 := 7) d_Mod_termOf_5 rfl 3 rfl ?_
    refine g_iload_n (pc1 := 8) d_Mod_termOf_7 rfl 1 rfl ?_
    refine g_icmp_ge (pc1 := 11) (tgt := 165) d_Mod_termOf_8 (by decide) rfl (fun c1 => ?_) (fun c1 => ?_)
    · replace h := itp h c1
      refine Wp.loc (lv' := [(0, .ref 401)]) [0] rfl ?_
      exact j_Mod_termOf_165 hld  hQ  h
    · replace h := itn h c1
      refine g_aload_n (pc1 := 12) d_Mod_termOf_11 rfl 0 rfl ?_
      refine g_getr (pc1 := 15) d_Mod_termOf_12 rfl ⟨_, fo_Mod_107⟩ sh_401 (by decide) (rf_401_45 ld) ?_
      refine g_iload (pc1 := 17) d_Mod_termOf_15 rfl 3 rfl ?_
      obtain ⟨g2, h⟩ := gdn h
      refine g_iald (pc1 := 18) d_Mod_termOf_17 rfl sh_431 (by decide) g2 ?_
      refine Wp.lI h (fun x3 h => ?_)
      refine g_istore (pc1 := 20) (lv' := [(0, .ref 401), (2, .int v2), (3, .int v3), (4, .int v4), (5, .int x3)]) d_Mod_termOf_18 rfl (by decide) [1, 2, 3, 4, 0] rfl ?_
      refine g_iload (pc1 := 22) d_Mod_termOf_20 rfl 4 rfl ?_
      refine g_iconst (pc1 := 23) (v := 2) d_Mod_termOf_22 rfl (by decide) ?_
      refine g_icmp_ge (pc1 := 26) (tgt := 65) d_Mod_termOf_23 (by decide) rfl (fun c4 => ?_) (fun c4 => ?_)
      · replace h := itp h c4
        obtain ⟨x5, ex5, h⟩ := ltI h
        refine g_iinc (pc1 := 68) (v := x5) (lv' := [(0, .ref 401), (2, .int v2), (3, .int x5), (4, .int v4), (5, .int x3)]) d_Mod_termOf_65 rfl 2 rfl (by rw [ex5]; rfl) (by decide) [1, 2, 0, 3, 4] rfl ?_
        refine g_aload_n (pc1 := 69) d_Mod_termOf_68 rfl 0 rfl ?_
        refine g_getr (pc1 := 72) d_Mod_termOf_69 rfl ⟨_, fo_Mod_119⟩ sh_401 (by decide) (rf_401_50 ld) ?_
        refine g_iload_n (pc1 := 73) d_Mod_termOf_72 rfl 2 rfl ?_
        refine g_iconst (pc1 := 74) (v := 1) d_Mod_termOf_73 rfl (by decide) ?_
        refine g_isub (pc1 := 75) d_Mod_termOf_74 rfl ?_
        obtain ⟨g6, h⟩ := gdn h
        refine g_iald (pc1 := 76) d_Mod_termOf_75 rfl sh_435 (by decide) g6 ?_
        refine Wp.lI h (fun x7 h => ?_)
        refine g_istore (pc1 := 78) (lv' := [(0, .ref 401), (2, .int v2), (3, .int x5), (4, .int v4), (5, .int x3), (6, .int x7)]) d_Mod_termOf_76 rfl (by decide) [1, 2, 3, 4, 5, 0] rfl ?_
        refine g_aload_n (pc1 := 79) d_Mod_termOf_78 rfl 0 rfl ?_
        refine g_getr (pc1 := 82) d_Mod_termOf_79 rfl ⟨_, fo_Mod_119⟩ sh_401 (by decide) (rf_401_50 ld) ?_
        refine g_iload_n (pc1 := 83) d_Mod_termOf_82 rfl 2 rfl ?_
        obtain ⟨g8, h⟩ := gdn h
        refine g_iald (pc1 := 84) d_Mod_termOf_83 rfl sh_435 (by decide) g8 ?_
        refine Wp.lI h (fun x9 h => ?_)
        refine g_istore (pc1 := 86) (lv' := [(0, .ref 401), (2, .int v2), (3, .int x5), (4, .int v4), (5, .int x3), (6, .int x7), (7, .int x9)]) d_Mod_termOf_84 rfl (by decide) [1, 2, 3, 4, 5, 6, 0] rfl ?_
        refine g_iload (pc1 := 88) d_Mod_termOf_86 rfl 4 rfl ?_
        refine g_iconst (pc1 := 89) (v := 5) d_Mod_termOf_88 rfl (by decide) ?_
        refine g_icmp_ne (pc1 := 92) (tgt := 104) d_Mod_termOf_89 (by decide) rfl (fun c10 => ?_) (fun c10 => ?_)
        · replace h := itn h c10
          exact j_Mod_termOf_104 hld  hQ hK5 h
        · replace h := itp h c10
          refine g_iload (pc1 := 94) d_Mod_termOf_92 rfl 6 rfl ?_
          refine g_if_ne (pc1 := 97) (tgt := 104) d_Mod_termOf_94 (by decide) rfl (fun c18 => ?_) (fun c18 => ?_)
          · replace h := itn h c18
            exact j_Mod_termOf_104 hld  hQ hK5 h
          · replace h := itp h c18
            refine Wp.loc (lv' := [(0, .ref 401)]) [0] rfl ?_
            exact j_Mod_termOf_97 hld  hQ  h
      · replace h := itn h c4
        refine g_aload_n (pc1 := 27) d_Mod_termOf_26 rfl 0 rfl ?_
        refine g_getr (pc1 := 30) d_Mod_termOf_27 rfl ⟨_, fo_Mod_119⟩ sh_401 (by decide) (rf_401_50 ld) ?_
        refine g_iload_n (pc1 := 31) d_Mod_termOf_30 rfl 2 rfl ?_
        refine g_iload (pc1 := 33) d_Mod_termOf_31 rfl 4 rfl ?_
        refine g_if_ne (pc1 := 36) (tgt := 46) d_Mod_termOf_33 (by decide) rfl (fun c20 => ?_) (fun c20 => ?_)
        · replace h := itn h c20
          refine g_aload_n (pc1 := 47) d_Mod_termOf_46 rfl 0 rfl ?_
          refine g_getr (pc1 := 50) d_Mod_termOf_47 rfl ⟨_, fo_Mod_116⟩ sh_401 (by decide) (rf_401_49 ld) ?_
          refine g_aload_n (pc1 := 51) d_Mod_termOf_50 rfl 0 rfl ?_
          refine g_getr (pc1 := 54) d_Mod_termOf_51 rfl ⟨_, fo_Mod_110⟩ sh_401 (by decide) (rf_401_46 ld) ?_
          refine g_iload (pc1 := 56) d_Mod_termOf_54 rfl 3 rfl ?_
          obtain ⟨g21, h⟩ := gdn h
          refine g_iald (pc1 := 57) d_Mod_termOf_56 rfl sh_432 (by decide) g21 ?_
          obtain ⟨g22, h⟩ := gdn h
          refine g_iald (pc1 := 58) d_Mod_termOf_57 rfl sh_434 (by decide) g22 ?_
          refine Wp.loc (lv' := [(0, .ref 401), (2, .int v2), (3, .int v3), (4, .int v4)]) [0, 1, 2, 3] rfl ?_
          exact j_Mod_termOf_58 hld  hQ hK5 h
        · replace h := itp h c20
          refine g_aload_n (pc1 := 37) d_Mod_termOf_36 rfl 0 rfl ?_
          refine g_getr (pc1 := 40) d_Mod_termOf_37 rfl ⟨_, fo_Mod_110⟩ sh_401 (by decide) (rf_401_46 ld) ?_
          refine g_iload (pc1 := 42) d_Mod_termOf_40 rfl 3 rfl ?_
          obtain ⟨g26, h⟩ := gdn h
          refine g_iald (pc1 := 43) d_Mod_termOf_42 rfl sh_432 (by decide) g26 ?_
          refine g_goto (tgt := 58) d_Mod_termOf_43 (by decide) ?_
          refine Wp.loc (lv' := [(0, .ref 401), (2, .int v2), (3, .int v3), (4, .int v4)]) [0, 1, 2, 3] rfl ?_
          exact j_Mod_termOf_58 hld  hQ hK5 h
def F_Mod_termOf (p1 : Int32) (p2 : Int32) (M : gM) : Option (Int32 × gM) :=
  H_Mod_termOf_5 p2 FU 0 p1 M
set_option maxHeartbeats 4000000 in
set_option maxRecDepth 20000 in
theorem f_Mod_termOf {l : Launch} {ld : Nat} {M : gM} {L : gL} {Q : Option Value → gM → gL → gR → Prop} (hld : isLa ld) {p1 : Int32} {p2 : Int32}  {q : Int32 × gM} (h : F_Mod_termOf p1 p2 M = some q) (hQ : Q (some (.int q.1)) q.2 L (rf ld)) : Tm l y_Mod_termOf (0, 0, 447) 447 [.ref 401, .int p1, .int p2] M L (rf ld) Q := by
  refine Tm.of (by decide) (Nat.le_of_ble_eq_true rfl) ?_
  show Wp l y_Mod_termOf (0, 0, 447) 447 0 0 0 [(0, .ref 401), (1, .int p1), (2, .int p2)] [] M L (rf ld) Q
  unfold F_Mod_termOf at h
  refine g_iconst (pc1 := 1) (v := 0) d_Mod_termOf_0 rfl (by decide) ?_
  refine g_istore_n (pc1 := 2) (lv' := [(0, .ref 401), (1, .int p1), (2, .int p2), (3, .int 0)]) d_Mod_termOf_1 rfl rfl (by decide) [1, 2, 3, 0] rfl ?_
  refine g_iload_n (pc1 := 3) d_Mod_termOf_2 rfl 1 rfl ?_
  refine g_istore (pc1 := 5) (lv' := [(0, .ref 401), (1, .int p1), (2, .int p2), (3, .int 0), (4, .int p1)]) d_Mod_termOf_3 rfl (by decide) [1, 2, 3, 4, 0] rfl ?_
  refine Wp.loc (lv' := [(0, .ref 401), (2, .int p2), (3, .int 0), (4, .int p1)]) [0, 2, 3, 4] rfl ?_
  exact h_Mod_termOf_5 hld  hQ  _ 0 p1 M h

def F_Mod_token (p1 : Int32) (p2 : Int32) (p3 : Int32) (p4 : Int64) (M : gM) (L : gL) : Option (gM × gL) :=
  (if ((M 401 10) : Int32) < 0 ∨ 403 ≤ ((M 401 10) : Int32).toNatClampNeg then none else nmM (uM M 404 ((M 401 10) : Int32).toNatClampNeg p1) (fun M2 => (if ((M2 401 10) : Int32) < 0 ∨ 403 ≤ ((M2 401 10) : Int32).toNatClampNeg then none else nmM (uM M2 405 ((M2 401 10) : Int32).toNatClampNeg p2) (fun M4 => (if ((M4 401 10) : Int32) < 0 ∨ 403 ≤ ((M4 401 10) : Int32).toNatClampNeg then none else nmM (uM M4 406 ((M4 401 10) : Int32).toNatClampNeg p3) (fun M6 => (if ((M6 401 10) : Int32) < 0 ∨ 403 ≤ ((M6 401 10) : Int32).toNatClampNeg then none else nmL (uL L 407 ((M6 401 10) : Int32).toNatClampNeg p4) (fun L8 => nmM (uM M6 401 10 ((M6 401 10) + 1)) (fun M9 => some (M9, L8))))))))))
set_option maxHeartbeats 4000000 in
set_option maxRecDepth 20000 in
theorem f_Mod_token {l : Launch} {ld : Nat} {M : gM} {L : gL} {Q : Option Value → gM → gL → gR → Prop} (hld : isLa ld) {p1 : Int32} {p2 : Int32} {p3 : Int32} {p4 : Int64}  {q : gM × gL} (h : F_Mod_token p1 p2 p3 p4 M L = some q) (hQ : Q none q.1 q.2 (rf ld)) : Tm l y_Mod_token (0, 0, 447) 447 [.ref 401, .int p1, .int p2, .int p3, .long p4] M L (rf ld) Q := by
  refine Tm.of (by decide) (Nat.le_of_ble_eq_true rfl) ?_
  show Wp l y_Mod_token (0, 0, 447) 447 0 0 0 [(0, .ref 401), (1, .int p1), (2, .int p2), (3, .int p3), (4, .long p4)] [] M L (rf ld) Q
  unfold F_Mod_token at h
  refine g_aload_n (pc1 := 1) d_Mod_token_0 rfl 0 rfl ?_
  refine g_getr (pc1 := 4) d_Mod_token_1 rfl ⟨_, fo_Mod_20⟩ sh_401 (by decide) (rf_401_5 ld) ?_
  refine g_aload_n (pc1 := 5) d_Mod_token_4 rfl 0 rfl ?_
  refine g_geti (pc1 := 8) d_Mod_token_5 rfl ⟨_, fo_Mod_184⟩ sh_401 (by decide) ?_
  refine g_iload_n (pc1 := 9) d_Mod_token_8 rfl 1 rfl ?_
  obtain ⟨g1, h⟩ := gdn h
  refine g_iast (pc1 := 10) d_Mod_token_9 rfl sh_404 (by decide) g1 ?_
  refine Wp.lM h (fun M2 h => ?_)
  refine g_aload_n (pc1 := 11) d_Mod_token_10 rfl 0 rfl ?_
  refine g_getr (pc1 := 14) d_Mod_token_11 rfl ⟨_, fo_Mod_24⟩ sh_401 (by decide) (rf_401_6 ld) ?_
  refine g_aload_n (pc1 := 15) d_Mod_token_14 rfl 0 rfl ?_
  refine g_geti (pc1 := 18) d_Mod_token_15 rfl ⟨_, fo_Mod_184⟩ sh_401 (by decide) ?_
  refine g_iload_n (pc1 := 19) d_Mod_token_18 rfl 2 rfl ?_
  obtain ⟨g3, h⟩ := gdn h
  refine g_iast (pc1 := 20) d_Mod_token_19 rfl sh_405 (by decide) g3 ?_
  refine Wp.lM h (fun M4 h => ?_)
  refine g_aload_n (pc1 := 21) d_Mod_token_20 rfl 0 rfl ?_
  refine g_getr (pc1 := 24) d_Mod_token_21 rfl ⟨_, fo_Mod_27⟩ sh_401 (by decide) (rf_401_7 ld) ?_
  refine g_aload_n (pc1 := 25) d_Mod_token_24 rfl 0 rfl ?_
  refine g_geti (pc1 := 28) d_Mod_token_25 rfl ⟨_, fo_Mod_184⟩ sh_401 (by decide) ?_
  refine g_iload_n (pc1 := 29) d_Mod_token_28 rfl 3 rfl ?_
  obtain ⟨g5, h⟩ := gdn h
  refine g_iast (pc1 := 30) d_Mod_token_29 rfl sh_406 (by decide) g5 ?_
  refine Wp.lM h (fun M6 h => ?_)
  refine g_aload_n (pc1 := 31) d_Mod_token_30 rfl 0 rfl ?_
  refine g_getr (pc1 := 34) d_Mod_token_31 rfl ⟨_, fo_Mod_30⟩ sh_401 (by decide) (rf_401_8 ld) ?_
  refine g_aload_n (pc1 := 35) d_Mod_token_34 rfl 0 rfl ?_
  refine g_geti (pc1 := 38) d_Mod_token_35 rfl ⟨_, fo_Mod_184⟩ sh_401 (by decide) ?_
  refine g_lload (pc1 := 40) d_Mod_token_38 rfl 4 rfl ?_
  obtain ⟨g7, h⟩ := gdn h
  refine g_last (pc1 := 41) d_Mod_token_40 rfl sh_407 (by decide) g7 ?_
  refine Wp.lL h (fun L8 h => ?_)
  refine g_aload_n (pc1 := 42) d_Mod_token_41 rfl 0 rfl ?_
  refine g_dup (pc1 := 43) d_Mod_token_42 rfl rfl ?_
  refine g_geti (pc1 := 46) d_Mod_token_43 rfl ⟨_, fo_Mod_184⟩ sh_401 (by decide) ?_
  refine g_iconst (pc1 := 47) (v := 1) d_Mod_token_46 rfl (by decide) ?_
  refine g_iadd (pc1 := 48) d_Mod_token_47 rfl ?_
  refine g_puti (pc1 := 51) d_Mod_token_48 rfl fo_Mod_184 (po_12_10 _) sh_401 (by decide) ?_
  refine Wp.lM h (fun M9 h => ?_)
  refine g_return rfl d_Mod_token_51 rfl ?_
  cases h; exact hQ

def B_Mod_undo_21  (K21 : Int32 → gM → Option (Int32 × gM)) : Int32 → gM → Option (Int32 × gM) := fun v1 M =>
  (if 38 ≤ v1 then some (1, M) else (if (((38 * (M 401 57)) + v1) : Int32) < 0 ∨ 1520 ≤ (((38 * (M 401 57)) + v1) : Int32).toNatClampNeg then none else (if (v1 : Int32) < 0 ∨ 38 ≤ (v1 : Int32).toNatClampNeg then none else nmM (uM M 436 (v1 : Int32).toNatClampNeg (M 440 (((38 * (M 401 57)) + v1) : Int32).toNatClampNeg)) (fun M6 => nmI (v1 + 1) (fun x7 => K21 x7 M6)))))
def H_Mod_undo_21  : Nat → Int32 → gM → Option (Int32 × gM) := lpK (B_Mod_undo_21 ) (fun _ _ => none)
set_option maxHeartbeats 4000000 in
set_option maxRecDepth 20000 in
theorem h_Mod_undo_21 {l : Launch} {ld : Nat} {Q : Option Value → gM → gL → gR → Prop} (hld : isLa ld)   {q : Int32 × gM} {L : gL} (hQ : Q (some (.int q.1)) q.2 L (rf ld))    : ∀ (f : Nat) (v1 : Int32) (M : gM), H_Mod_undo_21  f v1 M = some q → Wp l y_Mod_undo (0, 0, 447) 447 0 0 21 [(0, .ref 401), (1, .int v1)] [] M L (rf ld) Q := by
  intro f
  induction f with
  | zero => intro v1 M h; cases h
  | succ f hK21 =>
    intro v1 M h
    replace h : B_Mod_undo_21  (H_Mod_undo_21  f) v1 M = some q := h
    unfold B_Mod_undo_21 at h
    refine g_iload_n (pc1 := 22) d_Mod_undo_21 rfl 1 rfl ?_
    refine g_bipush (pc1 := 24) (v := 38) d_Mod_undo_22 rfl (by decide) ?_
    refine g_icmp_ge (pc1 := 27) (tgt := 53) d_Mod_undo_24 (by decide) rfl (fun c3 => ?_) (fun c3 => ?_)
    · replace h := itp h c3
      refine g_iconst (pc1 := 54) (v := 1) d_Mod_undo_53 rfl (by decide) ?_
      refine g_ireturn (Or.inr ⟨rfl, rfl⟩) d_Mod_undo_54 rfl ?_
      cases h; exact hQ
    · replace h := itn h c3
      refine g_aload_n (pc1 := 28) d_Mod_undo_27 rfl 0 rfl ?_
      refine g_getr (pc1 := 31) d_Mod_undo_28 rfl ⟨_, fo_Mod_122⟩ sh_401 (by decide) (rf_401_52 ld) ?_
      refine g_iload_n (pc1 := 32) d_Mod_undo_31 rfl 1 rfl ?_
      refine g_aload_n (pc1 := 33) d_Mod_undo_32 rfl 0 rfl ?_
      refine g_getr (pc1 := 36) d_Mod_undo_33 rfl ⟨_, fo_Mod_134⟩ sh_401 (by decide) (rf_401_58 ld) ?_
      refine g_bipush (pc1 := 38) (v := 38) d_Mod_undo_36 rfl (by decide) ?_
      refine g_aload_n (pc1 := 39) d_Mod_undo_38 rfl 0 rfl ?_
      refine g_geti (pc1 := 42) d_Mod_undo_39 rfl ⟨_, fo_Mod_254⟩ sh_401 (by decide) ?_
      refine g_imul (pc1 := 43) d_Mod_undo_42 rfl ?_
      refine g_iload_n (pc1 := 44) d_Mod_undo_43 rfl 1 rfl ?_
      refine g_iadd (pc1 := 45) d_Mod_undo_44 rfl ?_
      obtain ⟨g4, h⟩ := gdn h
      refine g_iald (pc1 := 46) d_Mod_undo_45 rfl sh_440 (by decide) g4 ?_
      obtain ⟨g5, h⟩ := gdn h
      refine g_iast (pc1 := 47) d_Mod_undo_46 rfl sh_436 (by decide) g5 ?_
      refine Wp.lM h (fun M6 h => ?_)
      obtain ⟨x7, ex7, h⟩ := ltI h
      refine g_iinc (pc1 := 50) (v := x7) (lv' := [(0, .ref 401), (1, .int x7)]) d_Mod_undo_47 rfl 1 rfl (by rw [ex7]; rfl) (by decide) [1, 0] rfl ?_
      refine g_goto (tgt := 21) d_Mod_undo_50 (by decide) ?_
      exact hK21 x7 M6 h
def F_Mod_undo (M : gM) : Option (Int32 × gM) :=
  (if (M 401 57) = 0 then some (0, M) else nmM (uM M 401 57 ((M 401 57) - 1)) (fun M2 => H_Mod_undo_21 FU 0 M2))
set_option maxHeartbeats 4000000 in
set_option maxRecDepth 20000 in
theorem f_Mod_undo {l : Launch} {ld : Nat} {M : gM} {L : gL} {Q : Option Value → gM → gL → gR → Prop} (hld : isLa ld)   {q : Int32 × gM} (h : F_Mod_undo M = some q) (hQ : Q (some (.int q.1)) q.2 L (rf ld)) : Tm l y_Mod_undo (0, 0, 447) 447 [.ref 401] M L (rf ld) Q := by
  refine Tm.of (by decide) (Nat.le_of_ble_eq_true rfl) ?_
  show Wp l y_Mod_undo (0, 0, 447) 447 0 0 0 [(0, .ref 401)] [] M L (rf ld) Q
  unfold F_Mod_undo at h
  refine g_aload_n (pc1 := 1) d_Mod_undo_0 rfl 0 rfl ?_
  refine g_geti (pc1 := 4) d_Mod_undo_1 rfl ⟨_, fo_Mod_254⟩ sh_401 (by decide) ?_
  refine g_if_ne (pc1 := 7) (tgt := 9) d_Mod_undo_4 (by decide) rfl (fun c1 => ?_) (fun c1 => ?_)
  · replace h := itn h c1
    refine g_aload_n (pc1 := 10) d_Mod_undo_9 rfl 0 rfl ?_
    refine g_dup (pc1 := 11) d_Mod_undo_10 rfl rfl ?_
    refine g_geti (pc1 := 14) d_Mod_undo_11 rfl ⟨_, fo_Mod_254⟩ sh_401 (by decide) ?_
    refine g_iconst (pc1 := 15) (v := 1) d_Mod_undo_14 rfl (by decide) ?_
    refine g_isub (pc1 := 16) d_Mod_undo_15 rfl ?_
    refine g_puti (pc1 := 19) d_Mod_undo_16 rfl fo_Mod_254 (po_12_57 _) sh_401 (by decide) ?_
    refine Wp.lM h (fun M2 h => ?_)
    refine g_iconst (pc1 := 20) (v := 0) d_Mod_undo_19 rfl (by decide) ?_
    refine g_istore_n (pc1 := 21) (lv' := [(0, .ref 401), (1, .int 0)]) d_Mod_undo_20 rfl rfl (by decide) [1, 0] rfl ?_
    exact h_Mod_undo_21 hld  hQ  _ 0 M2 h
  · replace h := itp h c1
    refine g_iconst (pc1 := 8) (v := 0) d_Mod_undo_7 rfl (by decide) ?_
    refine g_ireturn (Or.inr ⟨rfl, rfl⟩) d_Mod_undo_8 rfl ?_
    cases h; exact hQ

def J_Mod_wrong_46 (v1 : Int32) (v3 : Int32) (M : gM) : Option (gM) :=
  nmM (uM M 401 15 v1) (fun M5 => nmM (uM M5 401 16 v3) (fun M6 => some M6))
set_option maxHeartbeats 4000000 in
set_option maxRecDepth 20000 in
theorem j_Mod_wrong_46 {l : Launch} {ld : Nat} {Q : Option Value → gM → gL → gR → Prop} (hld : isLa ld)   {q : gM} {M : gM} {L : gL} (hQ : Q none q L (rf ld))  {v1 : Int32} {v3 : Int32}  (h : J_Mod_wrong_46 v1 v3 M = some q) : Wp l y_Mod_wrong (0, 0, 447) 447 0 0 46 [(0, .ref 401), (1, .int v1), (3, .int v3)] [] M L (rf ld) Q := by
  unfold J_Mod_wrong_46 at h
  refine g_aload_n (pc1 := 47) d_Mod_wrong_46 rfl 0 rfl ?_
  refine g_iload_n (pc1 := 48) d_Mod_wrong_47 rfl 1 rfl ?_
  refine g_puti (pc1 := 51) d_Mod_wrong_48 rfl fo_Mod_215 (po_12_15 _) sh_401 (by decide) ?_
  refine Wp.lM h (fun M5 h => ?_)
  refine g_aload_n (pc1 := 52) d_Mod_wrong_51 rfl 0 rfl ?_
  refine g_iload_n (pc1 := 53) d_Mod_wrong_52 rfl 2 rfl ?_
  refine g_puti (pc1 := 56) d_Mod_wrong_53 rfl fo_Mod_218 (po_12_16 _) sh_401 (by decide) ?_
  refine Wp.lM h (fun M6 h => ?_)
  refine g_return rfl d_Mod_wrong_56 rfl ?_
  cases h; exact hQ
def F_Mod_wrong (p1 : Int32) (p2 : Int32) (M : gM) : Option (gM) :=
  (if (p2 : Int32) < 0 ∨ 403 ≤ (p2 : Int32).toNatClampNeg then none else nmI (M 405 (p2 : Int32).toNatClampNeg) (fun x2 => (if 0 < (M 401 13) then some M else (if (M 401 15) = 0 then J_Mod_wrong_46 p1 x2 M else (if (M 401 16) < x2 then some M else (if x2 = (M 401 16) then (if p1 < (M 401 15) then J_Mod_wrong_46 p1 x2 M else some M) else J_Mod_wrong_46 p1 x2 M))))))
set_option maxHeartbeats 4000000 in
set_option maxRecDepth 20000 in
theorem f_Mod_wrong {l : Launch} {ld : Nat} {M : gM} {L : gL} {Q : Option Value → gM → gL → gR → Prop} (hld : isLa ld) {p1 : Int32} {p2 : Int32}  {q : gM} (h : F_Mod_wrong p1 p2 M = some q) (hQ : Q none q L (rf ld)) : Tm l y_Mod_wrong (0, 0, 447) 447 [.ref 401, .int p1, .int p2] M L (rf ld) Q := by
  refine Tm.of (by decide) (Nat.le_of_ble_eq_true rfl) ?_
  show Wp l y_Mod_wrong (0, 0, 447) 447 0 0 0 [(0, .ref 401), (1, .int p1), (2, .int p2)] [] M L (rf ld) Q
  unfold F_Mod_wrong at h
  refine g_aload_n (pc1 := 1) d_Mod_wrong_0 rfl 0 rfl ?_
  refine g_getr (pc1 := 4) d_Mod_wrong_1 rfl ⟨_, fo_Mod_24⟩ sh_401 (by decide) (rf_401_6 ld) ?_
  refine g_iload_n (pc1 := 5) d_Mod_wrong_4 rfl 2 rfl ?_
  obtain ⟨g1, h⟩ := gdn h
  refine g_iald (pc1 := 6) d_Mod_wrong_5 rfl sh_405 (by decide) g1 ?_
  refine Wp.lI h (fun x2 h => ?_)
  refine g_istore_n (pc1 := 7) (lv' := [(0, .ref 401), (1, .int p1), (2, .int p2), (3, .int x2)]) d_Mod_wrong_6 rfl rfl (by decide) [1, 2, 3, 0] rfl ?_
  refine g_aload_n (pc1 := 8) d_Mod_wrong_7 rfl 0 rfl ?_
  refine g_geti (pc1 := 11) d_Mod_wrong_8 rfl ⟨_, fo_Mod_206⟩ sh_401 (by decide) ?_
  refine g_if_gt (pc1 := 14) (tgt := 45) d_Mod_wrong_11 (by decide) rfl (fun c3 => ?_) (fun c3 => ?_)
  · replace h := itp h c3
    refine g_return rfl d_Mod_wrong_45 rfl ?_
    cases h; exact hQ
  · replace h := itn h c3
    refine g_aload_n (pc1 := 15) d_Mod_wrong_14 rfl 0 rfl ?_
    refine g_geti (pc1 := 18) d_Mod_wrong_15 rfl ⟨_, fo_Mod_215⟩ sh_401 (by decide) ?_
    refine g_if_eq (pc1 := 21) (tgt := 46) d_Mod_wrong_18 (by decide) rfl (fun c4 => ?_) (fun c4 => ?_)
    · replace h := itp h c4
      refine Wp.loc (lv' := [(0, .ref 401), (1, .int p1), (3, .int x2)]) [0, 1, 3] rfl ?_
      exact j_Mod_wrong_46 hld  hQ  h
    · replace h := itn h c4
      refine g_iload_n (pc1 := 22) d_Mod_wrong_21 rfl 3 rfl ?_
      refine g_aload_n (pc1 := 23) d_Mod_wrong_22 rfl 0 rfl ?_
      refine g_geti (pc1 := 26) d_Mod_wrong_23 rfl ⟨_, fo_Mod_218⟩ sh_401 (by decide) ?_
      refine g_icmp_gt (pc1 := 29) (tgt := 45) d_Mod_wrong_26 (by decide) rfl (fun c7 => ?_) (fun c7 => ?_)
      · replace h := itp h c7
        refine g_return rfl d_Mod_wrong_45 rfl ?_
        cases h; exact hQ
      · replace h := itn h c7
        refine g_iload_n (pc1 := 30) d_Mod_wrong_29 rfl 3 rfl ?_
        refine g_aload_n (pc1 := 31) d_Mod_wrong_30 rfl 0 rfl ?_
        refine g_geti (pc1 := 34) d_Mod_wrong_31 rfl ⟨_, fo_Mod_218⟩ sh_401 (by decide) ?_
        refine g_icmp_ne (pc1 := 37) (tgt := 46) d_Mod_wrong_34 (by decide) rfl (fun c8 => ?_) (fun c8 => ?_)
        · replace h := itn h c8
          refine Wp.loc (lv' := [(0, .ref 401), (1, .int p1), (3, .int x2)]) [0, 1, 3] rfl ?_
          exact j_Mod_wrong_46 hld  hQ  h
        · replace h := itp h c8
          refine g_iload_n (pc1 := 38) d_Mod_wrong_37 rfl 1 rfl ?_
          refine g_aload_n (pc1 := 39) d_Mod_wrong_38 rfl 0 rfl ?_
          refine g_geti (pc1 := 42) d_Mod_wrong_39 rfl ⟨_, fo_Mod_215⟩ sh_401 (by decide) ?_
          refine g_icmp_lt (pc1 := 45) (tgt := 46) d_Mod_wrong_42 (by decide) rfl (fun c9 => ?_) (fun c9 => ?_)
          · replace h := itp h c9
            refine Wp.loc (lv' := [(0, .ref 401), (1, .int p1), (3, .int x2)]) [0, 1, 3] rfl ?_
            exact j_Mod_wrong_46 hld  hQ  h
          · replace h := itn h c9
            refine g_return rfl d_Mod_wrong_45 rfl ?_
            cases h; exact hQ

def J_Mod_comesOut_84 (K0 : gM → Option (gM)) (v1 : Int32) (s1 : Int32) (M : gM) : Option (gM) :=
  bI (F_Mod_emit s1 0 M) (fun M11 => K0 M11)
set_option maxHeartbeats 4000000 in
set_option maxRecDepth 20000 in
theorem j_Mod_comesOut_84 {l : Launch} {ld : Nat} {Q : Option Value → gM → gL → gR → Prop} (hld : isLa ld)   {q : gM} {M : gM} {L : gL} (hQ : Q none q L (rf ld)) {K0 : gM → Option (gM)} {v1 : Int32} {s1 : Int32} (hK0 : ∀ (M : gM), K0 M = some q → Wp l y_Mod_comesOut (0, 0, 447) 447 0 0 0 [(0, .ref 401), (1, .int v1)] [] M L (rf ld) Q) (h : J_Mod_comesOut_84 K0 v1 s1 M = some q) : Wp l y_Mod_comesOut (0, 0, 447) 447 0 0 84 [(0, .ref 401), (1, .int v1)] [.int s1, .ref 401] M L (rf ld) Q := by
  unfold J_Mod_comesOut_84 at h
  refine g_iconst (pc1 := 85) (v := 0) d_Mod_comesOut_84 rfl (by decide) ?_
  refine g_callV0 (pc1 := 88) (As := [.int s1, .int 0]) (rest := []) d_Mod_comesOut_85 rfl mo_Mod_302 mi_Mod_emit mv_Mod_emit rfl sh_401 (by decide) (by decide) rfl rfl (Nat.le_of_ble_eq_true rfl) ?_
  obtain ⟨M11, hq10, h⟩ := bnd h
  refine f_Mod_emit hld  hq10 ?_
  dsimp only [psh]
  refine g_goto (tgt := 0) d_Mod_comesOut_88 (by decide) ?_
  exact hK0 M11 h
def J_Mod_comesOut_42 (K0 : gM → Option (gM)) (v1 : Int32) (v2 : Int32) (M : gM) : Option (gM) :=
  nmM (uM M 401 48 ((M 401 48) - 1)) (fun M6 => (if v2 = 8 then J_Mod_comesOut_84 K0 v1 2 M6 else (if v2 = 9 then J_Mod_comesOut_84 K0 v1 3 M6 else (if v2 = 10 then J_Mod_comesOut_84 K0 v1 4 M6 else J_Mod_comesOut_84 K0 v1 5 M6))))
set_option maxHeartbeats 4000000 in
set_option maxRecDepth 20000 in
theorem j_Mod_comesOut_42 {l : Launch} {ld : Nat} {Q : Option Value → gM → gL → gR → Prop} (hld : isLa ld)   {q : gM} {M : gM} {L : gL} (hQ : Q none q L (rf ld)) {K0 : gM → Option (gM)} {v1 : Int32} {v2 : Int32} (hK0 : ∀ (M : gM), K0 M = some q → Wp l y_Mod_comesOut (0, 0, 447) 447 0 0 0 [(0, .ref 401), (1, .int v1)] [] M L (rf ld) Q) (h : J_Mod_comesOut_42 K0 v1 v2 M = some q) : Wp l y_Mod_comesOut (0, 0, 447) 447 0 0 42 [(0, .ref 401), (1, .int v1), (2, .int v2)] [] M L (rf ld) Q := by
  unfold J_Mod_comesOut_42 at h
  refine g_aload_n (pc1 := 43) d_Mod_comesOut_42 rfl 0 rfl ?_
  refine g_dup (pc1 := 44) d_Mod_comesOut_43 rfl rfl ?_
  refine g_geti (pc1 := 47) d_Mod_comesOut_44 rfl ⟨_, fo_Mod_299⟩ sh_401 (by decide) ?_
  refine g_iconst (pc1 := 48) (v := 1) d_Mod_comesOut_47 rfl (by decide) ?_
  refine g_isub (pc1 := 49) d_Mod_comesOut_48 rfl ?_
  refine g_puti (pc1 := 52) d_Mod_comesOut_49 rfl fo_Mod_299 (po_12_48 _) sh_401 (by decide) ?_
  refine Wp.lM h (fun M6 h => ?_)
  refine g_aload_n (pc1 := 53) d_Mod_comesOut_52 rfl 0 rfl ?_
  refine g_iload_n (pc1 := 54) d_Mod_comesOut_53 rfl 2 rfl ?_
  refine g_bipush (pc1 := 56) (v := 8) d_Mod_comesOut_54 rfl (by decide) ?_
  refine g_icmp_ne (pc1 := 59) (tgt := 63) d_Mod_comesOut_56 (by decide) rfl (fun c7 => ?_) (fun c7 => ?_)
  · replace h := itn h c7
    refine g_iload_n (pc1 := 64) d_Mod_comesOut_63 rfl 2 rfl ?_
    refine g_bipush (pc1 := 66) (v := 9) d_Mod_comesOut_64 rfl (by decide) ?_
    refine g_icmp_ne (pc1 := 69) (tgt := 73) d_Mod_comesOut_66 (by decide) rfl (fun c8 => ?_) (fun c8 => ?_)
    · replace h := itn h c8
      refine g_iload_n (pc1 := 74) d_Mod_comesOut_73 rfl 2 rfl ?_
      refine g_bipush (pc1 := 76) (v := 10) d_Mod_comesOut_74 rfl (by decide) ?_
      refine g_icmp_ne (pc1 := 79) (tgt := 83) d_Mod_comesOut_76 (by decide) rfl (fun c9 => ?_) (fun c9 => ?_)
      · replace h := itn h c9
        refine g_iconst (pc1 := 84) (v := 5) d_Mod_comesOut_83 rfl (by decide) ?_
        refine Wp.loc (lv' := [(0, .ref 401), (1, .int v1)]) [0, 1] rfl ?_
        exact j_Mod_comesOut_84 hld  hQ hK0 h
      · replace h := itp h c9
        refine g_iconst (pc1 := 80) (v := 4) d_Mod_comesOut_79 rfl (by decide) ?_
        refine g_goto (tgt := 84) d_Mod_comesOut_80 (by decide) ?_
        refine Wp.loc (lv' := [(0, .ref 401), (1, .int v1)]) [0, 1] rfl ?_
        exact j_Mod_comesOut_84 hld  hQ hK0 h
    · replace h := itp h c8
      refine g_iconst (pc1 := 70) (v := 3) d_Mod_comesOut_69 rfl (by decide) ?_
      refine g_goto (tgt := 84) d_Mod_comesOut_70 (by decide) ?_
      refine Wp.loc (lv' := [(0, .ref 401), (1, .int v1)]) [0, 1] rfl ?_
      exact j_Mod_comesOut_84 hld  hQ hK0 h
  · replace h := itp h c7
    refine g_iconst (pc1 := 60) (v := 2) d_Mod_comesOut_59 rfl (by decide) ?_
    refine g_goto (tgt := 84) d_Mod_comesOut_60 (by decide) ?_
    refine Wp.loc (lv' := [(0, .ref 401), (1, .int v1)]) [0, 1] rfl ?_
    exact j_Mod_comesOut_84 hld  hQ hK0 h
def B_Mod_comesOut_0 (v1 : Int32) (K0 : gM → Option (gM)) : gM → Option (gM) := fun M =>
  (if (M 401 48) ≤ 0 then some M else (if (((M 401 48) - 1) : Int32) < 0 ∨ 64 ≤ (((M 401 48) - 1) : Int32).toNatClampNeg then none else nmI (M 433 (((M 401 48) - 1) : Int32).toNatClampNeg) (fun x3 => (if x3 = 6 then some M else (if v1 = 0 then J_Mod_comesOut_42 K0 v1 x3 M else (if x3 = 8 then some M else (if x3 = 9 then some M else J_Mod_comesOut_42 K0 v1 x3 M)))))))
def H_Mod_comesOut_0 (v1 : Int32) : Nat → gM → Option (gM) := lpK (B_Mod_comesOut_0 v1) (fun _ => none)
set_option maxHeartbeats 4000000 in
set_option maxRecDepth 20000 in
theorem h_Mod_comesOut_0 {l : Launch} {ld : Nat} {Q : Option Value → gM → gL → gR → Prop} (hld : isLa ld)   {q : gM} {L : gL} (hQ : Q none q L (rf ld))  {v1 : Int32}  : ∀ (f : Nat) (M : gM), H_Mod_comesOut_0 v1 f M = some q → Wp l y_Mod_comesOut (0, 0, 447) 447 0 0 0 [(0, .ref 401), (1, .int v1)] [] M L (rf ld) Q := by
  intro f
  induction f with
  | zero => intro M h; cases h
  | succ f hK0 =>
    intro M h
    replace h : B_Mod_comesOut_0 v1 (H_Mod_comesOut_0 v1 f) M = some q := h
    unfold B_Mod_comesOut_0 at h
    refine g_aload_n (pc1 := 1) d_Mod_comesOut_0 rfl 0 rfl ?_
    refine g_geti (pc1 := 4) d_Mod_comesOut_1 rfl ⟨_, fo_Mod_299⟩ sh_401 (by decide) ?_
    refine g_if_le (pc1 := 7) (tgt := 91) d_Mod_comesOut_4 (by decide) rfl (fun c1 => ?_) (fun c1 => ?_)
    · replace h := itp h c1
      refine g_return rfl d_Mod_comesOut_91 rfl ?_
      cases h; exact hQ
    · replace h := itn h c1
      refine g_aload_n (pc1 := 8) d_Mod_comesOut_7 rfl 0 rfl ?_
      refine g_getr (pc1 := 11) d_Mod_comesOut_8 rfl ⟨_, fo_Mod_113⟩ sh_401 (by decide) (rf_401_47 ld) ?_
      refine g_aload_n (pc1 := 12) d_Mod_comesOut_11 rfl 0 rfl ?_
      refine g_geti (pc1 := 15) d_Mod_comesOut_12 rfl ⟨_, fo_Mod_299⟩ sh_401 (by decide) ?_
      refine g_iconst (pc1 := 16) (v := 1) d_Mod_comesOut_15 rfl (by decide) ?_
      refine g_isub (pc1 := 17) d_Mod_comesOut_16 rfl ?_
      obtain ⟨g2, h⟩ := gdn h
      refine g_iald (pc1 := 18) d_Mod_comesOut_17 rfl sh_433 (by decide) g2 ?_
      refine Wp.lI h (fun x3 h => ?_)
      refine g_istore_n (pc1 := 19) (lv' := [(0, .ref 401), (1, .int v1), (2, .int x3)]) d_Mod_comesOut_18 rfl rfl (by decide) [1, 2, 0] rfl ?_
      refine g_iload_n (pc1 := 20) d_Mod_comesOut_19 rfl 2 rfl ?_
      refine g_bipush (pc1 := 22) (v := 6) d_Mod_comesOut_20 rfl (by decide) ?_
      refine g_icmp_eq (pc1 := 25) (tgt := 41) d_Mod_comesOut_22 (by decide) rfl (fun c4 => ?_) (fun c4 => ?_)
      · replace h := itp h c4
        refine g_return rfl d_Mod_comesOut_41 rfl ?_
        cases h; exact hQ
      · replace h := itn h c4
        refine g_iload_n (pc1 := 26) d_Mod_comesOut_25 rfl 1 rfl ?_
        refine g_if_eq (pc1 := 29) (tgt := 42) d_Mod_comesOut_26 (by decide) rfl (fun c5 => ?_) (fun c5 => ?_)
        · replace h := itp h c5
          exact j_Mod_comesOut_42 hld  hQ hK0 h
        · replace h := itn h c5
          refine g_iload_n (pc1 := 30) d_Mod_comesOut_29 rfl 2 rfl ?_
          refine g_bipush (pc1 := 32) (v := 8) d_Mod_comesOut_30 rfl (by decide) ?_
          refine g_icmp_eq (pc1 := 35) (tgt := 41) d_Mod_comesOut_32 (by decide) rfl (fun c12 => ?_) (fun c12 => ?_)
          · replace h := itp h c12
            refine g_return rfl d_Mod_comesOut_41 rfl ?_
            cases h; exact hQ
          · replace h := itn h c12
            refine g_iload_n (pc1 := 36) d_Mod_comesOut_35 rfl 2 rfl ?_
            refine g_bipush (pc1 := 38) (v := 9) d_Mod_comesOut_36 rfl (by decide) ?_
            refine g_icmp_ne (pc1 := 41) (tgt := 42) d_Mod_comesOut_38 (by decide) rfl (fun c13 => ?_) (fun c13 => ?_)
            · replace h := itn h c13
              exact j_Mod_comesOut_42 hld  hQ hK0 h
            · replace h := itp h c13
              refine g_return rfl d_Mod_comesOut_41 rfl ?_
              cases h; exact hQ
def F_Mod_comesOut (p1 : Int32) (M : gM) : Option (gM) :=
  H_Mod_comesOut_0 p1 FU M
set_option maxHeartbeats 4000000 in
set_option maxRecDepth 20000 in
theorem f_Mod_comesOut {l : Launch} {ld : Nat} {M : gM} {L : gL} {Q : Option Value → gM → gL → gR → Prop} (hld : isLa ld) {p1 : Int32}  {q : gM} (h : F_Mod_comesOut p1 M = some q) (hQ : Q none q L (rf ld)) : Tm l y_Mod_comesOut (0, 0, 447) 447 [.ref 401, .int p1] M L (rf ld) Q := by
  refine Tm.of (by decide) (Nat.le_of_ble_eq_true rfl) ?_
  show Wp l y_Mod_comesOut (0, 0, 447) 447 0 0 0 [(0, .ref 401), (1, .int p1)] [] M L (rf ld) Q
  unfold F_Mod_comesOut at h
  exact h_Mod_comesOut_0 hld  hQ  _ M h

def F_Mod_feed (p1 : Int32) (p2 : Int32) (p3 : Int32) (p4 : Int32) (p5 : Int32) (M : gM) : Option (Int32 × gM) :=
  (if ((M 401 2) + 20) ≤ 2000 then bI (F_Mod_put p1 M) (fun M3 => bI (F_Mod_put p2 M3) (fun M5 => bI (F_Mod_put p3 M5) (fun M7 => bI (F_Mod_put p4 M7) (fun M9 => bI (F_Mod_put p5 M9) (fun M11 => some ((M11 401 2), M11)))))) else some ((-1), M))
set_option maxHeartbeats 4000000 in
set_option maxRecDepth 20000 in
theorem f_Mod_feed {l : Launch} {ld : Nat} {M : gM} {L : gL} {Q : Option Value → gM → gL → gR → Prop} (hld : isLa ld) {p1 : Int32} {p2 : Int32} {p3 : Int32} {p4 : Int32} {p5 : Int32}  {q : Int32 × gM} (h : F_Mod_feed p1 p2 p3 p4 p5 M = some q) (hQ : Q (some (.int q.1)) q.2 L (rf ld)) : Tm l y_Mod_feed (0, 0, 447) 447 [.ref 401, .int p1, .int p2, .int p3, .int p4, .int p5] M L (rf ld) Q := by
  refine Tm.of (by decide) (Nat.le_of_ble_eq_true rfl) ?_
  show Wp l y_Mod_feed (0, 0, 447) 447 0 0 0 [(0, .ref 401), (1, .int p1), (2, .int p2), (3, .int p3), (4, .int p4), (5, .int p5)] [] M L (rf ld) Q
  unfold F_Mod_feed at h
  refine g_aload_n (pc1 := 1) d_Mod_feed_0 rfl 0 rfl ?_
  refine g_geti (pc1 := 4) d_Mod_feed_1 rfl ⟨_, fo_Mod_169⟩ sh_401 (by decide) ?_
  refine g_bipush (pc1 := 6) (v := 20) d_Mod_feed_4 rfl (by decide) ?_
  refine g_iadd (pc1 := 7) d_Mod_feed_6 rfl ?_
  refine g_sipush (pc1 := 10) (v := 2000) d_Mod_feed_7 rfl (by decide) ?_
  refine g_icmp_le (pc1 := 13) (tgt := 15) d_Mod_feed_10 (by decide) rfl (fun c1 => ?_) (fun c1 => ?_)
  · replace h := itp h c1
    refine g_aload_n (pc1 := 16) d_Mod_feed_15 rfl 0 rfl ?_
    refine g_iload_n (pc1 := 17) d_Mod_feed_16 rfl 1 rfl ?_
    refine g_callV0 (pc1 := 20) (As := [.int p1]) (rest := []) d_Mod_feed_17 rfl mo_Mod_172 mi_Mod_put mv_Mod_put rfl sh_401 (by decide) (by decide) rfl rfl (Nat.le_of_ble_eq_true rfl) ?_
    obtain ⟨M3, hq2, h⟩ := bnd h
    refine f_Mod_put hld  hq2 ?_
    dsimp only [psh]
    refine g_aload_n (pc1 := 21) d_Mod_feed_20 rfl 0 rfl ?_
    refine g_iload_n (pc1 := 22) d_Mod_feed_21 rfl 2 rfl ?_
    refine g_callV0 (pc1 := 25) (As := [.int p2]) (rest := []) d_Mod_feed_22 rfl mo_Mod_172 mi_Mod_put mv_Mod_put rfl sh_401 (by decide) (by decide) rfl rfl (Nat.le_of_ble_eq_true rfl) ?_
    obtain ⟨M5, hq4, h⟩ := bnd h
    refine f_Mod_put hld  hq4 ?_
    dsimp only [psh]
    refine g_aload_n (pc1 := 26) d_Mod_feed_25 rfl 0 rfl ?_
    refine g_iload_n (pc1 := 27) d_Mod_feed_26 rfl 3 rfl ?_
    refine g_callV0 (pc1 := 30) (As := [.int p3]) (rest := []) d_Mod_feed_27 rfl mo_Mod_172 mi_Mod_put mv_Mod_put rfl sh_401 (by decide) (by decide) rfl rfl (Nat.le_of_ble_eq_true rfl) ?_
    obtain ⟨M7, hq6, h⟩ := bnd h
    refine f_Mod_put hld  hq6 ?_
    dsimp only [psh]
    refine g_aload_n (pc1 := 31) d_Mod_feed_30 rfl 0 rfl ?_
    refine g_iload (pc1 := 33) d_Mod_feed_31 rfl 4 rfl ?_
    refine g_callV0 (pc1 := 36) (As := [.int p4]) (rest := []) d_Mod_feed_33 rfl mo_Mod_172 mi_Mod_put mv_Mod_put rfl sh_401 (by decide) (by decide) rfl rfl (Nat.le_of_ble_eq_true rfl) ?_
    obtain ⟨M9, hq8, h⟩ := bnd h
    refine f_Mod_put hld  hq8 ?_
    dsimp only [psh]
    refine g_aload_n (pc1 := 37) d_Mod_feed_36 rfl 0 rfl ?_
    refine g_iload (pc1 := 39) d_Mod_feed_37 rfl 5 rfl ?_
    refine g_callV0 (pc1 := 42) (As := [.int p5]) (rest := []) d_Mod_feed_39 rfl mo_Mod_172 mi_Mod_put mv_Mod_put rfl sh_401 (by decide) (by decide) rfl rfl (Nat.le_of_ble_eq_true rfl) ?_
    obtain ⟨M11, hq10, h⟩ := bnd h
    refine f_Mod_put hld  hq10 ?_
    dsimp only [psh]
    refine g_aload_n (pc1 := 43) d_Mod_feed_42 rfl 0 rfl ?_
    refine g_geti (pc1 := 46) d_Mod_feed_43 rfl ⟨_, fo_Mod_169⟩ sh_401 (by decide) ?_
    refine g_ireturn (Or.inl rfl) d_Mod_feed_46 rfl ?_
    cases h; exact hQ
  · replace h := itn h c1
    refine g_iconst (pc1 := 14) (v := (-1)) d_Mod_feed_13 rfl (by decide) ?_
    refine g_ireturn (Or.inl rfl) d_Mod_feed_14 rfl ?_
    cases h; exact hQ

def F_Mod_goesOn (M : gM) : Option (gM) :=
  (if (M 401 11) = 400 then bI (F_Mod_fail 2 M) (fun M4 => some M4) else nmM (uM M 401 11 ((M 401 11) + 1)) (fun M2 => some M2))
set_option maxHeartbeats 4000000 in
set_option maxRecDepth 20000 in
theorem f_Mod_goesOn {l : Launch} {ld : Nat} {M : gM} {L : gL} {Q : Option Value → gM → gL → gR → Prop} (hld : isLa ld)   {q : gM} (h : F_Mod_goesOn M = some q) (hQ : Q none q L (rf ld)) : Tm l y_Mod_goesOn (0, 0, 447) 447 [.ref 401] M L (rf ld) Q := by
  refine Tm.of (by decide) (Nat.le_of_ble_eq_true rfl) ?_
  show Wp l y_Mod_goesOn (0, 0, 447) 447 0 0 0 [(0, .ref 401)] [] M L (rf ld) Q
  unfold F_Mod_goesOn at h
  refine g_aload_n (pc1 := 1) d_Mod_goesOn_0 rfl 0 rfl ?_
  refine g_geti (pc1 := 4) d_Mod_goesOn_1 rfl ⟨_, fo_Mod_209⟩ sh_401 (by decide) ?_
  refine g_sipush (pc1 := 7) (v := 400) d_Mod_goesOn_4 rfl (by decide) ?_
  refine g_icmp_ne (pc1 := 10) (tgt := 18) d_Mod_goesOn_7 (by decide) rfl (fun c1 => ?_) (fun c1 => ?_)
  · replace h := itn h c1
    refine g_aload_n (pc1 := 19) d_Mod_goesOn_18 rfl 0 rfl ?_
    refine g_dup (pc1 := 20) d_Mod_goesOn_19 rfl rfl ?_
    refine g_geti (pc1 := 23) d_Mod_goesOn_20 rfl ⟨_, fo_Mod_209⟩ sh_401 (by decide) ?_
    refine g_iconst (pc1 := 24) (v := 1) d_Mod_goesOn_23 rfl (by decide) ?_
    refine g_iadd (pc1 := 25) d_Mod_goesOn_24 rfl ?_
    refine g_puti (pc1 := 28) d_Mod_goesOn_25 rfl fo_Mod_209 (po_12_11 _) sh_401 (by decide) ?_
    refine Wp.lM h (fun M2 h => ?_)
    refine g_return rfl d_Mod_goesOn_28 rfl ?_
    cases h; exact hQ
  · replace h := itp h c1
    refine g_aload_n (pc1 := 11) d_Mod_goesOn_10 rfl 0 rfl ?_
    refine g_iconst (pc1 := 12) (v := 2) d_Mod_goesOn_11 rfl (by decide) ?_
    refine g_callV0 (pc1 := 15) (As := [.int 2]) (rest := []) d_Mod_goesOn_12 rfl mo_Mod_221 mi_Mod_fail mv_Mod_fail rfl sh_401 (by decide) (by decide) rfl rfl (Nat.le_of_ble_eq_true rfl) ?_
    obtain ⟨M4, hq3, h⟩ := bnd h
    refine f_Mod_fail hld  hq3 ?_
    dsimp only [psh]
    refine g_goto (tgt := 28) d_Mod_goesOn_15 (by decide) ?_
    refine g_return rfl d_Mod_goesOn_28 rfl ?_
    cases h; exact hQ

def B_Mod_hold_20 (v1 : Int32) (K20 : Int32 → gM → Option (Int32 × gM)) : Int32 → gM → Option (Int32 × gM) := fun v2 M =>
  (if 38 ≤ v2 then some (1, M) else (if (v2 : Int32) < 0 ∨ 38 ≤ (v2 : Int32).toNatClampNeg then none else (if (((38 * v1) + v2) : Int32) < 0 ∨ 114 ≤ (((38 * v1) + v2) : Int32).toNatClampNeg then none else nmM (uM M 446 (((38 * v1) + v2) : Int32).toNatClampNeg (M 436 (v2 : Int32).toNatClampNeg)) (fun M9 => nmI (v2 + 1) (fun x10 => K20 x10 M9)))))
def H_Mod_hold_20 (v1 : Int32) : Nat → Int32 → gM → Option (Int32 × gM) := lpK (B_Mod_hold_20 v1) (fun _ _ => none)
set_option maxHeartbeats 4000000 in
set_option maxRecDepth 20000 in
theorem h_Mod_hold_20 {l : Launch} {ld : Nat} {Q : Option Value → gM → gL → gR → Prop} (hld : isLa ld)   {q : Int32 × gM} {L : gL} (hQ : Q (some (.int q.1)) q.2 L (rf ld))  {v1 : Int32}  : ∀ (f : Nat) (v2 : Int32) (M : gM), H_Mod_hold_20 v1 f v2 M = some q → Wp l y_Mod_hold (0, 0, 447) 447 0 0 20 [(0, .ref 401), (1, .int v1), (2, .int v2)] [] M L (rf ld) Q := by
  intro f
  induction f with
  | zero => intro v2 M h; cases h
  | succ f hK20 =>
    intro v2 M h
    replace h : B_Mod_hold_20 v1 (H_Mod_hold_20 v1 f) v2 M = some q := h
    unfold B_Mod_hold_20 at h
    refine g_iload_n (pc1 := 21) d_Mod_hold_20 rfl 2 rfl ?_
    refine g_bipush (pc1 := 23) (v := 38) d_Mod_hold_21 rfl (by decide) ?_
    refine g_icmp_ge (pc1 := 26) (tgt := 49) d_Mod_hold_23 (by decide) rfl (fun c6 => ?_) (fun c6 => ?_)
    · replace h := itp h c6
      refine g_iconst (pc1 := 50) (v := 1) d_Mod_hold_49 rfl (by decide) ?_
      refine g_ireturn (Or.inr ⟨rfl, rfl⟩) d_Mod_hold_50 rfl ?_
      cases h; exact hQ
    · replace h := itn h c6
      refine g_aload_n (pc1 := 27) d_Mod_hold_26 rfl 0 rfl ?_
      refine g_getr (pc1 := 30) d_Mod_hold_27 rfl ⟨_, fo_Mod_152⟩ sh_401 (by decide) (rf_401_70 ld) ?_
      refine g_bipush (pc1 := 32) (v := 38) d_Mod_hold_30 rfl (by decide) ?_
      refine g_iload_n (pc1 := 33) d_Mod_hold_32 rfl 1 rfl ?_
      refine g_imul (pc1 := 34) d_Mod_hold_33 rfl ?_
      refine g_iload_n (pc1 := 35) d_Mod_hold_34 rfl 2 rfl ?_
      refine g_iadd (pc1 := 36) d_Mod_hold_35 rfl ?_
      refine g_aload_n (pc1 := 37) d_Mod_hold_36 rfl 0 rfl ?_
      refine g_getr (pc1 := 40) d_Mod_hold_37 rfl ⟨_, fo_Mod_122⟩ sh_401 (by decide) (rf_401_52 ld) ?_
      refine g_iload_n (pc1 := 41) d_Mod_hold_40 rfl 2 rfl ?_
      obtain ⟨g7, h⟩ := gdn h
      refine g_iald (pc1 := 42) d_Mod_hold_41 rfl sh_436 (by decide) g7 ?_
      obtain ⟨g8, h⟩ := gdn h
      refine g_iast (pc1 := 43) d_Mod_hold_42 rfl sh_446 (by decide) g8 ?_
      refine Wp.lM h (fun M9 h => ?_)
      obtain ⟨x10, ex10, h⟩ := ltI h
      refine g_iinc (pc1 := 46) (v := x10) (lv' := [(0, .ref 401), (1, .int v1), (2, .int x10)]) d_Mod_hold_43 rfl 2 rfl (by rw [ex10]; rfl) (by decide) [1, 2, 0] rfl ?_
      refine g_goto (tgt := 20) d_Mod_hold_46 (by decide) ?_
      exact hK20 x10 M9 h
def F_Mod_hold (p1 : Int32) (M : gM) : Option (Int32 × gM) :=
  bI (F_Mod_in p1 0 2) (fun r2 => (if r2 = 0 then some (0, M) else (if (p1 : Int32) < 0 ∨ 3 ≤ (p1 : Int32).toNatClampNeg then none else nmM (uM M 445 (p1 : Int32).toNatClampNeg (vp_nar .boolean 1)) (fun M5 => H_Mod_hold_20 p1 FU 0 M5))))
set_option maxHeartbeats 4000000 in
set_option maxRecDepth 20000 in
theorem f_Mod_hold {l : Launch} {ld : Nat} {M : gM} {L : gL} {Q : Option Value → gM → gL → gR → Prop} (hld : isLa ld) {p1 : Int32}  {q : Int32 × gM} (h : F_Mod_hold p1 M = some q) (hQ : Q (some (.int q.1)) q.2 L (rf ld)) : Tm l y_Mod_hold (0, 0, 447) 447 [.ref 401, .int p1] M L (rf ld) Q := by
  refine Tm.of (by decide) (Nat.le_of_ble_eq_true rfl) ?_
  show Wp l y_Mod_hold (0, 0, 447) 447 0 0 0 [(0, .ref 401), (1, .int p1)] [] M L (rf ld) Q
  unfold F_Mod_hold at h
  refine g_iload_n (pc1 := 1) d_Mod_hold_0 rfl 1 rfl ?_
  refine g_iconst (pc1 := 2) (v := 0) d_Mod_hold_1 rfl (by decide) ?_
  refine g_iconst (pc1 := 3) (v := 2) d_Mod_hold_2 rfl (by decide) ?_
  refine g_callS0 (pc1 := 6) (As := [.int p1, .int 0, .int 2]) (rest := []) d_Mod_hold_3 rfl mo_Mod_316 ms_Mod_in (by decide) rfl rfl (Nat.le_of_ble_eq_true rfl) ?_
  obtain ⟨r2, hq1, h⟩ := bnd h
  refine f_Mod_in hld  hq1 ?_
  dsimp only [psh]
  refine g_if_ne (pc1 := 9) (tgt := 11) d_Mod_hold_6 (by decide) rfl (fun c3 => ?_) (fun c3 => ?_)
  · replace h := itn h c3
    refine g_aload_n (pc1 := 12) d_Mod_hold_11 rfl 0 rfl ?_
    refine g_getr (pc1 := 15) d_Mod_hold_12 rfl ⟨_, fo_Mod_149⟩ sh_401 (by decide) (rf_401_69 ld) ?_
    refine g_iload_n (pc1 := 16) d_Mod_hold_15 rfl 1 rfl ?_
    refine g_iconst (pc1 := 17) (v := 1) d_Mod_hold_16 rfl (by decide) ?_
    obtain ⟨g4, h⟩ := gdn h
    refine g_zast (pc1 := 18) d_Mod_hold_17 rfl sh_445 (by decide) g4 ?_
    refine Wp.lM h (fun M5 h => ?_)
    refine g_iconst (pc1 := 19) (v := 0) d_Mod_hold_18 rfl (by decide) ?_
    refine g_istore_n (pc1 := 20) (lv' := [(0, .ref 401), (1, .int p1), (2, .int 0)]) d_Mod_hold_19 rfl rfl (by decide) [1, 2, 0] rfl ?_
    exact h_Mod_hold_20 hld  hQ  _ 0 M5 h
  · replace h := itp h c3
    refine g_iconst (pc1 := 10) (v := 0) d_Mod_hold_9 rfl (by decide) ?_
    refine g_ireturn (Or.inr ⟨rfl, rfl⟩) d_Mod_hold_10 rfl ?_
    cases h; exact hQ

def F_Mod_isBetter (p1 : Int32) (M : gM) : Option (Int32) :=
  (if 0 ≤ (M 401 59) then bI (F_Mod_potPrice M) (fun r3 => (if r3 = (M 401 60) then bI (F_Mod_potMany M) (fun r6 => (if r6 = (M 401 61) then (if (M 401 62) ≤ p1 then some 0 else some 1) else bI (F_Mod_potMany M) (fun r10 => (if (M 401 61) ≤ r10 then some 0 else some 1)))) else bI (F_Mod_potPrice M) (fun r13 => (if (M 401 60) ≤ r13 then some 0 else some 1)))) else some 1)
set_option maxHeartbeats 4000000 in
set_option maxRecDepth 20000 in
theorem f_Mod_isBetter {l : Launch} {ld : Nat} {M : gM} {L : gL} {Q : Option Value → gM → gL → gR → Prop} (hld : isLa ld) {p1 : Int32}  {q : Int32} (h : F_Mod_isBetter p1 M = some q) (hQ : Q (some (.int q)) M L (rf ld)) : Tm l y_Mod_isBetter (0, 0, 447) 447 [.ref 401, .int p1] M L (rf ld) Q := by
  refine Tm.of (by decide) (Nat.le_of_ble_eq_true rfl) ?_
  show Wp l y_Mod_isBetter (0, 0, 447) 447 0 0 0 [(0, .ref 401), (1, .int p1)] [] M L (rf ld) Q
  unfold F_Mod_isBetter at h
  refine g_aload_n (pc1 := 1) d_Mod_isBetter_0 rfl 0 rfl ?_
  refine g_geti (pc1 := 4) d_Mod_isBetter_1 rfl ⟨_, fo_Mod_404⟩ sh_401 (by decide) ?_
  refine g_if_ge (pc1 := 7) (tgt := 9) d_Mod_isBetter_4 (by decide) rfl (fun c1 => ?_) (fun c1 => ?_)
  · replace h := itp h c1
    refine g_aload_n (pc1 := 10) d_Mod_isBetter_9 rfl 0 rfl ?_
    refine g_callV0 (pc1 := 13) (As := []) (rest := []) d_Mod_isBetter_10 rfl mo_Mod_362 mi_Mod_potPrice mv_Mod_potPrice rfl sh_401 (by decide) (by decide) rfl rfl (Nat.le_of_ble_eq_true rfl) ?_
    obtain ⟨r3, hq2, h⟩ := bnd h
    refine f_Mod_potPrice hld  hq2 ?_
    dsimp only [psh]
    refine g_aload_n (pc1 := 14) d_Mod_isBetter_13 rfl 0 rfl ?_
    refine g_geti (pc1 := 17) d_Mod_isBetter_14 rfl ⟨_, fo_Mod_407⟩ sh_401 (by decide) ?_
    refine g_icmp_eq (pc1 := 20) (tgt := 37) d_Mod_isBetter_17 (by decide) rfl (fun c4 => ?_) (fun c4 => ?_)
    · replace h := itp h c4
      refine g_aload_n (pc1 := 38) d_Mod_isBetter_37 rfl 0 rfl ?_
      refine g_callV0 (pc1 := 41) (As := []) (rest := []) d_Mod_isBetter_38 rfl mo_Mod_339 mi_Mod_potMany mv_Mod_potMany rfl sh_401 (by decide) (by decide) rfl rfl (Nat.le_of_ble_eq_true rfl) ?_
      obtain ⟨r6, hq5, h⟩ := bnd h
      refine f_Mod_potMany hld  hq5 ?_
      dsimp only [psh]
      refine g_aload_n (pc1 := 42) d_Mod_isBetter_41 rfl 0 rfl ?_
      refine g_geti (pc1 := 45) d_Mod_isBetter_42 rfl ⟨_, fo_Mod_410⟩ sh_401 (by decide) ?_
      refine g_icmp_eq (pc1 := 48) (tgt := 65) d_Mod_isBetter_45 (by decide) rfl (fun c7 => ?_) (fun c7 => ?_)
      · replace h := itp h c7
        refine g_iload_n (pc1 := 66) d_Mod_isBetter_65 rfl 1 rfl ?_
        refine g_aload_n (pc1 := 67) d_Mod_isBetter_66 rfl 0 rfl ?_
        refine g_geti (pc1 := 70) d_Mod_isBetter_67 rfl ⟨_, fo_Mod_413⟩ sh_401 (by decide) ?_
        refine g_icmp_ge (pc1 := 73) (tgt := 77) d_Mod_isBetter_70 (by decide) rfl (fun c8 => ?_) (fun c8 => ?_)
        · replace h := itp h c8
          refine g_iconst (pc1 := 78) (v := 0) d_Mod_isBetter_77 rfl (by decide) ?_
          refine g_ireturn (Or.inr ⟨rfl, rfl⟩) d_Mod_isBetter_78 rfl ?_
          cases h; exact hQ
        · replace h := itn h c8
          refine g_iconst (pc1 := 74) (v := 1) d_Mod_isBetter_73 rfl (by decide) ?_
          refine g_goto (tgt := 78) d_Mod_isBetter_74 (by decide) ?_
          refine g_ireturn (Or.inr ⟨rfl, rfl⟩) d_Mod_isBetter_78 rfl ?_
          cases h; exact hQ
      · replace h := itn h c7
        refine g_aload_n (pc1 := 49) d_Mod_isBetter_48 rfl 0 rfl ?_
        refine g_callV0 (pc1 := 52) (As := []) (rest := []) d_Mod_isBetter_49 rfl mo_Mod_339 mi_Mod_potMany mv_Mod_potMany rfl sh_401 (by decide) (by decide) rfl rfl (Nat.le_of_ble_eq_true rfl) ?_
        obtain ⟨r10, hq9, h⟩ := bnd h
        refine f_Mod_potMany hld  hq9 ?_
        dsimp only [psh]
        refine g_aload_n (pc1 := 53) d_Mod_isBetter_52 rfl 0 rfl ?_
        refine g_geti (pc1 := 56) d_Mod_isBetter_53 rfl ⟨_, fo_Mod_410⟩ sh_401 (by decide) ?_
        refine g_icmp_ge (pc1 := 59) (tgt := 63) d_Mod_isBetter_56 (by decide) rfl (fun c11 => ?_) (fun c11 => ?_)
        · replace h := itp h c11
          refine g_iconst (pc1 := 64) (v := 0) d_Mod_isBetter_63 rfl (by decide) ?_
          refine g_ireturn (Or.inr ⟨rfl, rfl⟩) d_Mod_isBetter_64 rfl ?_
          cases h; exact hQ
        · replace h := itn h c11
          refine g_iconst (pc1 := 60) (v := 1) d_Mod_isBetter_59 rfl (by decide) ?_
          refine g_goto (tgt := 64) d_Mod_isBetter_60 (by decide) ?_
          refine g_ireturn (Or.inr ⟨rfl, rfl⟩) d_Mod_isBetter_64 rfl ?_
          cases h; exact hQ
    · replace h := itn h c4
      refine g_aload_n (pc1 := 21) d_Mod_isBetter_20 rfl 0 rfl ?_
      refine g_callV0 (pc1 := 24) (As := []) (rest := []) d_Mod_isBetter_21 rfl mo_Mod_362 mi_Mod_potPrice mv_Mod_potPrice rfl sh_401 (by decide) (by decide) rfl rfl (Nat.le_of_ble_eq_true rfl) ?_
      obtain ⟨r13, hq12, h⟩ := bnd h
      refine f_Mod_potPrice hld  hq12 ?_
      dsimp only [psh]
      refine g_aload_n (pc1 := 25) d_Mod_isBetter_24 rfl 0 rfl ?_
      refine g_geti (pc1 := 28) d_Mod_isBetter_25 rfl ⟨_, fo_Mod_407⟩ sh_401 (by decide) ?_
      refine g_icmp_ge (pc1 := 31) (tgt := 35) d_Mod_isBetter_28 (by decide) rfl (fun c14 => ?_) (fun c14 => ?_)
      · replace h := itp h c14
        refine g_iconst (pc1 := 36) (v := 0) d_Mod_isBetter_35 rfl (by decide) ?_
        refine g_ireturn (Or.inr ⟨rfl, rfl⟩) d_Mod_isBetter_36 rfl ?_
        cases h; exact hQ
      · replace h := itn h c14
        refine g_iconst (pc1 := 32) (v := 1) d_Mod_isBetter_31 rfl (by decide) ?_
        refine g_goto (tgt := 36) d_Mod_isBetter_32 (by decide) ?_
        refine g_ireturn (Or.inr ⟨rfl, rfl⟩) d_Mod_isBetter_36 rfl ?_
        cases h; exact hQ
  · replace h := itn h c1
    refine g_iconst (pc1 := 8) (v := 1) d_Mod_isBetter_7 rfl (by decide) ?_
    refine g_ireturn (Or.inr ⟨rfl, rfl⟩) d_Mod_isBetter_8 rfl ?_
    cases h; exact hQ

def F_Mod_isDeed (p1 : Int32) (M : gM) : Option (Int32) :=
  (if ((M 401 18) : Int32) < 0 ∨ 2 ≤ ((M 401 18) : Int32).toNatClampNeg then none else bI (F_Mod_in p1 0 ((M 420 ((M 401 18) : Int32).toNatClampNeg) - 1)) (fun r3 => (if r3 = 0 ∨ r3 = 1 then some r3 else none)))
set_option maxHeartbeats 4000000 in
set_option maxRecDepth 20000 in
theorem f_Mod_isDeed {l : Launch} {ld : Nat} {M : gM} {L : gL} {Q : Option Value → gM → gL → gR → Prop} (hld : isLa ld) {p1 : Int32}  {q : Int32} (h : F_Mod_isDeed p1 M = some q) (hQ : Q (some (.int q)) M L (rf ld)) : Tm l y_Mod_isDeed (0, 0, 447) 447 [.ref 401, .int p1] M L (rf ld) Q := by
  refine Tm.of (by decide) (Nat.le_of_ble_eq_true rfl) ?_
  show Wp l y_Mod_isDeed (0, 0, 447) 447 0 0 0 [(0, .ref 401), (1, .int p1)] [] M L (rf ld) Q
  unfold F_Mod_isDeed at h
  refine g_iload_n (pc1 := 1) d_Mod_isDeed_0 rfl 1 rfl ?_
  refine g_iconst (pc1 := 2) (v := 0) d_Mod_isDeed_1 rfl (by decide) ?_
  refine g_aload_n (pc1 := 3) d_Mod_isDeed_2 rfl 0 rfl ?_
  refine g_getr (pc1 := 6) d_Mod_isDeed_3 rfl ⟨_, fo_Mod_73⟩ sh_401 (by decide) (rf_401_32 ld) ?_
  refine g_aload_n (pc1 := 7) d_Mod_isDeed_6 rfl 0 rfl ?_
  refine g_geti (pc1 := 10) d_Mod_isDeed_7 rfl ⟨_, fo_Mod_236⟩ sh_401 (by decide) ?_
  obtain ⟨g1, h⟩ := gdn h
  refine g_iald (pc1 := 11) d_Mod_isDeed_10 rfl sh_420 (by decide) g1 ?_
  refine g_iconst (pc1 := 12) (v := 1) d_Mod_isDeed_11 rfl (by decide) ?_
  refine g_isub (pc1 := 13) d_Mod_isDeed_12 rfl ?_
  refine g_callS0 (pc1 := 16) (As := [.int p1, .int 0, .int ((M 420 ((M 401 18) : Int32).toNatClampNeg) - 1)]) (rest := []) d_Mod_isDeed_13 rfl mo_Mod_316 ms_Mod_in (by decide) rfl rfl (Nat.le_of_ble_eq_true rfl) ?_
  obtain ⟨r3, hq2, h⟩ := bnd h
  refine f_Mod_in hld  hq2 ?_
  dsimp only [psh]
  obtain ⟨g4, h⟩ := gdp h
  refine g_ireturn (Or.inr ⟨rfl, nar01 g4⟩) d_Mod_isDeed_16 rfl ?_
  cases h; exact hQ

def F_Mod_isDish (p1 : Int32) (M : gM) : Option (Int32) :=
  (if ((M 401 18) : Int32) < 0 ∨ 2 ≤ ((M 401 18) : Int32).toNatClampNeg then none else bI (F_Mod_in p1 0 ((M 415 ((M 401 18) : Int32).toNatClampNeg) - 1)) (fun r3 => (if r3 = 0 ∨ r3 = 1 then some r3 else none)))
set_option maxHeartbeats 4000000 in
set_option maxRecDepth 20000 in
theorem f_Mod_isDish {l : Launch} {ld : Nat} {M : gM} {L : gL} {Q : Option Value → gM → gL → gR → Prop} (hld : isLa ld) {p1 : Int32}  {q : Int32} (h : F_Mod_isDish p1 M = some q) (hQ : Q (some (.int q)) M L (rf ld)) : Tm l y_Mod_isDish (0, 0, 447) 447 [.ref 401, .int p1] M L (rf ld) Q := by
  refine Tm.of (by decide) (Nat.le_of_ble_eq_true rfl) ?_
  show Wp l y_Mod_isDish (0, 0, 447) 447 0 0 0 [(0, .ref 401), (1, .int p1)] [] M L (rf ld) Q
  unfold F_Mod_isDish at h
  refine g_iload_n (pc1 := 1) d_Mod_isDish_0 rfl 1 rfl ?_
  refine g_iconst (pc1 := 2) (v := 0) d_Mod_isDish_1 rfl (by decide) ?_
  refine g_aload_n (pc1 := 3) d_Mod_isDish_2 rfl 0 rfl ?_
  refine g_getr (pc1 := 6) d_Mod_isDish_3 rfl ⟨_, fo_Mod_58⟩ sh_401 (by decide) (rf_401_27 ld) ?_
  refine g_aload_n (pc1 := 7) d_Mod_isDish_6 rfl 0 rfl ?_
  refine g_geti (pc1 := 10) d_Mod_isDish_7 rfl ⟨_, fo_Mod_236⟩ sh_401 (by decide) ?_
  obtain ⟨g1, h⟩ := gdn h
  refine g_iald (pc1 := 11) d_Mod_isDish_10 rfl sh_415 (by decide) g1 ?_
  refine g_iconst (pc1 := 12) (v := 1) d_Mod_isDish_11 rfl (by decide) ?_
  refine g_isub (pc1 := 13) d_Mod_isDish_12 rfl ?_
  refine g_callS0 (pc1 := 16) (As := [.int p1, .int 0, .int ((M 415 ((M 401 18) : Int32).toNatClampNeg) - 1)]) (rest := []) d_Mod_isDish_13 rfl mo_Mod_316 ms_Mod_in (by decide) rfl rfl (Nat.le_of_ble_eq_true rfl) ?_
  obtain ⟨r3, hq2, h⟩ := bnd h
  refine f_Mod_in hld  hq2 ?_
  dsimp only [psh]
  obtain ⟨g4, h⟩ := gdp h
  refine g_ireturn (Or.inr ⟨rfl, nar01 g4⟩) d_Mod_isDish_16 rfl ?_
  cases h; exact hQ

def F_Mod_isFood (p1 : Int32) (M : gM) : Option (Int32) :=
  (if ((M 401 18) : Int32) < 0 ∨ 2 ≤ ((M 401 18) : Int32).toNatClampNeg then none else bI (F_Mod_in p1 0 ((M 411 ((M 401 18) : Int32).toNatClampNeg) - 1)) (fun r3 => (if r3 = 0 ∨ r3 = 1 then some r3 else none)))
set_option maxHeartbeats 4000000 in
set_option maxRecDepth 20000 in
theorem f_Mod_isFood {l : Launch} {ld : Nat} {M : gM} {L : gL} {Q : Option Value → gM → gL → gR → Prop} (hld : isLa ld) {p1 : Int32}  {q : Int32} (h : F_Mod_isFood p1 M = some q) (hQ : Q (some (.int q)) M L (rf ld)) : Tm l y_Mod_isFood (0, 0, 447) 447 [.ref 401, .int p1] M L (rf ld) Q := by
  refine Tm.of (by decide) (Nat.le_of_ble_eq_true rfl) ?_
  show Wp l y_Mod_isFood (0, 0, 447) 447 0 0 0 [(0, .ref 401), (1, .int p1)] [] M L (rf ld) Q
  unfold F_Mod_isFood at h
  refine g_iload_n (pc1 := 1) d_Mod_isFood_0 rfl 1 rfl ?_
  refine g_iconst (pc1 := 2) (v := 0) d_Mod_isFood_1 rfl (by decide) ?_
  refine g_aload_n (pc1 := 3) d_Mod_isFood_2 rfl 0 rfl ?_
  refine g_getr (pc1 := 6) d_Mod_isFood_3 rfl ⟨_, fo_Mod_46⟩ sh_401 (by decide) (rf_401_23 ld) ?_
  refine g_aload_n (pc1 := 7) d_Mod_isFood_6 rfl 0 rfl ?_
  refine g_geti (pc1 := 10) d_Mod_isFood_7 rfl ⟨_, fo_Mod_236⟩ sh_401 (by decide) ?_
  obtain ⟨g1, h⟩ := gdn h
  refine g_iald (pc1 := 11) d_Mod_isFood_10 rfl sh_411 (by decide) g1 ?_
  refine g_iconst (pc1 := 12) (v := 1) d_Mod_isFood_11 rfl (by decide) ?_
  refine g_isub (pc1 := 13) d_Mod_isFood_12 rfl ?_
  refine g_callS0 (pc1 := 16) (As := [.int p1, .int 0, .int ((M 411 ((M 401 18) : Int32).toNatClampNeg) - 1)]) (rest := []) d_Mod_isFood_13 rfl mo_Mod_316 ms_Mod_in (by decide) rfl rfl (Nat.le_of_ble_eq_true rfl) ?_
  obtain ⟨r3, hq2, h⟩ := bnd h
  refine f_Mod_in hld  hq2 ?_
  dsimp only [psh]
  obtain ⟨g4, h⟩ := gdp h
  refine g_ireturn (Or.inr ⟨rfl, nar01 g4⟩) d_Mod_isFood_16 rfl ?_
  cases h; exact hQ

def F_Mod_isGuest (p1 : Int32) (M : gM) : Option (Int32) :=
  (if ((M 401 18) : Int32) < 0 ∨ 2 ≤ ((M 401 18) : Int32).toNatClampNeg then none else bI (F_Mod_in p1 0 ((M 418 ((M 401 18) : Int32).toNatClampNeg) - 1)) (fun r3 => (if r3 = 0 ∨ r3 = 1 then some r3 else none)))
set_option maxHeartbeats 4000000 in
set_option maxRecDepth 20000 in
theorem f_Mod_isGuest {l : Launch} {ld : Nat} {M : gM} {L : gL} {Q : Option Value → gM → gL → gR → Prop} (hld : isLa ld) {p1 : Int32}  {q : Int32} (h : F_Mod_isGuest p1 M = some q) (hQ : Q (some (.int q)) M L (rf ld)) : Tm l y_Mod_isGuest (0, 0, 447) 447 [.ref 401, .int p1] M L (rf ld) Q := by
  refine Tm.of (by decide) (Nat.le_of_ble_eq_true rfl) ?_
  show Wp l y_Mod_isGuest (0, 0, 447) 447 0 0 0 [(0, .ref 401), (1, .int p1)] [] M L (rf ld) Q
  unfold F_Mod_isGuest at h
  refine g_iload_n (pc1 := 1) d_Mod_isGuest_0 rfl 1 rfl ?_
  refine g_iconst (pc1 := 2) (v := 0) d_Mod_isGuest_1 rfl (by decide) ?_
  refine g_aload_n (pc1 := 3) d_Mod_isGuest_2 rfl 0 rfl ?_
  refine g_getr (pc1 := 6) d_Mod_isGuest_3 rfl ⟨_, fo_Mod_67⟩ sh_401 (by decide) (rf_401_30 ld) ?_
  refine g_aload_n (pc1 := 7) d_Mod_isGuest_6 rfl 0 rfl ?_
  refine g_geti (pc1 := 10) d_Mod_isGuest_7 rfl ⟨_, fo_Mod_236⟩ sh_401 (by decide) ?_
  obtain ⟨g1, h⟩ := gdn h
  refine g_iald (pc1 := 11) d_Mod_isGuest_10 rfl sh_418 (by decide) g1 ?_
  refine g_iconst (pc1 := 12) (v := 1) d_Mod_isGuest_11 rfl (by decide) ?_
  refine g_isub (pc1 := 13) d_Mod_isGuest_12 rfl ?_
  refine g_callS0 (pc1 := 16) (As := [.int p1, .int 0, .int ((M 418 ((M 401 18) : Int32).toNatClampNeg) - 1)]) (rest := []) d_Mod_isGuest_13 rfl mo_Mod_316 ms_Mod_in (by decide) rfl rfl (Nat.le_of_ble_eq_true rfl) ?_
  obtain ⟨r3, hq2, h⟩ := bnd h
  refine f_Mod_in hld  hq2 ?_
  dsimp only [psh]
  obtain ⟨g4, h⟩ := gdp h
  refine g_ireturn (Or.inr ⟨rfl, nar01 g4⟩) d_Mod_isGuest_16 rfl ?_
  cases h; exact hQ

def B_Mod_isInStore_7 (M : gM) (K7 : Int32 → Option (Int32 × gM)) : Int32 → Option (Int32 × gM) := fun v2 =>
  (if ((M 401 18) : Int32) < 0 ∨ 2 ≤ ((M 401 18) : Int32).toNatClampNeg then none else (if (M 411 ((M 401 18) : Int32).toNatClampNeg) ≤ v2 then some (1, M) else (if (v2 : Int32) < 0 ∨ 6 ≤ (v2 : Int32).toNatClampNeg then none else (if (v2 : Int32) < 0 ∨ 38 ≤ (v2 : Int32).toNatClampNeg then none else (if (M 438 (v2 : Int32).toNatClampNeg) ≤ (M 437 (v2 : Int32).toNatClampNeg) then nmI (v2 + 1) (fun x8 => K7 x8) else some (0, M))))))
def H_Mod_isInStore_7 (M : gM) : Nat → Int32 → Option (Int32 × gM) := lpK (B_Mod_isInStore_7 M) (fun _ => none)
set_option maxHeartbeats 4000000 in
set_option maxRecDepth 20000 in
theorem h_Mod_isInStore_7 {l : Launch} {ld : Nat} {Q : Option Value → gM → gL → gR → Prop} (hld : isLa ld)   {q : Int32 × gM} {M : gM} {L : gL} (hQ : Q (some (.int q.1)) q.2 L (rf ld))    : ∀ (f : Nat) (v2 : Int32), H_Mod_isInStore_7 M f v2 = some q → Wp l y_Mod_isInStore (0, 0, 447) 447 0 0 7 [(0, .ref 401), (2, .int v2)] [] M L (rf ld) Q := by
  intro f
  induction f with
  | zero => intro v2 h; cases h
  | succ f hK7 =>
    intro v2 h
    replace h : B_Mod_isInStore_7 M (H_Mod_isInStore_7 M f) v2 = some q := h
    unfold B_Mod_isInStore_7 at h
    refine g_iload_n (pc1 := 8) d_Mod_isInStore_7 rfl 1 rfl ?_
    refine g_aload_n (pc1 := 9) d_Mod_isInStore_8 rfl 0 rfl ?_
    refine g_getr (pc1 := 12) d_Mod_isInStore_9 rfl ⟨_, fo_Mod_46⟩ sh_401 (by decide) (rf_401_23 ld) ?_
    refine g_aload_n (pc1 := 13) d_Mod_isInStore_12 rfl 0 rfl ?_
    refine g_geti (pc1 := 16) d_Mod_isInStore_13 rfl ⟨_, fo_Mod_236⟩ sh_401 (by decide) ?_
    obtain ⟨g3, h⟩ := gdn h
    refine g_iald (pc1 := 17) d_Mod_isInStore_16 rfl sh_411 (by decide) g3 ?_
    refine g_icmp_ge (pc1 := 20) (tgt := 43) d_Mod_isInStore_17 (by decide) rfl (fun c4 => ?_) (fun c4 => ?_)
    · replace h := itp h c4
      refine g_iconst (pc1 := 44) (v := 1) d_Mod_isInStore_43 rfl (by decide) ?_
      refine g_ireturn (Or.inr ⟨rfl, rfl⟩) d_Mod_isInStore_44 rfl ?_
      cases h; exact hQ
    · replace h := itn h c4
      refine g_aload_n (pc1 := 21) d_Mod_isInStore_20 rfl 0 rfl ?_
      refine g_getr (pc1 := 24) d_Mod_isInStore_21 rfl ⟨_, fo_Mod_128⟩ sh_401 (by decide) (rf_401_55 ld) ?_
      refine g_iload_n (pc1 := 25) d_Mod_isInStore_24 rfl 1 rfl ?_
      obtain ⟨g5, h⟩ := gdn h
      refine g_iald (pc1 := 26) d_Mod_isInStore_25 rfl sh_438 (by decide) g5 ?_
      refine g_aload_n (pc1 := 27) d_Mod_isInStore_26 rfl 0 rfl ?_
      refine g_getr (pc1 := 30) d_Mod_isInStore_27 rfl ⟨_, fo_Mod_125⟩ sh_401 (by decide) (rf_401_53 ld) ?_
      refine g_iload_n (pc1 := 31) d_Mod_isInStore_30 rfl 1 rfl ?_
      obtain ⟨g6, h⟩ := gdn h
      refine g_iald (pc1 := 32) d_Mod_isInStore_31 rfl sh_437 (by decide) g6 ?_
      refine g_icmp_le (pc1 := 35) (tgt := 37) d_Mod_isInStore_32 (by decide) rfl (fun c7 => ?_) (fun c7 => ?_)
      · replace h := itp h c7
        obtain ⟨x8, ex8, h⟩ := ltI h
        refine g_iinc (pc1 := 40) (v := x8) (lv' := [(0, .ref 401), (2, .int x8)]) d_Mod_isInStore_37 rfl 1 rfl (by rw [ex8]; rfl) (by decide) [1, 0] rfl ?_
        refine g_goto (tgt := 7) d_Mod_isInStore_40 (by decide) ?_
        exact hK7 x8 h
      · replace h := itn h c7
        refine g_iconst (pc1 := 36) (v := 0) d_Mod_isInStore_35 rfl (by decide) ?_
        refine g_ireturn (Or.inr ⟨rfl, rfl⟩) d_Mod_isInStore_36 rfl ?_
        cases h; exact hQ
def F_Mod_isInStore (p1 : Int32) (M : gM) : Option (Int32 × gM) :=
  bI (F_Mod_fillsPot p1 M) (fun M2 => H_Mod_isInStore_7 M2 FU 0)
set_option maxHeartbeats 4000000 in
set_option maxRecDepth 20000 in
theorem f_Mod_isInStore {l : Launch} {ld : Nat} {M : gM} {L : gL} {Q : Option Value → gM → gL → gR → Prop} (hld : isLa ld) {p1 : Int32}  {q : Int32 × gM} (h : F_Mod_isInStore p1 M = some q) (hQ : Q (some (.int q.1)) q.2 L (rf ld)) : Tm l y_Mod_isInStore (0, 0, 447) 447 [.ref 401, .int p1] M L (rf ld) Q := by
  refine Tm.of (by decide) (Nat.le_of_ble_eq_true rfl) ?_
  show Wp l y_Mod_isInStore (0, 0, 447) 447 0 0 0 [(0, .ref 401), (1, .int p1)] [] M L (rf ld) Q
  unfold F_Mod_isInStore at h
  refine g_aload_n (pc1 := 1) d_Mod_isInStore_0 rfl 0 rfl ?_
  refine g_iload_n (pc1 := 2) d_Mod_isInStore_1 rfl 1 rfl ?_
  refine g_callV0 (pc1 := 5) (As := [.int p1]) (rest := []) d_Mod_isInStore_2 rfl mo_Mod_356 mi_Mod_fillsPot mv_Mod_fillsPot rfl sh_401 (by decide) (by decide) rfl rfl (Nat.le_of_ble_eq_true rfl) ?_
  obtain ⟨M2, hq1, h⟩ := bnd h
  refine f_Mod_fillsPot hld  hq1 ?_
  dsimp only [psh]
  refine g_iconst (pc1 := 6) (v := 0) d_Mod_isInStore_5 rfl (by decide) ?_
  refine g_istore_n (pc1 := 7) (lv' := [(0, .ref 401), (1, .int p1), (2, .int 0)]) d_Mod_isInStore_6 rfl rfl (by decide) [1, 2, 0] rfl ?_
  refine Wp.loc (lv' := [(0, .ref 401), (2, .int 0)]) [0, 2] rfl ?_
  exact h_Mod_isInStore_7 hld  hQ  _ 0 h

def F_Mod_isLong (p1 : Int32) : Option (Int32) :=
  bI (F_Mod_in p1 0 60) (fun r2 => (if r2 = 0 ∨ r2 = 1 then some r2 else none))
set_option maxHeartbeats 4000000 in
set_option maxRecDepth 20000 in
theorem f_Mod_isLong {l : Launch} {ld : Nat} {M : gM} {L : gL} {Q : Option Value → gM → gL → gR → Prop} (hld : isLa ld) {p1 : Int32}  {q : Int32} (h : F_Mod_isLong p1 = some q) (hQ : Q (some (.int q)) M L (rf ld)) : Tm l y_Mod_isLong (0, 0, 447) 447 [.int p1] M L (rf ld) Q := by
  refine Tm.of (by decide) (Nat.le_of_ble_eq_true rfl) ?_
  show Wp l y_Mod_isLong (0, 0, 447) 447 0 0 0 [(0, .int p1)] [] M L (rf ld) Q
  unfold F_Mod_isLong at h
  refine g_iload_n (pc1 := 1) d_Mod_isLong_0 rfl 0 rfl ?_
  refine g_iconst (pc1 := 2) (v := 0) d_Mod_isLong_1 rfl (by decide) ?_
  refine g_bipush (pc1 := 4) (v := 60) d_Mod_isLong_2 rfl (by decide) ?_
  refine g_callS0 (pc1 := 7) (As := [.int p1, .int 0, .int 60]) (rest := []) d_Mod_isLong_4 rfl mo_Mod_316 ms_Mod_in (by decide) rfl rfl (Nat.le_of_ble_eq_true rfl) ?_
  obtain ⟨r2, hq1, h⟩ := bnd h
  refine f_Mod_in hld  hq1 ?_
  dsimp only [psh]
  obtain ⟨g3, h⟩ := gdp h
  refine g_ireturn (Or.inr ⟨rfl, nar01 g3⟩) d_Mod_isLong_7 rfl ?_
  cases h; exact hQ

