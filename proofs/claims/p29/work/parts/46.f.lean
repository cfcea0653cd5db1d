section MG5x0
def F_Mod_appends (p1 : Int64) (p2 : Int32) : Option (Int64) :=
  (if p2 = 0 then some p1 else some ((27 * p1) + ((((p2 - 97) + 1) : Int32).toInt64)))
set_option maxHeartbeats 4000000 in
set_option maxRecDepth 20000 in
theorem f_Mod_appends {l : Launch} {ld : Nat} {M : gM} {L : gL} {Q : Option Value → gM → gL → gR → Prop} (hld : isLa ld) {p1 : Int64} {p2 : Int32}  {q : Int64} (h : F_Mod_appends p1 p2 = some q) (hQ : Q (some (.long q)) M L (rf ld)) : Tm l y_Mod_appends (0, 0, 447) 447 [.long p1, .int p2] M L (rf ld) Q := by
  refine Tm.of (by decide) (Nat.le_of_ble_eq_true rfl) ?_
  show Wp l y_Mod_appends (0, 0, 447) 447 0 0 0 [(0, .long p1), (2, .int p2)] [] M L (rf ld) Q
  unfold F_Mod_appends at h
  refine g_iload_n (pc1 := 1) d_Mod_appends_0 rfl 1 rfl ?_
  refine g_if_ne (pc1 := 4) (tgt := 8) d_Mod_appends_1 (by decide) rfl (fun c1 => ?_) (fun c1 => ?_)
  · replace h := itn h c1
    refine g_ldc2 (pc1 := 11) (v := 27) d_Mod_appends_8 rfl co_Mod_178 ?_
    refine g_lload_n (pc1 := 12) d_Mod_appends_11 rfl 0 rfl ?_
    refine g_lmul (pc1 := 13) d_Mod_appends_12 rfl ?_
    refine g_iload_n (pc1 := 14) d_Mod_appends_13 rfl 1 rfl ?_
    refine g_bipush (pc1 := 16) (v := 97) d_Mod_appends_14 rfl (by decide) ?_
    refine g_isub (pc1 := 17) d_Mod_appends_16 rfl ?_
    refine g_iconst (pc1 := 18) (v := 1) d_Mod_appends_17 rfl (by decide) ?_
    refine g_iadd (pc1 := 19) d_Mod_appends_18 rfl ?_
    refine g_i2l (pc1 := 20) d_Mod_appends_19 rfl ?_
    refine g_ladd (pc1 := 21) d_Mod_appends_20 rfl ?_
    refine g_lreturn rfl d_Mod_appends_21 rfl ?_
    cases h; exact hQ
  · replace h := itp h c1
    refine g_lload_n (pc1 := 5) d_Mod_appends_4 rfl 0 rfl ?_
    refine g_goto (tgt := 21) d_Mod_appends_5 (by decide) ?_
    refine g_lreturn rfl d_Mod_appends_21 rfl ?_
    cases h; exact hQ

def F_Mod_back (p1 : Int32) (M : gM) : Option (Int32 × gM) :=
  (if p1 < 0 then some ((-1), M) else (if p1 ≤ (M 401 2) then nmM (uM M 401 2 ((M 401 2) - p1)) (fun M3 => some ((M3 401 2), M3)) else some ((-1), M)))
set_option maxHeartbeats 4000000 in
set_option maxRecDepth 20000 in
theorem f_Mod_back {l : Launch} {ld : Nat} {M : gM} {L : gL} {Q : Option Value → gM → gL → gR → Prop} (hld : isLa ld) {p1 : Int32}  {q : Int32 × gM} (h : F_Mod_back p1 M = some q) (hQ : Q (some (.int q.1)) q.2 L (rf ld)) : Tm l y_Mod_back (0, 0, 447) 447 [.ref 401, .int p1] M L (rf ld) Q := by
  refine Tm.of (by decide) (Nat.le_of_ble_eq_true rfl) ?_
  show Wp l y_Mod_back (0, 0, 447) 447 0 0 0 [(0, .ref 401), (1, .int p1)] [] M L (rf ld) Q
  unfold F_Mod_back at h
  refine g_iload_n (pc1 := 1) d_Mod_back_0 rfl 1 rfl ?_
  refine g_if_lt (pc1 := 4) (tgt := 12) d_Mod_back_1 (by decide) rfl (fun c1 => ?_) (fun c1 => ?_)
  · replace h := itp h c1
    refine g_iconst (pc1 := 13) (v := (-1)) d_Mod_back_12 rfl (by decide) ?_
    refine g_ireturn (Or.inl rfl) d_Mod_back_13 rfl ?_
    cases h; exact hQ
  · replace h := itn h c1
    refine g_iload_n (pc1 := 5) d_Mod_back_4 rfl 1 rfl ?_
    refine g_aload_n (pc1 := 6) d_Mod_back_5 rfl 0 rfl ?_
    refine g_geti (pc1 := 9) d_Mod_back_6 rfl ⟨_, fo_Mod_169⟩ sh_401 (by decide) ?_
    refine g_icmp_le (pc1 := 12) (tgt := 14) d_Mod_back_9 (by decide) rfl (fun c2 => ?_) (fun c2 => ?_)
    · replace h := itp h c2
      refine g_aload_n (pc1 := 15) d_Mod_back_14 rfl 0 rfl ?_
      refine g_dup (pc1 := 16) d_Mod_back_15 rfl rfl ?_
      refine g_geti (pc1 := 19) d_Mod_back_16 rfl ⟨_, fo_Mod_169⟩ sh_401 (by decide) ?_
      refine g_iload_n (pc1 := 20) d_Mod_back_19 rfl 1 rfl ?_
      refine g_isub (pc1 := 21) d_Mod_back_20 rfl ?_
      refine g_puti (pc1 := 24) d_Mod_back_21 rfl fo_Mod_169 (po_12_2 _) sh_401 (by decide) ?_
      refine Wp.lM h (fun M3 h => ?_)
      refine g_aload_n (pc1 := 25) d_Mod_back_24 rfl 0 rfl ?_
      refine g_geti (pc1 := 28) d_Mod_back_25 rfl ⟨_, fo_Mod_169⟩ sh_401 (by decide) ?_
      refine g_ireturn (Or.inl rfl) d_Mod_back_28 rfl ?_
      cases h; exact hQ
    · replace h := itn h c2
      refine g_iconst (pc1 := 13) (v := (-1)) d_Mod_back_12 rfl (by decide) ?_
      refine g_ireturn (Or.inl rfl) d_Mod_back_13 rfl ?_
      cases h; exact hQ

def J_Mod_begins_95 (M : gM) : Option (gM) :=
  (if ((M 401 18) : Int32) < 0 ∨ 2 ≤ ((M 401 18) : Int32).toNatClampNeg then none else nmM (uM M 401 54 (M 423 ((M 401 18) : Int32).toNatClampNeg)) (fun M7 => some M7))
set_option maxHeartbeats 4000000 in
set_option maxRecDepth 20000 in
theorem j_Mod_begins_95 {l : Launch} {ld : Nat} {Q : Option Value → gM → gL → gR → Prop} (hld : isLa ld)   {q : gM} {M : gM} {L : gL} (hQ : Q none q L (rf ld))    (h : J_Mod_begins_95 M = some q) : Wp l y_Mod_begins (0, 0, 447) 447 0 0 95 [(0, .ref 401)] [] M L (rf ld) Q := by
  unfold J_Mod_begins_95 at h
  refine g_aload_n (pc1 := 96) d_Mod_begins_95 rfl 0 rfl ?_
  refine g_aload_n (pc1 := 97) d_Mod_begins_96 rfl 0 rfl ?_
  refine g_getr (pc1 := 100) d_Mod_begins_97 rfl ⟨_, fo_Mod_82⟩ sh_401 (by decide) (rf_401_35 ld) ?_
  refine g_aload_n (pc1 := 101) d_Mod_begins_100 rfl 0 rfl ?_
  refine g_geti (pc1 := 104) d_Mod_begins_101 rfl ⟨_, fo_Mod_236⟩ sh_401 (by decide) ?_
  obtain ⟨g6, h⟩ := gdn h
  refine g_iald (pc1 := 105) d_Mod_begins_104 rfl sh_423 (by decide) g6 ?_
  refine g_puti (pc1 := 108) d_Mod_begins_105 rfl fo_Mod_320 (po_12_54 _) sh_401 (by decide) ?_
  refine Wp.lM h (fun M7 h => ?_)
  refine g_return rfl d_Mod_begins_108 rfl ?_
  cases h; exact hQ
def B_Mod_begins_73  (K73 : Int32 → gM → Option (gM)) : Int32 → gM → Option (gM) := fun v1 M =>
  (if 4 ≤ v1 then J_Mod_begins_95 M else (if ((15 + v1) : Int32) < 0 ∨ 38 ≤ ((15 + v1) : Int32).toNatClampNeg then none else nmM (uM M 437 ((15 + v1) : Int32).toNatClampNeg (-2)) (fun M9 => nmI (v1 + 1) (fun x10 => K73 x10 M9))))
def H_Mod_begins_73  : Nat → Int32 → gM → Option (gM) := lpK (B_Mod_begins_73 ) (fun _ _ => none)
set_option maxHeartbeats 4000000 in
set_option maxRecDepth 20000 in
theorem h_Mod_begins_73 {l : Launch} {ld : Nat} {Q : Option Value → gM → gL → gR → Prop} (hld : isLa ld)   {q : gM} {L : gL} (hQ : Q none q L (rf ld))    : ∀ (f : Nat) (v1 : Int32) (M : gM), H_Mod_begins_73  f v1 M = some q → Wp l y_Mod_begins (0, 0, 447) 447 0 0 73 [(0, .ref 401), (1, .int v1)] [] M L (rf ld) Q := by
  intro f
  induction f with
  | zero => intro v1 M h; cases h
  | succ f hK73 =>
    intro v1 M h
    replace h : B_Mod_begins_73  (H_Mod_begins_73  f) v1 M = some q := h
    unfold B_Mod_begins_73 at h
    refine g_iload_n (pc1 := 74) d_Mod_begins_73 rfl 1 rfl ?_
    refine g_iconst (pc1 := 75) (v := 4) d_Mod_begins_74 rfl (by decide) ?_
    refine g_icmp_ge (pc1 := 78) (tgt := 95) d_Mod_begins_75 (by decide) rfl (fun c5 => ?_) (fun c5 => ?_)
    · replace h := itp h c5
      refine Wp.loc (lv' := [(0, .ref 401)]) [0] rfl ?_
      exact j_Mod_begins_95 hld  hQ  h
    · replace h := itn h c5
      refine g_aload_n (pc1 := 79) d_Mod_begins_78 rfl 0 rfl ?_
      refine g_getr (pc1 := 82) d_Mod_begins_79 rfl ⟨_, fo_Mod_125⟩ sh_401 (by decide) (rf_401_53 ld) ?_
      refine g_bipush (pc1 := 84) (v := 15) d_Mod_begins_82 rfl (by decide) ?_
      refine g_iload_n (pc1 := 85) d_Mod_begins_84 rfl 1 rfl ?_
      refine g_iadd (pc1 := 86) d_Mod_begins_85 rfl ?_
      refine g_bipush (pc1 := 88) (v := (-2)) d_Mod_begins_86 rfl (by decide) ?_
      obtain ⟨g8, h⟩ := gdn h
      refine g_iast (pc1 := 89) d_Mod_begins_88 rfl sh_437 (by decide) g8 ?_
      refine Wp.lM h (fun M9 h => ?_)
      obtain ⟨x10, ex10, h⟩ := ltI h
      refine g_iinc (pc1 := 92) (v := x10) (lv' := [(0, .ref 401), (1, .int x10)]) d_Mod_begins_89 rfl 1 rfl (by rw [ex10]; rfl) (by decide) [1, 0] rfl ?_
      refine g_goto (tgt := 73) d_Mod_begins_92 (by decide) ?_
      exact hK73 x10 M9 h
def J_Mod_begins_62 (M : gM) : Option (gM) :=
  nmM (uM M 437 11 (-2)) (fun M4 => H_Mod_begins_73 FU 0 M4)
set_option maxHeartbeats 4000000 in
set_option maxRecDepth 20000 in
theorem j_Mod_begins_62 {l : Launch} {ld : Nat} {Q : Option Value → gM → gL → gR → Prop} (hld : isLa ld)   {q : gM} {M : gM} {L : gL} (hQ : Q none q L (rf ld))    (h : J_Mod_begins_62 M = some q) : Wp l y_Mod_begins (0, 0, 447) 447 0 0 62 [(0, .ref 401)] [] M L (rf ld) Q := by
  unfold J_Mod_begins_62 at h
  refine g_aload_n (pc1 := 63) d_Mod_begins_62 rfl 0 rfl ?_
  refine g_getr (pc1 := 66) d_Mod_begins_63 rfl ⟨_, fo_Mod_125⟩ sh_401 (by decide) (rf_401_53 ld) ?_
  refine g_bipush (pc1 := 68) (v := 11) d_Mod_begins_66 rfl (by decide) ?_
  refine g_bipush (pc1 := 70) (v := (-2)) d_Mod_begins_68 rfl (by decide) ?_
  refine g_iast (pc1 := 71) d_Mod_begins_70 rfl sh_437 (by decide) (vin_lit (x := 11) (by decide)) ?_
  refine Wp.eqM (M' := uM M 437 11 (-2)) (congrArg (fun z => uM M 437 z (-2)) (by decide)) ?_
  refine Wp.lM h (fun M4 h => ?_)
  refine g_iconst (pc1 := 72) (v := 0) d_Mod_begins_71 rfl (by decide) ?_
  refine g_istore_n (pc1 := 73) (lv' := [(0, .ref 401), (1, .int 0)]) d_Mod_begins_72 rfl rfl (by decide) [1, 0] rfl ?_
  exact h_Mod_begins_73 hld  hQ  _ 0 M4 h
def B_Mod_begins_23  (K23 : Int32 → gM → Option (gM)) : Int32 → gM → Option (gM) := fun v1 M =>
  (if ((M 401 18) : Int32) < 0 ∨ 2 ≤ ((M 401 18) : Int32).toNatClampNeg then none else (if (M 411 ((M 401 18) : Int32).toNatClampNeg) ≤ v1 then J_Mod_begins_62 M else (if (((6 * (M 401 18)) + v1) : Int32) < 0 ∨ 12 ≤ (((6 * (M 401 18)) + v1) : Int32).toNatClampNeg then none else (if (v1 : Int32) < 0 ∨ 38 ≤ (v1 : Int32).toNatClampNeg then none else nmM (uM M 437 (v1 : Int32).toNatClampNeg (M 412 (((6 * (M 401 18)) + v1) : Int32).toNatClampNeg)) (fun M13 => nmI (v1 + 1) (fun x14 => K23 x14 M13))))))
def H_Mod_begins_23  : Nat → Int32 → gM → Option (gM) := lpK (B_Mod_begins_23 ) (fun _ _ => none)
set_option maxHeartbeats 4000000 in
set_option maxRecDepth 20000 in
theorem h_Mod_begins_23 {l : Launch} {ld : Nat} {Q : Option Value → gM → gL → gR → Prop} (hld : isLa ld)   {q : gM} {L : gL} (hQ : Q none q L (rf ld))    : ∀ (f : Nat) (v1 : Int32) (M : gM), H_Mod_begins_23  f v1 M = some q → Wp l y_Mod_begins (0, 0, 447) 447 0 0 23 [(0, .ref 401), (1, .int v1)] [] M L (rf ld) Q := by
  intro f
  induction f with
  | zero => intro v1 M h; cases h
  | succ f hK23 =>
    intro v1 M h
    replace h : B_Mod_begins_23  (H_Mod_begins_23  f) v1 M = some q := h
    unfold B_Mod_begins_23 at h
    refine g_iload_n (pc1 := 24) d_Mod_begins_23 rfl 1 rfl ?_
    refine g_aload_n (pc1 := 25) d_Mod_begins_24 rfl 0 rfl ?_
    refine g_getr (pc1 := 28) d_Mod_begins_25 rfl ⟨_, fo_Mod_46⟩ sh_401 (by decide) (rf_401_23 ld) ?_
    refine g_aload_n (pc1 := 29) d_Mod_begins_28 rfl 0 rfl ?_
    refine g_geti (pc1 := 32) d_Mod_begins_29 rfl ⟨_, fo_Mod_236⟩ sh_401 (by decide) ?_
    obtain ⟨g2, h⟩ := gdn h
    refine g_iald (pc1 := 33) d_Mod_begins_32 rfl sh_411 (by decide) g2 ?_
    refine g_icmp_ge (pc1 := 36) (tgt := 62) d_Mod_begins_33 (by decide) rfl (fun c3 => ?_) (fun c3 => ?_)
    · replace h := itp h c3
      refine Wp.loc (lv' := [(0, .ref 401)]) [0] rfl ?_
      exact j_Mod_begins_62 hld  hQ  h
    · replace h := itn h c3
      refine g_aload_n (pc1 := 37) d_Mod_begins_36 rfl 0 rfl ?_
      refine g_getr (pc1 := 40) d_Mod_begins_37 rfl ⟨_, fo_Mod_125⟩ sh_401 (by decide) (rf_401_53 ld) ?_
      refine g_iload_n (pc1 := 41) d_Mod_begins_40 rfl 1 rfl ?_
      refine g_aload_n (pc1 := 42) d_Mod_begins_41 rfl 0 rfl ?_
      refine g_getr (pc1 := 45) d_Mod_begins_42 rfl ⟨_, fo_Mod_49⟩ sh_401 (by decide) (rf_401_24 ld) ?_
      refine g_bipush (pc1 := 47) (v := 6) d_Mod_begins_45 rfl (by decide) ?_
      refine g_aload_n (pc1 := 48) d_Mod_begins_47 rfl 0 rfl ?_
      refine g_geti (pc1 := 51) d_Mod_begins_48 rfl ⟨_, fo_Mod_236⟩ sh_401 (by decide) ?_
      refine g_imul (pc1 := 52) d_Mod_begins_51 rfl ?_
      refine g_iload_n (pc1 := 53) d_Mod_begins_52 rfl 1 rfl ?_
      refine g_iadd (pc1 := 54) d_Mod_begins_53 rfl ?_
      obtain ⟨g11, h⟩ := gdn h
      refine g_iald (pc1 := 55) d_Mod_begins_54 rfl sh_412 (by decide) g11 ?_
      obtain ⟨g12, h⟩ := gdn h
      refine g_iast (pc1 := 56) d_Mod_begins_55 rfl sh_437 (by decide) g12 ?_
      refine Wp.lM h (fun M13 h => ?_)
      obtain ⟨x14, ex14, h⟩ := ltI h
      refine g_iinc (pc1 := 59) (v := x14) (lv' := [(0, .ref 401), (1, .int x14)]) d_Mod_begins_56 rfl 1 rfl (by rw [ex14]; rfl) (by decide) [1, 0] rfl ?_
      refine g_goto (tgt := 23) d_Mod_begins_59 (by decide) ?_
      exact hK23 x14 M13 h
def J_Mod_begins_21 (M : gM) : Option (gM) :=
  H_Mod_begins_23 FU 0 M
set_option maxHeartbeats 4000000 in
set_option maxRecDepth 20000 in
theorem j_Mod_begins_21 {l : Launch} {ld : Nat} {Q : Option Value → gM → gL → gR → Prop} (hld : isLa ld)   {q : gM} {M : gM} {L : gL} (hQ : Q none q L (rf ld))    (h : J_Mod_begins_21 M = some q) : Wp l y_Mod_begins (0, 0, 447) 447 0 0 21 [(0, .ref 401)] [] M L (rf ld) Q := by
  unfold J_Mod_begins_21 at h
  refine g_iconst (pc1 := 22) (v := 0) d_Mod_begins_21 rfl (by decide) ?_
  refine g_istore_n (pc1 := 23) (lv' := [(0, .ref 401), (1, .int 0)]) d_Mod_begins_22 rfl rfl (by decide) [1, 0] rfl ?_
  exact h_Mod_begins_23 hld  hQ  _ 0 M h
def B_Mod_begins_2  (K2 : Int32 → gM → Option (gM)) : Int32 → gM → Option (gM) := fun v1 M =>
  (if 38 ≤ v1 then J_Mod_begins_21 M else (if (v1 : Int32) < 0 ∨ 38 ≤ (v1 : Int32).toNatClampNeg then none else nmM (uM M 437 (v1 : Int32).toNatClampNeg 0) (fun M16 => nmI (v1 + 1) (fun x17 => K2 x17 M16))))
def H_Mod_begins_2  : Nat → Int32 → gM → Option (gM) := lpK (B_Mod_begins_2 ) (fun _ _ => none)
set_option maxHeartbeats 4000000 in
set_option maxRecDepth 20000 in
theorem h_Mod_begins_2 {l : Launch} {ld : Nat} {Q : Option Value → gM → gL → gR → Prop} (hld : isLa ld)   {q : gM} {L : gL} (hQ : Q none q L (rf ld))    : ∀ (f : Nat) (v1 : Int32) (M : gM), H_Mod_begins_2  f v1 M = some q → Wp l y_Mod_begins (0, 0, 447) 447 0 0 2 [(0, .ref 401), (1, .int v1)] [] M L (rf ld) Q := by
  intro f
  induction f with
  | zero => intro v1 M h; cases h
  | succ f hK2 =>
    intro v1 M h
    replace h : B_Mod_begins_2  (H_Mod_begins_2  f) v1 M = some q := h
    unfold B_Mod_begins_2 at h
    refine g_iload_n (pc1 := 3) d_Mod_begins_2 rfl 1 rfl ?_
    refine g_bipush (pc1 := 5) (v := 38) d_Mod_begins_3 rfl (by decide) ?_
    refine g_icmp_ge (pc1 := 8) (tgt := 21) d_Mod_begins_5 (by decide) rfl (fun c1 => ?_) (fun c1 => ?_)
    · replace h := itp h c1
      refine Wp.loc (lv' := [(0, .ref 401)]) [0] rfl ?_
      exact j_Mod_begins_21 hld  hQ  h
    · replace h := itn h c1
      refine g_aload_n (pc1 := 9) d_Mod_begins_8 rfl 0 rfl ?_
      refine g_getr (pc1 := 12) d_Mod_begins_9 rfl ⟨_, fo_Mod_125⟩ sh_401 (by decide) (rf_401_53 ld) ?_
      refine g_iload_n (pc1 := 13) d_Mod_begins_12 rfl 1 rfl ?_
      refine g_iconst (pc1 := 14) (v := 0) d_Mod_begins_13 rfl (by decide) ?_
      obtain ⟨g15, h⟩ := gdn h
      refine g_iast (pc1 := 15) d_Mod_begins_14 rfl sh_437 (by decide) g15 ?_
      refine Wp.lM h (fun M16 h => ?_)
      obtain ⟨x17, ex17, h⟩ := ltI h
      refine g_iinc (pc1 := 18) (v := x17) (lv' := [(0, .ref 401), (1, .int x17)]) d_Mod_begins_15 rfl 1 rfl (by rw [ex17]; rfl) (by decide) [1, 0] rfl ?_
      refine g_goto (tgt := 2) d_Mod_begins_18 (by decide) ?_
      exact hK2 x17 M16 h
def F_Mod_begins (M : gM) : Option (gM) :=
  H_Mod_begins_2 FU 0 M
set_option maxHeartbeats 4000000 in
set_option maxRecDepth 20000 in
theorem f_Mod_begins {l : Launch} {ld : Nat} {M : gM} {L : gL} {Q : Option Value → gM → gL → gR → Prop} (hld : isLa ld)   {q : gM} (h : F_Mod_begins M = some q) (hQ : Q none q L (rf ld)) : Tm l y_Mod_begins (0, 0, 447) 447 [.ref 401] M L (rf ld) Q := by
  refine Tm.of (by decide) (Nat.le_of_ble_eq_true rfl) ?_
  show Wp l y_Mod_begins (0, 0, 447) 447 0 0 0 [(0, .ref 401)] [] M L (rf ld) Q
  unfold F_Mod_begins at h
  refine g_iconst (pc1 := 1) (v := 0) d_Mod_begins_0 rfl (by decide) ?_
  refine g_istore_n (pc1 := 2) (lv' := [(0, .ref 401), (1, .int 0)]) d_Mod_begins_1 rfl rfl (by decide) [1, 0] rfl ?_
  exact h_Mod_begins_2 hld  hQ  _ 0 M h

def B_Mod_bits_4 (v0 : Int32) (K4 : Int32 → Int32 → Option (Int32)) : Int32 → Int32 → Option (Int32) := fun v1 v2 =>
  (if 6 ≤ v2 then some v1 else nmI (v1 + ((v0 >>> (v2 &&& 31)) &&& 1)) (fun x2 => nmI (v2 + 1) (fun x3 => K4 x2 x3)))
def H_Mod_bits_4 (v0 : Int32) : Nat → Int32 → Int32 → Option (Int32) := lpK (B_Mod_bits_4 v0) (fun _ _ => none)
set_option maxHeartbeats 4000000 in
set_option maxRecDepth 20000 in
theorem h_Mod_bits_4 {l : Launch} {ld : Nat} {Q : Option Value → gM → gL → gR → Prop} (hld : isLa ld)   {q : Int32} {M : gM} {L : gL} (hQ : Q (some (.int q)) M L (rf ld))  {v0 : Int32}  : ∀ (f : Nat) (v1 : Int32) (v2 : Int32), H_Mod_bits_4 v0 f v1 v2 = some q → Wp l y_Mod_bits (0, 0, 447) 447 0 0 4 [(0, .int v0), (1, .int v1), (2, .int v2)] [] M L (rf ld) Q := by
  intro f
  induction f with
  | zero => intro v1 v2 h; cases h
  | succ f hK4 =>
    intro v1 v2 h
    replace h : B_Mod_bits_4 v0 (H_Mod_bits_4 v0 f) v1 v2 = some q := h
    unfold B_Mod_bits_4 at h
    refine g_iload_n (pc1 := 5) d_Mod_bits_4 rfl 2 rfl ?_
    refine g_bipush (pc1 := 7) (v := 6) d_Mod_bits_5 rfl (by decide) ?_
    refine g_icmp_ge (pc1 := 10) (tgt := 24) d_Mod_bits_7 (by decide) rfl (fun c1 => ?_) (fun c1 => ?_)
    · replace h := itp h c1
      refine g_iload_n (pc1 := 25) d_Mod_bits_24 rfl 1 rfl ?_
      refine g_ireturn (Or.inl rfl) d_Mod_bits_25 rfl ?_
      cases h; exact hQ
    · replace h := itn h c1
      refine g_iload_n (pc1 := 11) d_Mod_bits_10 rfl 1 rfl ?_
      refine g_iload_n (pc1 := 12) d_Mod_bits_11 rfl 0 rfl ?_
      refine g_iload_n (pc1 := 13) d_Mod_bits_12 rfl 2 rfl ?_
      refine g_ishr (pc1 := 14) d_Mod_bits_13 rfl ?_
      refine g_iconst (pc1 := 15) (v := 1) d_Mod_bits_14 rfl (by decide) ?_
      refine g_iand (pc1 := 16) d_Mod_bits_15 rfl ?_
      refine g_iadd (pc1 := 17) d_Mod_bits_16 rfl ?_
      refine Wp.lI h (fun x2 h => ?_)
      refine g_istore_n (pc1 := 18) (lv' := [(0, .int v0), (1, .int x2), (2, .int v2)]) d_Mod_bits_17 rfl rfl (by decide) [1, 0, 2] rfl ?_
      obtain ⟨x3, ex3, h⟩ := ltI h
      refine g_iinc (pc1 := 21) (v := x3) (lv' := [(0, .int v0), (1, .int x2), (2, .int x3)]) d_Mod_bits_18 rfl 2 rfl (by rw [ex3]; rfl) (by decide) [1, 2, 0] rfl ?_
      refine g_goto (tgt := 4) d_Mod_bits_21 (by decide) ?_
      exact hK4 x2 x3 h
def F_Mod_bits (p1 : Int32) : Option (Int32) :=
  H_Mod_bits_4 p1 FU 0 0
set_option maxHeartbeats 4000000 in
set_option maxRecDepth 20000 in
theorem f_Mod_bits {l : Launch} {ld : Nat} {M : gM} {L : gL} {Q : Option Value → gM → gL → gR → Prop} (hld : isLa ld) {p1 : Int32}  {q : Int32} (h : F_Mod_bits p1 = some q) (hQ : Q (some (.int q)) M L (rf ld)) : Tm l y_Mod_bits (0, 0, 447) 447 [.int p1] M L (rf ld) Q := by
  refine Tm.of (by decide) (Nat.le_of_ble_eq_true rfl) ?_
  show Wp l y_Mod_bits (0, 0, 447) 447 0 0 0 [(0, .int p1)] [] M L (rf ld) Q
  unfold F_Mod_bits at h
  refine g_iconst (pc1 := 1) (v := 0) d_Mod_bits_0 rfl (by decide) ?_
  refine g_istore_n (pc1 := 2) (lv' := [(0, .int p1), (1, .int 0)]) d_Mod_bits_1 rfl rfl (by decide) [1, 0] rfl ?_
  refine g_iconst (pc1 := 3) (v := 0) d_Mod_bits_2 rfl (by decide) ?_
  refine g_istore_n (pc1 := 4) (lv' := [(0, .int p1), (1, .int 0), (2, .int 0)]) d_Mod_bits_3 rfl rfl (by decide) [1, 2, 0] rfl ?_
  exact h_Mod_bits_4 hld  hQ  _ 0 0 h

def F_Mod_byteAt (p1 : Int32) (M : gM) : Option (Int32) :=
  (if (M 401 4) ≤ p1 then some 0 else (if (p1 : Int32) < 0 ∨ 2000 ≤ (p1 : Int32).toNatClampNeg then none else some ((M 403 (p1 : Int32).toNatClampNeg) &&& 255)))
set_option maxHeartbeats 4000000 in
set_option maxRecDepth 20000 in
theorem f_Mod_byteAt {l : Launch} {ld : Nat} {M : gM} {L : gL} {Q : Option Value → gM → gL → gR → Prop} (hld : isLa ld) {p1 : Int32}  {q : Int32} (h : F_Mod_byteAt p1 M = some q) (hQ : Q (some (.int q)) M L (rf ld)) : Tm l y_Mod_byteAt (0, 0, 447) 447 [.ref 401, .int p1] M L (rf ld) Q := by
  refine Tm.of (by decide) (Nat.le_of_ble_eq_true rfl) ?_
  show Wp l y_Mod_byteAt (0, 0, 447) 447 0 0 0 [(0, .ref 401), (1, .int p1)] [] M L (rf ld) Q
  unfold F_Mod_byteAt at h
  refine g_iload_n (pc1 := 1) d_Mod_byteAt_0 rfl 1 rfl ?_
  refine g_aload_n (pc1 := 2) d_Mod_byteAt_1 rfl 0 rfl ?_
  refine g_geti (pc1 := 5) d_Mod_byteAt_2 rfl ⟨_, fo_Mod_175⟩ sh_401 (by decide) ?_
  refine g_icmp_ge (pc1 := 8) (tgt := 21) d_Mod_byteAt_5 (by decide) rfl (fun c1 => ?_) (fun c1 => ?_)
  · replace h := itp h c1
    refine g_iconst (pc1 := 22) (v := 0) d_Mod_byteAt_21 rfl (by decide) ?_
    refine g_ireturn (Or.inl rfl) d_Mod_byteAt_22 rfl ?_
    cases h; exact hQ
  · replace h := itn h c1
    refine g_aload_n (pc1 := 9) d_Mod_byteAt_8 rfl 0 rfl ?_
    refine g_getr (pc1 := 12) d_Mod_byteAt_9 rfl ⟨_, fo_Mod_17⟩ sh_401 (by decide) (rf_401_3 ld) ?_
    refine g_iload_n (pc1 := 13) d_Mod_byteAt_12 rfl 1 rfl ?_
    obtain ⟨g2, h⟩ := gdn h
    refine g_bald (pc1 := 14) d_Mod_byteAt_13 rfl sh_403 (by decide) g2 ?_
    refine g_sipush (pc1 := 17) (v := 255) d_Mod_byteAt_14 rfl (by decide) ?_
    refine g_iand (pc1 := 18) d_Mod_byteAt_17 rfl ?_
    refine g_goto (tgt := 22) d_Mod_byteAt_18 (by decide) ?_
    refine g_ireturn (Or.inl rfl) d_Mod_byteAt_22 rfl ?_
    cases h; exact hQ

def J_Mod_copies_26 (M : gM) : Option (gM) :=
  (if ((M 401 18) : Int32) < 0 ∨ 2 ≤ ((M 401 18) : Int32).toNatClampNeg then none else nmM (uM M 401 54 (M 423 ((M 401 18) : Int32).toNatClampNeg)) (fun M3 => some M3))
set_option maxHeartbeats 4000000 in
set_option maxRecDepth 20000 in
theorem j_Mod_copies_26 {l : Launch} {ld : Nat} {Q : Option Value → gM → gL → gR → Prop} (hld : isLa ld)   {q : gM} {M : gM} {L : gL} (hQ : Q none q L (rf ld))    (h : J_Mod_copies_26 M = some q) : Wp l y_Mod_copies (0, 0, 447) 447 0 0 26 [(0, .ref 401)] [] M L (rf ld) Q := by
  unfold J_Mod_copies_26 at h
  refine g_aload_n (pc1 := 27) d_Mod_copies_26 rfl 0 rfl ?_
  refine g_aload_n (pc1 := 28) d_Mod_copies_27 rfl 0 rfl ?_
  refine g_getr (pc1 := 31) d_Mod_copies_28 rfl ⟨_, fo_Mod_82⟩ sh_401 (by decide) (rf_401_35 ld) ?_
  refine g_aload_n (pc1 := 32) d_Mod_copies_31 rfl 0 rfl ?_
  refine g_geti (pc1 := 35) d_Mod_copies_32 rfl ⟨_, fo_Mod_236⟩ sh_401 (by decide) ?_
  obtain ⟨g2, h⟩ := gdn h
  refine g_iald (pc1 := 36) d_Mod_copies_35 rfl sh_423 (by decide) g2 ?_
  refine g_puti (pc1 := 39) d_Mod_copies_36 rfl fo_Mod_320 (po_12_54 _) sh_401 (by decide) ?_
  refine Wp.lM h (fun M3 h => ?_)
  refine g_return rfl d_Mod_copies_39 rfl ?_
  cases h; exact hQ
def B_Mod_copies_2  (K2 : Int32 → gM → Option (gM)) : Int32 → gM → Option (gM) := fun v1 M =>
  (if 38 ≤ v1 then J_Mod_copies_26 M else (if (v1 : Int32) < 0 ∨ 38 ≤ (v1 : Int32).toNatClampNeg then none else (if (v1 : Int32) < 0 ∨ 38 ≤ (v1 : Int32).toNatClampNeg then none else nmM (uM M 437 (v1 : Int32).toNatClampNeg (M 436 (v1 : Int32).toNatClampNeg)) (fun M6 => nmI (v1 + 1) (fun x7 => K2 x7 M6)))))
def H_Mod_copies_2  : Nat → Int32 → gM → Option (gM) := lpK (B_Mod_copies_2 ) (fun _ _ => none)
set_option maxHeartbeats 4000000 in
set_option maxRecDepth 20000 in
theorem h_Mod_copies_2 {l : Launch} {ld : Nat} {Q : Option Value → gM → gL → gR → Prop} (hld : isLa ld)   {q : gM} {L : gL} (hQ : Q none q L (rf ld))    : ∀ (f : Nat) (v1 : Int32) (M : gM), H_Mod_copies_2  f v1 M = some q → Wp l y_Mod_copies (0, 0, 447) 447 0 0 2 [(0, .ref 401), (1, .int v1)] [] M L (rf ld) Q := by
  intro f
  induction f with
  | zero => intro v1 M h; cases h
  | succ f hK2 =>
    intro v1 M h
    replace h : B_Mod_copies_2  (H_Mod_copies_2  f) v1 M = some q := h
    unfold B_Mod_copies_2 at h
    refine g_iload_n (pc1 := 3) d_Mod_copies_2 rfl 1 rfl ?_
    refine g_bipush (pc1 := 5) (v := 38) d_Mod_copies_3 rfl (by decide) ?_
    refine g_icmp_ge (pc1 := 8) (tgt := 26) d_Mod_copies_5 (by decide) rfl (fun c1 => ?_) (fun c1 => ?_)
    · replace h := itp h c1
      refine Wp.loc (lv' := [(0, .ref 401)]) [0] rfl ?_
      exact j_Mod_copies_26 hld  hQ  h
    · replace h := itn h c1
      refine g_aload_n (pc1 := 9) d_Mod_copies_8 rfl 0 rfl ?_
      refine g_getr (pc1 := 12) d_Mod_copies_9 rfl ⟨_, fo_Mod_125⟩ sh_401 (by decide) (rf_401_53 ld) ?_
      refine g_iload_n (pc1 := 13) d_Mod_copies_12 rfl 1 rfl ?_
      refine g_aload_n (pc1 := 14) d_Mod_copies_13 rfl 0 rfl ?_
      refine g_getr (pc1 := 17) d_Mod_copies_14 rfl ⟨_, fo_Mod_122⟩ sh_401 (by decide) (rf_401_52 ld) ?_
      refine g_iload_n (pc1 := 18) d_Mod_copies_17 rfl 1 rfl ?_
      obtain ⟨g4, h⟩ := gdn h
      refine g_iald (pc1 := 19) d_Mod_copies_18 rfl sh_436 (by decide) g4 ?_
      obtain ⟨g5, h⟩ := gdn h
      refine g_iast (pc1 := 20) d_Mod_copies_19 rfl sh_437 (by decide) g5 ?_
      refine Wp.lM h (fun M6 h => ?_)
      obtain ⟨x7, ex7, h⟩ := ltI h
      refine g_iinc (pc1 := 23) (v := x7) (lv' := [(0, .ref 401), (1, .int x7)]) d_Mod_copies_20 rfl 1 rfl (by rw [ex7]; rfl) (by decide) [1, 0] rfl ?_
      refine g_goto (tgt := 2) d_Mod_copies_23 (by decide) ?_
      exact hK2 x7 M6 h
def F_Mod_copies (M : gM) : Option (gM) :=
  H_Mod_copies_2 FU 0 M
set_option maxHeartbeats 4000000 in
set_option maxRecDepth 20000 in
theorem f_Mod_copies {l : Launch} {ld : Nat} {M : gM} {L : gL} {Q : Option Value → gM → gL → gR → Prop} (hld : isLa ld)   {q : gM} (h : F_Mod_copies M = some q) (hQ : Q none q L (rf ld)) : Tm l y_Mod_copies (0, 0, 447) 447 [.ref 401] M L (rf ld) Q := by
  refine Tm.of (by decide) (Nat.le_of_ble_eq_true rfl) ?_
  show Wp l y_Mod_copies (0, 0, 447) 447 0 0 0 [(0, .ref 401)] [] M L (rf ld) Q
  unfold F_Mod_copies at h
  refine g_iconst (pc1 := 1) (v := 0) d_Mod_copies_0 rfl (by decide) ?_
  refine g_istore_n (pc1 := 2) (lv' := [(0, .ref 401), (1, .int 0)]) d_Mod_copies_1 rfl rfl (by decide) [1, 0] rfl ?_
  exact h_Mod_copies_2 hld  hQ  _ 0 M h

def J_Mod_count_190 (s0 : Int32) (s1 : Int32) (M : gM) : Option (Int32) :=
  (if (M 445 2) = 0 then some ((s0 + s1) + 0) else some ((s0 + s1) + 1))
set_option maxHeartbeats 4000000 in
set_option maxRecDepth 20000 in
theorem j_Mod_count_190 {l : Launch} {ld : Nat} {Q : Option Value → gM → gL → gR → Prop} (hld : isLa ld)   {q : Int32} {M : gM} {L : gL} (hQ : Q (some (.int q)) M L (rf ld))  {s0 : Int32} {s1 : Int32}  (h : J_Mod_count_190 s0 s1 M = some q) : Wp l y_Mod_count (0, 0, 447) 447 0 0 190 [(0, .ref 401)] [.int s1, .int s0] M L (rf ld) Q := by
  unfold J_Mod_count_190 at h
  refine g_iadd (pc1 := 191) d_Mod_count_190 rfl ?_
  refine g_aload_n (pc1 := 192) d_Mod_count_191 rfl 0 rfl ?_
  refine g_getr (pc1 := 195) d_Mod_count_192 rfl ⟨_, fo_Mod_149⟩ sh_401 (by decide) (rf_401_69 ld) ?_
  refine g_iconst (pc1 := 196) (v := 2) d_Mod_count_195 rfl (by decide) ?_
  refine g_zald (pc1 := 197) d_Mod_count_196 rfl sh_445 (by decide) (vin_lit (x := 2) (by decide)) ?_
  refine Wp.vali (y := (M 445 2)) (congrArg (M 445) (by decide)) ?_
  refine g_if_eq (pc1 := 200) (tgt := 204) d_Mod_count_197 (by decide) rfl (fun c26 => ?_) (fun c26 => ?_)
  · replace h := itp h c26
    refine g_iconst (pc1 := 205) (v := 0) d_Mod_count_204 rfl (by decide) ?_
    refine g_iadd (pc1 := 206) d_Mod_count_205 rfl ?_
    refine g_ireturn (Or.inl rfl) d_Mod_count_206 rfl ?_
    cases h; exact hQ
  · replace h := itn h c26
    refine g_iconst (pc1 := 201) (v := 1) d_Mod_count_200 rfl (by decide) ?_
    refine g_goto (tgt := 205) d_Mod_count_201 (by decide) ?_
    refine g_iadd (pc1 := 206) d_Mod_count_205 rfl ?_
    refine g_ireturn (Or.inl rfl) d_Mod_count_206 rfl ?_
    cases h; exact hQ
def J_Mod_count_176 (s0 : Int32) (M : gM) : Option (Int32) :=
  (if (M 445 1) = 0 then J_Mod_count_190 s0 0 M else J_Mod_count_190 s0 1 M)
set_option maxHeartbeats 4000000 in
set_option maxRecDepth 20000 in
theorem j_Mod_count_176 {l : Launch} {ld : Nat} {Q : Option Value → gM → gL → gR → Prop} (hld : isLa ld)   {q : Int32} {M : gM} {L : gL} (hQ : Q (some (.int q)) M L (rf ld))  {s0 : Int32}  (h : J_Mod_count_176 s0 M = some q) : Wp l y_Mod_count (0, 0, 447) 447 0 0 176 [(0, .ref 401)] [.int s0] M L (rf ld) Q := by
  unfold J_Mod_count_176 at h
  refine g_aload_n (pc1 := 177) d_Mod_count_176 rfl 0 rfl ?_
  refine g_getr (pc1 := 180) d_Mod_count_177 rfl ⟨_, fo_Mod_149⟩ sh_401 (by decide) (rf_401_69 ld) ?_
  refine g_iconst (pc1 := 181) (v := 1) d_Mod_count_180 rfl (by decide) ?_
  refine g_zald (pc1 := 182) d_Mod_count_181 rfl sh_445 (by decide) (vin_lit (x := 1) (by decide)) ?_
  refine Wp.vali (y := (M 445 1)) (congrArg (M 445) (by decide)) ?_
  refine g_if_eq (pc1 := 185) (tgt := 189) d_Mod_count_182 (by decide) rfl (fun c25 => ?_) (fun c25 => ?_)
  · replace h := itp h c25
    refine g_iconst (pc1 := 190) (v := 0) d_Mod_count_189 rfl (by decide) ?_
    exact j_Mod_count_190 hld  hQ  h
  · replace h := itn h c25
    refine g_iconst (pc1 := 186) (v := 1) d_Mod_count_185 rfl (by decide) ?_
    refine g_goto (tgt := 190) d_Mod_count_186 (by decide) ?_
    exact j_Mod_count_190 hld  hQ  h
def F_Mod_count (p1 : Int32) (M : gM) : Option (Int32) :=
  (if p1 = 0 then (if ((M 401 18) : Int32) < 0 ∨ 2 ≤ ((M 401 18) : Int32).toNatClampNeg then none else some (M 411 ((M 401 18) : Int32).toNatClampNeg)) else (if p1 = 1 then (if ((M 401 18) : Int32) < 0 ∨ 2 ≤ ((M 401 18) : Int32).toNatClampNeg then none else some (M 415 ((M 401 18) : Int32).toNatClampNeg)) else (if p1 = 2 then (if ((M 401 18) : Int32) < 0 ∨ 2 ≤ ((M 401 18) : Int32).toNatClampNeg then none else some (M 418 ((M 401 18) : Int32).toNatClampNeg)) else (if p1 = 3 then (if ((M 401 18) : Int32) < 0 ∨ 2 ≤ ((M 401 18) : Int32).toNatClampNeg then none else some (M 420 ((M 401 18) : Int32).toNatClampNeg)) else (if p1 = 4 then (if ((31 + p1) : Int32) < 0 ∨ 38 ≤ ((31 + p1) : Int32).toNatClampNeg then none else some (M 436 ((31 + p1) : Int32).toNatClampNeg)) else (if p1 = 5 then (if ((31 + p1) : Int32) < 0 ∨ 38 ≤ ((31 + p1) : Int32).toNatClampNeg then none else some (M 436 ((31 + p1) : Int32).toNatClampNeg)) else (if p1 = 6 then some (M 436 11) else (if p1 = 7 then (if ((5 + p1) : Int32) < 0 ∨ 38 ≤ ((5 + p1) : Int32).toNatClampNeg then none else some (M 436 ((5 + p1) : Int32).toNatClampNeg)) else (if p1 = 8 then (if ((5 + p1) : Int32) < 0 ∨ 38 ≤ ((5 + p1) : Int32).toNatClampNeg then none else some (M 436 ((5 + p1) : Int32).toNatClampNeg)) else (if p1 = 9 then (if ((5 + p1) : Int32) < 0 ∨ 38 ≤ ((5 + p1) : Int32).toNatClampNeg then none else some (M 436 ((5 + p1) : Int32).toNatClampNeg)) else (if p1 = 10 then some (M 401 2) else (if p1 = 11 then some (M 401 57) else (if p1 = 12 then some (M 401 64) else (if p1 = 13 then (if (M 445 0) = 0 then J_Mod_count_176 0 M else J_Mod_count_176 1 M) else (if p1 = 14 then some (M 436 37) else (if p1 = 15 then some ((((M 436 31) + (M 436 32)) + (M 436 33)) + (M 436 34)) else some (-1)))))))))))))))))
set_option maxHeartbeats 4000000 in
set_option maxRecDepth 20000 in
theorem f_Mod_count {l : Launch} {ld : Nat} {M : gM} {L : gL} {Q : Option Value → gM → gL → gR → Prop} (hld : isLa ld) {p1 : Int32}  {q : Int32} (h : F_Mod_count p1 M = some q) (hQ : Q (some (.int q)) M L (rf ld)) : Tm l y_Mod_count (0, 0, 447) 447 [.ref 401, .int p1] M L (rf ld) Q := by
  refine Tm.of (by decide) (Nat.le_of_ble_eq_true rfl) ?_
  show Wp l y_Mod_count (0, 0, 447) 447 0 0 0 [(0, .ref 401), (1, .int p1)] [] M L (rf ld) Q
  unfold F_Mod_count at h
  refine g_iload_n (pc1 := 1) d_Mod_count_0 rfl 1 rfl ?_
  by_cases c1 : p1 = 0
  · replace h := itp h c1
    refine g_tabK (tgt := 80) (off := 79) d_Mod_count_1 c1 (by decide) (by decide) (by decide) (by decide) ?_
    refine g_aload_n (pc1 := 81) d_Mod_count_80 rfl 0 rfl ?_
    refine g_getr (pc1 := 84) d_Mod_count_81 rfl ⟨_, fo_Mod_46⟩ sh_401 (by decide) (rf_401_23 ld) ?_
    refine g_aload_n (pc1 := 85) d_Mod_count_84 rfl 0 rfl ?_
    refine g_geti (pc1 := 88) d_Mod_count_85 rfl ⟨_, fo_Mod_236⟩ sh_401 (by decide) ?_
    obtain ⟨g2, h⟩ := gdn h
    refine g_iald (pc1 := 89) d_Mod_count_88 rfl sh_411 (by decide) g2 ?_
    refine g_ireturn (Or.inl rfl) d_Mod_count_89 rfl ?_
    cases h; exact hQ
  replace h := itn h c1
  by_cases c3 : p1 = 1
  · replace h := itp h c3
    refine g_tabK (tgt := 90) (off := 89) d_Mod_count_1 c3 (by decide) (by decide) (by decide) (by decide) ?_
    refine g_aload_n (pc1 := 91) d_Mod_count_90 rfl 0 rfl ?_
    refine g_getr (pc1 := 94) d_Mod_count_91 rfl ⟨_, fo_Mod_58⟩ sh_401 (by decide) (rf_401_27 ld) ?_
    refine g_aload_n (pc1 := 95) d_Mod_count_94 rfl 0 rfl ?_
    refine g_geti (pc1 := 98) d_Mod_count_95 rfl ⟨_, fo_Mod_236⟩ sh_401 (by decide) ?_
    obtain ⟨g4, h⟩ := gdn h
    refine g_iald (pc1 := 99) d_Mod_count_98 rfl sh_415 (by decide) g4 ?_
    refine g_ireturn (Or.inl rfl) d_Mod_count_99 rfl ?_
    cases h; exact hQ
  replace h := itn h c3
  by_cases c5 : p1 = 2
  · replace h := itp h c5
    refine g_tabK (tgt := 100) (off := 99) d_Mod_count_1 c5 (by decide) (by decide) (by decide) (by decide) ?_
    refine g_aload_n (pc1 := 101) d_Mod_count_100 rfl 0 rfl ?_
    refine g_getr (pc1 := 104) d_Mod_count_101 rfl ⟨_, fo_Mod_67⟩ sh_401 (by decide) (rf_401_30 ld) ?_
    refine g_aload_n (pc1 := 105) d_Mod_count_104 rfl 0 rfl ?_
    refine g_geti (pc1 := 108) d_Mod_count_105 rfl ⟨_, fo_Mod_236⟩ sh_401 (by decide) ?_
    obtain ⟨g6, h⟩ := gdn h
    refine g_iald (pc1 := 109) d_Mod_count_108 rfl sh_418 (by decide) g6 ?_
    refine g_ireturn (Or.inl rfl) d_Mod_count_109 rfl ?_
    cases h; exact hQ
  replace h := itn h c5
  by_cases c7 : p1 = 3
  · replace h := itp h c7
    refine g_tabK (tgt := 110) (off := 109) d_Mod_count_1 c7 (by decide) (by decide) (by decide) (by decide) ?_
    refine g_aload_n (pc1 := 111) d_Mod_count_110 rfl 0 rfl ?_
    refine g_getr (pc1 := 114) d_Mod_count_111 rfl ⟨_, fo_Mod_73⟩ sh_401 (by decide) (rf_401_32 ld) ?_
    refine g_aload_n (pc1 := 115) d_Mod_count_114 rfl 0 rfl ?_
    refine g_geti (pc1 := 118) d_Mod_count_115 rfl ⟨_, fo_Mod_236⟩ sh_401 (by decide) ?_
    obtain ⟨g8, h⟩ := gdn h
    refine g_iald (pc1 := 119) d_Mod_count_118 rfl sh_420 (by decide) g8 ?_
    refine g_ireturn (Or.inl rfl) d_Mod_count_119 rfl ?_
    cases h; exact hQ
  replace h := itn h c7
  by_cases c9 : p1 = 4
  · replace h := itp h c9
    refine g_tabK (tgt := 120) (off := 119) d_Mod_count_1 c9 (by decide) (by decide) (by decide) (by decide) ?_
    refine g_aload_n (pc1 := 121) d_Mod_count_120 rfl 0 rfl ?_
    refine g_getr (pc1 := 124) d_Mod_count_121 rfl ⟨_, fo_Mod_122⟩ sh_401 (by decide) (rf_401_52 ld) ?_
    refine g_bipush (pc1 := 126) (v := 31) d_Mod_count_124 rfl (by decide) ?_
    refine g_iload_n (pc1 := 127) d_Mod_count_126 rfl 1 rfl ?_
    refine g_iadd (pc1 := 128) d_Mod_count_127 rfl ?_
    obtain ⟨g10, h⟩ := gdn h
    refine g_iald (pc1 := 129) d_Mod_count_128 rfl sh_436 (by decide) g10 ?_
    refine g_ireturn (Or.inl rfl) d_Mod_count_129 rfl ?_
    cases h; exact hQ
  replace h := itn h c9
  by_cases c11 : p1 = 5
  · replace h := itp h c11
    refine g_tabK (tgt := 120) (off := 119) d_Mod_count_1 c11 (by decide) (by decide) (by decide) (by decide) ?_
    refine g_aload_n (pc1 := 121) d_Mod_count_120 rfl 0 rfl ?_
    refine g_getr (pc1 := 124) d_Mod_count_121 rfl ⟨_, fo_Mod_122⟩ sh_401 (by decide) (rf_401_52 ld) ?_
    refine g_bipush (pc1 := 126) (v := 31) d_Mod_count_124 rfl (by decide) ?_
    refine g_iload_n (pc1 := 127) d_Mod_count_126 rfl 1 rfl ?_
    refine g_iadd (pc1 := 128) d_Mod_count_127 rfl ?_
    obtain ⟨g12, h⟩ := gdn h
    refine g_iald (pc1 := 129) d_Mod_count_128 rfl sh_436 (by decide) g12 ?_
    refine g_ireturn (Or.inl rfl) d_Mod_count_129 rfl ?_
    cases h; exact hQ
  replace h := itn h c11
  by_cases c13 : p1 = 6
  · replace h := itp h c13
    refine g_tabK (tgt := 130) (off := 129) d_Mod_count_1 c13 (by decide) (by decide) (by decide) (by decide) ?_
    refine g_aload_n (pc1 := 131) d_Mod_count_130 rfl 0 rfl ?_
    refine g_getr (pc1 := 134) d_Mod_count_131 rfl ⟨_, fo_Mod_122⟩ sh_401 (by decide) (rf_401_52 ld) ?_
    refine g_bipush (pc1 := 136) (v := 11) d_Mod_count_134 rfl (by decide) ?_
    refine g_iald (pc1 := 137) d_Mod_count_136 rfl sh_436 (by decide) (vin_lit (x := 11) (by decide)) ?_
    refine Wp.vali (y := (M 436 11)) (congrArg (M 436) (by decide)) ?_
    refine g_ireturn (Or.inl rfl) d_Mod_count_137 rfl ?_
    cases h; exact hQ
  replace h := itn h c13
  by_cases c14 : p1 = 7
  · replace h := itp h c14
    refine g_tabK (tgt := 138) (off := 137) d_Mod_count_1 c14 (by decide) (by decide) (by decide) (by decide) ?_
    refine g_aload_n (pc1 := 139) d_Mod_count_138 rfl 0 rfl ?_
    refine g_getr (pc1 := 142) d_Mod_count_139 rfl ⟨_, fo_Mod_122⟩ sh_401 (by decide) (rf_401_52 ld) ?_
    refine g_iconst (pc1 := 143) (v := 5) d_Mod_count_142 rfl (by decide) ?_
    refine g_iload_n (pc1 := 144) d_Mod_count_143 rfl 1 rfl ?_
    refine g_iadd (pc1 := 145) d_Mod_count_144 rfl ?_
    obtain ⟨g15, h⟩ := gdn h
    refine g_iald (pc1 := 146) d_Mod_count_145 rfl sh_436 (by decide) g15 ?_
    refine g_ireturn (Or.inl rfl) d_Mod_count_146 rfl ?_
    cases h; exact hQ
  replace h := itn h c14
  by_cases c16 : p1 = 8
  · replace h := itp h c16
    refine g_tabK (tgt := 138) (off := 137) d_Mod_count_1 c16 (by decide) (by decide) (by decide) (by decide) ?_
    refine g_aload_n (pc1 := 139) d_Mod_count_138 rfl 0 rfl ?_
    refine g_getr (pc1 := 142) d_Mod_count_139 rfl ⟨_, fo_Mod_122⟩ sh_401 (by decide) (rf_401_52 ld) ?_
    refine g_iconst (pc1 := 143) (v := 5) d_Mod_count_142 rfl (by decide) ?_
    refine g_iload_n (pc1 := 144) d_Mod_count_143 rfl 1 rfl ?_
    refine g_iadd (pc1 := 145) d_Mod_count_144 rfl ?_
    obtain ⟨g17, h⟩ := gdn h
    refine g_iald (pc1 := 146) d_Mod_count_145 rfl sh_436 (by decide) g17 ?_
    refine g_ireturn (Or.inl rfl) d_Mod_count_146 rfl ?_
    cases h; exact hQ
  replace h := itn h c16
  by_cases c18 : p1 = 9
  · replace h := itp h c18
    refine g_tabK (tgt := 138) (off := 137) d_Mod_count_1 c18 (by decide) (by decide) (by decide) (by decide) ?_
    refine g_aload_n (pc1 := 139) d_Mod_count_138 rfl 0 rfl ?_
    refine g_getr (pc1 := 142) d_Mod_count_139 rfl ⟨_, fo_Mod_122⟩ sh_401 (by decide) (rf_401_52 ld) ?_
    refine g_iconst (pc1 := 143) (v := 5) d_Mod_count_142 rfl (by decide) ?_
    refine g_iload_n (pc1 := 144) d_Mod_count_143 rfl 1 rfl ?_
    refine g_iadd (pc1 := 145) d_Mod_count_144 rfl ?_
    obtain ⟨g19, h⟩ := gdn h
    refine g_iald (pc1 := 146) d_Mod_count_145 rfl sh_436 (by decide) g19 ?_
    refine g_ireturn (Or.inl rfl) d_Mod_count_146 rfl ?_
    cases h; exact hQ
  replace h := itn h c18
  by_cases c20 : p1 = 10
  · replace h := itp h c20
    refine g_tabK (tgt := 147) (off := 146) d_Mod_count_1 c20 (by decide) (by decide) (by decide) (by decide) ?_
    refine g_aload_n (pc1 := 148) d_Mod_count_147 rfl 0 rfl ?_
    refine g_geti (pc1 := 151) d_Mod_count_148 rfl ⟨_, fo_Mod_169⟩ sh_401 (by decide) ?_
    refine g_ireturn (Or.inl rfl) d_Mod_count_151 rfl ?_
    cases h; exact hQ
  replace h := itn h c20
  by_cases c21 : p1 = 11
  · replace h := itp h c21
    refine g_tabK (tgt := 152) (off := 151) d_Mod_count_1 c21 (by decide) (by decide) (by decide) (by decide) ?_
    refine g_aload_n (pc1 := 153) d_Mod_count_152 rfl 0 rfl ?_
    refine g_geti (pc1 := 156) d_Mod_count_153 rfl ⟨_, fo_Mod_254⟩ sh_401 (by decide) ?_
    refine g_ireturn (Or.inl rfl) d_Mod_count_156 rfl ?_
    cases h; exact hQ
  replace h := itn h c21
  by_cases c22 : p1 = 12
  · replace h := itp h c22
    refine g_tabK (tgt := 157) (off := 156) d_Mod_count_1 c22 (by decide) (by decide) (by decide) (by decide) ?_
    refine g_aload_n (pc1 := 158) d_Mod_count_157 rfl 0 rfl ?_
    refine g_geti (pc1 := 161) d_Mod_count_158 rfl ⟨_, fo_Mod_257⟩ sh_401 (by decide) ?_
    refine g_ireturn (Or.inl rfl) d_Mod_count_161 rfl ?_
    cases h; exact hQ
  replace h := itn h c22
  by_cases c23 : p1 = 13
  · replace h := itp h c23
    refine g_tabK (tgt := 162) (off := 161) d_Mod_count_1 c23 (by decide) (by decide) (by decide) (by decide) ?_
    refine g_aload_n (pc1 := 163) d_Mod_count_162 rfl 0 rfl ?_
    refine g_getr (pc1 := 166) d_Mod_count_163 rfl ⟨_, fo_Mod_149⟩ sh_401 (by decide) (rf_401_69 ld) ?_
    refine g_iconst (pc1 := 167) (v := 0) d_Mod_count_166 rfl (by decide) ?_
    refine g_zald (pc1 := 168) d_Mod_count_167 rfl sh_445 (by decide) (vin_lit (x := 0) (by decide)) ?_
    refine Wp.vali (y := (M 445 0)) (congrArg (M 445) (by decide)) ?_
    refine g_if_eq (pc1 := 171) (tgt := 175) d_Mod_count_168 (by decide) rfl (fun c24 => ?_) (fun c24 => ?_)
    · replace h := itp h c24
      refine g_iconst (pc1 := 176) (v := 0) d_Mod_count_175 rfl (by decide) ?_
      refine Wp.loc (lv' := [(0, .ref 401)]) [0] rfl ?_
      exact j_Mod_count_176 hld  hQ  h
    · replace h := itn h c24
      refine g_iconst (pc1 := 172) (v := 1) d_Mod_count_171 rfl (by decide) ?_
      refine g_goto (tgt := 176) d_Mod_count_172 (by decide) ?_
      refine Wp.loc (lv' := [(0, .ref 401)]) [0] rfl ?_
      exact j_Mod_count_176 hld  hQ  h
  replace h := itn h c23
  by_cases c27 : p1 = 14
  · replace h := itp h c27
    refine g_tabK (tgt := 207) (off := 206) d_Mod_count_1 c27 (by decide) (by decide) (by decide) (by decide) ?_
    refine g_aload_n (pc1 := 208) d_Mod_count_207 rfl 0 rfl ?_
    refine g_getr (pc1 := 211) d_Mod_count_208 rfl ⟨_, fo_Mod_122⟩ sh_401 (by decide) (rf_401_52 ld) ?_
    refine g_bipush (pc1 := 213) (v := 37) d_Mod_count_211 rfl (by decide) ?_
    refine g_iald (pc1 := 214) d_Mod_count_213 rfl sh_436 (by decide) (vin_lit (x := 37) (by decide)) ?_
    refine Wp.vali (y := (M 436 37)) (congrArg (M 436) (by decide)) ?_
    refine g_ireturn (Or.inl rfl) d_Mod_count_214 rfl ?_
    cases h; exact hQ
  replace h := itn h c27
  by_cases c28 : p1 = 15
  · replace h := itp h c28
    refine g_tabK (tgt := 215) (off := 214) d_Mod_count_1 c28 (by decide) (by decide) (by decide) (by decide) ?_
    refine g_aload_n (pc1 := 216) d_Mod_count_215 rfl 0 rfl ?_
    refine g_getr (pc1 := 219) d_Mod_count_216 rfl ⟨_, fo_Mod_122⟩ sh_401 (by decide) (rf_401_52 ld) ?_
    refine g_bipush (pc1 := 221) (v := 31) d_Mod_count_219 rfl (by decide) ?_
    refine g_iald (pc1 := 222) d_Mod_count_221 rfl sh_436 (by decide) (vin_lit (x := 31) (by decide)) ?_
    refine Wp.vali (y := (M 436 31)) (congrArg (M 436) (by decide)) ?_
    refine g_aload_n (pc1 := 223) d_Mod_count_222 rfl 0 rfl ?_
    refine g_getr (pc1 := 226) d_Mod_count_223 rfl ⟨_, fo_Mod_122⟩ sh_401 (by decide) (rf_401_52 ld) ?_
    refine g_bipush (pc1 := 228) (v := 32) d_Mod_count_226 rfl (by decide) ?_
    refine g_iald (pc1 := 229) d_Mod_count_228 rfl sh_436 (by decide) (vin_lit (x := 32) (by decide)) ?_
    refine Wp.vali (y := (M 436 32)) (congrArg (M 436) (by decide)) ?_
    refine g_iadd (pc1 := 230) d_Mod_count_229 rfl ?_
    refine g_aload_n (pc1 := 231) d_Mod_count_230 rfl 0 rfl ?_
    refine g_getr (pc1 := 234) d_Mod_count_231 rfl ⟨_, fo_Mod_122⟩ sh_401 (by decide) (rf_401_52 ld) ?_
    refine g_bipush (pc1 := 236) (v := 33) d_Mod_count_234 rfl (by decide) ?_
    refine g_iald (pc1 := 237) d_Mod_count_236 rfl sh_436 (by decide) (vin_lit (x := 33) (by decide)) ?_
    refine Wp.vali (y := (M 436 33)) (congrArg (M 436) (by decide)) ?_
    refine g_iadd (pc1 := 238) d_Mod_count_237 rfl ?_
    refine g_aload_n (pc1 := 239) d_Mod_count_238 rfl 0 rfl ?_
    refine g_getr (pc1 := 242) d_Mod_count_239 rfl ⟨_, fo_Mod_122⟩ sh_401 (by decide) (rf_401_52 ld) ?_
    refine g_bipush (pc1 := 244) (v := 34) d_Mod_count_242 rfl (by decide) ?_
    refine g_iald (pc1 := 245) d_Mod_count_244 rfl sh_436 (by decide) (vin_lit (x := 34) (by decide)) ?_
    refine Wp.vali (y := (M 436 34)) (congrArg (M 436) (by decide)) ?_
    refine g_iadd (pc1 := 246) d_Mod_count_245 rfl ?_
    refine g_ireturn (Or.inl rfl) d_Mod_count_246 rfl ?_
    cases h; exact hQ
  replace h := itn h c28
  refine g_tabOut (tgt := 247) d_Mod_count_1 (by
    have nc1 := neT (a := 0) c1 (by decide)
    have nc3 := neT (a := 1) c3 (by decide)
    have nc5 := neT (a := 2) c5 (by decide)
    have nc7 := neT (a := 3) c7 (by decide)
    have nc9 := neT (a := 4) c9 (by decide)
    have nc11 := neT (a := 5) c11 (by decide)
    have nc13 := neT (a := 6) c13 (by decide)
    have nc14 := neT (a := 7) c14 (by decide)
    have nc16 := neT (a := 8) c16 (by decide)
    have nc18 := neT (a := 9) c18 (by decide)
    have nc20 := neT (a := 10) c20 (by decide)
    have nc21 := neT (a := 11) c21 (by decide)
    have nc22 := neT (a := 12) c22 (by decide)
    have nc23 := neT (a := 13) c23 (by decide)
    have nc27 := neT (a := 14) c27 (by decide)
    have nc28 := neT (a := 15) c28 (by decide)
    omega) (by decide) ?_
  refine g_iconst (pc1 := 248) (v := (-1)) d_Mod_count_247 rfl (by decide) ?_
  refine g_ireturn (Or.inl rfl) d_Mod_count_248 rfl ?_
  cases h; exact hQ

def F_Mod_emit (p1 : Int32) (p2 : Int32) (M : gM) : Option (gM) :=
  (if ((M 401 44) : Int32) < 0 ∨ 840 ≤ ((M 401 44) : Int32).toNatClampNeg then none else nmM (uM M 431 ((M 401 44) : Int32).toNatClampNeg p1) (fun M2 => (if ((M2 401 44) : Int32) < 0 ∨ 840 ≤ ((M2 401 44) : Int32).toNatClampNeg then none else nmM (uM M2 432 ((M2 401 44) : Int32).toNatClampNeg p2) (fun M4 => nmM (uM M4 401 44 ((M4 401 44) + 1)) (fun M5 => some M5)))))
set_option maxHeartbeats 4000000 in
set_option maxRecDepth 20000 in
theorem f_Mod_emit {l : Launch} {ld : Nat} {M : gM} {L : gL} {Q : Option Value → gM → gL → gR → Prop} (hld : isLa ld) {p1 : Int32} {p2 : Int32}  {q : gM} (h : F_Mod_emit p1 p2 M = some q) (hQ : Q none q L (rf ld)) : Tm l y_Mod_emit (0, 0, 447) 447 [.ref 401, .int p1, .int p2] M L (rf ld) Q := by
  refine Tm.of (by decide) (Nat.le_of_ble_eq_true rfl) ?_
  show Wp l y_Mod_emit (0, 0, 447) 447 0 0 0 [(0, .ref 401), (1, .int p1), (2, .int p2)] [] M L (rf ld) Q
  unfold F_Mod_emit at h
  refine g_aload_n (pc1 := 1) d_Mod_emit_0 rfl 0 rfl ?_
  refine g_getr (pc1 := 4) d_Mod_emit_1 rfl ⟨_, fo_Mod_107⟩ sh_401 (by decide) (rf_401_45 ld) ?_
  refine g_aload_n (pc1 := 5) d_Mod_emit_4 rfl 0 rfl ?_
  refine g_geti (pc1 := 8) d_Mod_emit_5 rfl ⟨_, fo_Mod_248⟩ sh_401 (by decide) ?_
  refine g_iload_n (pc1 := 9) d_Mod_emit_8 rfl 1 rfl ?_
  obtain ⟨g1, h⟩ := gdn h
  refine g_iast (pc1 := 10) d_Mod_emit_9 rfl sh_431 (by decide) g1 ?_
  refine Wp.lM h (fun M2 h => ?_)
  refine g_aload_n (pc1 := 11) d_Mod_emit_10 rfl 0 rfl ?_
  refine g_getr (pc1 := 14) d_Mod_emit_11 rfl ⟨_, fo_Mod_110⟩ sh_401 (by decide) (rf_401_46 ld) ?_
  refine g_aload_n (pc1 := 15) d_Mod_emit_14 rfl 0 rfl ?_
  refine g_geti (pc1 := 18) d_Mod_emit_15 rfl ⟨_, fo_Mod_248⟩ sh_401 (by decide) ?_
  refine g_iload_n (pc1 := 19) d_Mod_emit_18 rfl 2 rfl ?_
  obtain ⟨g3, h⟩ := gdn h
  refine g_iast (pc1 := 20) d_Mod_emit_19 rfl sh_432 (by decide) g3 ?_
  refine Wp.lM h (fun M4 h => ?_)
  refine g_aload_n (pc1 := 21) d_Mod_emit_20 rfl 0 rfl ?_
  refine g_dup (pc1 := 22) d_Mod_emit_21 rfl rfl ?_
  refine g_geti (pc1 := 25) d_Mod_emit_22 rfl ⟨_, fo_Mod_248⟩ sh_401 (by decide) ?_
  refine g_iconst (pc1 := 26) (v := 1) d_Mod_emit_25 rfl (by decide) ?_
  refine g_iadd (pc1 := 27) d_Mod_emit_26 rfl ?_
  refine g_puti (pc1 := 30) d_Mod_emit_27 rfl fo_Mod_248 (po_12_44 _) sh_401 (by decide) ?_
  refine Wp.lM h (fun M5 h => ?_)
  refine g_return rfl d_Mod_emit_30 rfl ?_
  cases h; exact hQ

def F_Mod_fail (p1 : Int32) (M : gM) : Option (gM) :=
  (if (M 401 13) ≤ 0 then nmM (uM M 401 13 p1) (fun M2 => (if ((M2 401 11) : Int32) < 0 ∨ 403 ≤ ((M2 401 11) : Int32).toNatClampNeg then none else nmM (uM M2 401 14 (M2 405 ((M2 401 11) : Int32).toNatClampNeg)) (fun M4 => some M4))) else some M)
set_option maxHeartbeats 4000000 in
set_option maxRecDepth 20000 in
theorem f_Mod_fail {l : Launch} {ld : Nat} {M : gM} {L : gL} {Q : Option Value → gM → gL → gR → Prop} (hld : isLa ld) {p1 : Int32}  {q : gM} (h : F_Mod_fail p1 M = some q) (hQ : Q none q L (rf ld)) : Tm l y_Mod_fail (0, 0, 447) 447 [.ref 401, .int p1] M L (rf ld) Q := by
  refine Tm.of (by decide) (Nat.le_of_ble_eq_true rfl) ?_
  show Wp l y_Mod_fail (0, 0, 447) 447 0 0 0 [(0, .ref 401), (1, .int p1)] [] M L (rf ld) Q
  unfold F_Mod_fail at h
  refine g_aload_n (pc1 := 1) d_Mod_fail_0 rfl 0 rfl ?_
  refine g_geti (pc1 := 4) d_Mod_fail_1 rfl ⟨_, fo_Mod_206⟩ sh_401 (by decide) ?_
  refine g_if_le (pc1 := 7) (tgt := 8) d_Mod_fail_4 (by decide) rfl (fun c1 => ?_) (fun c1 => ?_)
  · replace h := itp h c1
    refine g_aload_n (pc1 := 9) d_Mod_fail_8 rfl 0 rfl ?_
    refine g_iload_n (pc1 := 10) d_Mod_fail_9 rfl 1 rfl ?_
    refine g_puti (pc1 := 13) d_Mod_fail_10 rfl fo_Mod_206 (po_12_13 _) sh_401 (by decide) ?_
    refine Wp.lM h (fun M2 h => ?_)
    refine g_aload_n (pc1 := 14) d_Mod_fail_13 rfl 0 rfl ?_
    refine g_aload_n (pc1 := 15) d_Mod_fail_14 rfl 0 rfl ?_
    refine g_getr (pc1 := 18) d_Mod_fail_15 rfl ⟨_, fo_Mod_24⟩ sh_401 (by decide) (rf_401_6 ld) ?_
    refine g_aload_n (pc1 := 19) d_Mod_fail_18 rfl 0 rfl ?_
    refine g_geti (pc1 := 22) d_Mod_fail_19 rfl ⟨_, fo_Mod_209⟩ sh_401 (by decide) ?_
    obtain ⟨g3, h⟩ := gdn h
    refine g_iald (pc1 := 23) d_Mod_fail_22 rfl sh_405 (by decide) g3 ?_
    refine g_puti (pc1 := 26) d_Mod_fail_23 rfl fo_Mod_212 (po_12_14 _) sh_401 (by decide) ?_
    refine Wp.lM h (fun M4 h => ?_)
    refine g_return rfl d_Mod_fail_26 rfl ?_
    cases h; exact hQ
  · replace h := itn h c1
    refine g_return rfl d_Mod_fail_7 rfl ?_
    cases h; exact hQ

def J_Mod_fillsPot_48 (K2 : Int32 → gM → Option (gM)) (v1 : Int32) (v2 : Int32) (s1 : Int32) (s2 : Int32) (M : gM) : Option (gM) :=
  (if (s1 : Int32) < 0 ∨ 6 ≤ (s1 : Int32).toNatClampNeg then none else nmM (uM M 438 (s1 : Int32).toNatClampNeg s2) (fun M5 => nmI (v2 + 1) (fun x6 => K2 x6 M5)))
set_option maxHeartbeats 4000000 in
set_option maxRecDepth 20000 in
theorem j_Mod_fillsPot_48 {l : Launch} {ld : Nat} {Q : Option Value → gM → gL → gR → Prop} (hld : isLa ld)   {q : gM} {M : gM} {L : gL} (hQ : Q none q L (rf ld)) {K2 : Int32 → gM → Option (gM)} {v1 : Int32} {v2 : Int32} {s1 : Int32} {s2 : Int32} (hK2 : ∀ (w2 : Int32) (M : gM), K2 w2 M = some q → Wp l y_Mod_fillsPot (0, 0, 447) 447 0 0 2 [(0, .ref 401), (1, .int v1), (2, .int w2)] [] M L (rf ld) Q) (h : J_Mod_fillsPot_48 K2 v1 v2 s1 s2 M = some q) : Wp l y_Mod_fillsPot (0, 0, 447) 447 0 0 48 [(0, .ref 401), (1, .int v1), (2, .int v2)] [.int s2, .int s1, .ref 438] M L (rf ld) Q := by
  unfold J_Mod_fillsPot_48 at h
  obtain ⟨g4, h⟩ := gdn h
  refine g_iast (pc1 := 49) d_Mod_fillsPot_48 rfl sh_438 (by decide) g4 ?_
  refine Wp.lM h (fun M5 h => ?_)
  obtain ⟨x6, ex6, h⟩ := ltI h
  refine g_iinc (pc1 := 52) (v := x6) (lv' := [(0, .ref 401), (1, .int v1), (2, .int x6)]) d_Mod_fillsPot_49 rfl 2 rfl (by rw [ex6]; rfl) (by decide) [1, 2, 0] rfl ?_
  refine g_goto (tgt := 2) d_Mod_fillsPot_52 (by decide) ?_
  exact hK2 x6 M5 h
def B_Mod_fillsPot_2 (v1 : Int32) (K2 : Int32 → gM → Option (gM)) : Int32 → gM → Option (gM) := fun v2 M =>
  (if 6 ≤ v2 then some M else (if ((M 401 18) : Int32) < 0 ∨ 2 ≤ ((M 401 18) : Int32).toNatClampNeg then none else (if (M 411 ((M 401 18) : Int32).toNatClampNeg) ≤ v2 then J_Mod_fillsPot_48 K2 v1 v2 v2 0 M else (if (((6 * ((5 * (M 401 18)) + v1)) + v2) : Int32) < 0 ∨ 60 ≤ (((6 * ((5 * (M 401 18)) + v1)) + v2) : Int32).toNatClampNeg then none else J_Mod_fillsPot_48 K2 v1 v2 v2 (M 417 (((6 * ((5 * (M 401 18)) + v1)) + v2) : Int32).toNatClampNeg) M))))
def H_Mod_fillsPot_2 (v1 : Int32) : Nat → Int32 → gM → Option (gM) := lpK (B_Mod_fillsPot_2 v1) (fun _ _ => none)
set_option maxHeartbeats 4000000 in
set_option maxRecDepth 20000 in
theorem h_Mod_fillsPot_2 {l : Launch} {ld : Nat} {Q : Option Value → gM → gL → gR → Prop} (hld : isLa ld)   {q : gM} {L : gL} (hQ : Q none q L (rf ld))  {v1 : Int32}  : ∀ (f : Nat) (v2 : Int32) (M : gM), H_Mod_fillsPot_2 v1 f v2 M = some q → Wp l y_Mod_fillsPot (0, 0, 447) 447 0 0 2 [(0, .ref 401), (1, .int v1), (2, .int v2)] [] M L (rf ld) Q := by
  intro f
  induction f with
  | zero => intro v2 M h; cases h
  | succ f hK2 =>
    intro v2 M h
    replace h : B_Mod_fillsPot_2 v1 (H_Mod_fillsPot_2 v1 f) v2 M = some q := h
    unfold B_Mod_fillsPot_2 at h
    refine g_iload_n (pc1 := 3) d_Mod_fillsPot_2 rfl 2 rfl ?_
    refine g_bipush (pc1 := 5) (v := 6) d_Mod_fillsPot_3 rfl (by decide) ?_
    refine g_icmp_ge (pc1 := 8) (tgt := 55) d_Mod_fillsPot_5 (by decide) rfl (fun c1 => ?_) (fun c1 => ?_)
    · replace h := itp h c1
      refine g_return rfl d_Mod_fillsPot_55 rfl ?_
      cases h; exact hQ
    · replace h := itn h c1
      refine g_aload_n (pc1 := 9) d_Mod_fillsPot_8 rfl 0 rfl ?_
      refine g_getr (pc1 := 12) d_Mod_fillsPot_9 rfl ⟨_, fo_Mod_128⟩ sh_401 (by decide) (rf_401_55 ld) ?_
      refine g_iload_n (pc1 := 13) d_Mod_fillsPot_12 rfl 2 rfl ?_
      refine g_iload_n (pc1 := 14) d_Mod_fillsPot_13 rfl 2 rfl ?_
      refine g_aload_n (pc1 := 15) d_Mod_fillsPot_14 rfl 0 rfl ?_
      refine g_getr (pc1 := 18) d_Mod_fillsPot_15 rfl ⟨_, fo_Mod_46⟩ sh_401 (by decide) (rf_401_23 ld) ?_
      refine g_aload_n (pc1 := 19) d_Mod_fillsPot_18 rfl 0 rfl ?_
      refine g_geti (pc1 := 22) d_Mod_fillsPot_19 rfl ⟨_, fo_Mod_236⟩ sh_401 (by decide) ?_
      obtain ⟨g2, h⟩ := gdn h
      refine g_iald (pc1 := 23) d_Mod_fillsPot_22 rfl sh_411 (by decide) g2 ?_
      refine g_icmp_ge (pc1 := 26) (tgt := 47) d_Mod_fillsPot_23 (by decide) rfl (fun c3 => ?_) (fun c3 => ?_)
      · replace h := itp h c3
        refine g_iconst (pc1 := 48) (v := 0) d_Mod_fillsPot_47 rfl (by decide) ?_
        exact j_Mod_fillsPot_48 hld  hQ hK2 h
      · replace h := itn h c3
        refine g_aload_n (pc1 := 27) d_Mod_fillsPot_26 rfl 0 rfl ?_
        refine g_getr (pc1 := 30) d_Mod_fillsPot_27 rfl ⟨_, fo_Mod_64⟩ sh_401 (by decide) (rf_401_29 ld) ?_
        refine g_bipush (pc1 := 32) (v := 6) d_Mod_fillsPot_30 rfl (by decide) ?_
        refine g_iconst (pc1 := 33) (v := 5) d_Mod_fillsPot_32 rfl (by decide) ?_
        refine g_aload_n (pc1 := 34) d_Mod_fillsPot_33 rfl 0 rfl ?_
        refine g_geti (pc1 := 37) d_Mod_fillsPot_34 rfl ⟨_, fo_Mod_236⟩ sh_401 (by decide) ?_
        refine g_imul (pc1 := 38) d_Mod_fillsPot_37 rfl ?_
        refine g_iload_n (pc1 := 39) d_Mod_fillsPot_38 rfl 1 rfl ?_
        refine g_iadd (pc1 := 40) d_Mod_fillsPot_39 rfl ?_
        refine g_imul (pc1 := 41) d_Mod_fillsPot_40 rfl ?_
        refine g_iload_n (pc1 := 42) d_Mod_fillsPot_41 rfl 2 rfl ?_
        refine g_iadd (pc1 := 43) d_Mod_fillsPot_42 rfl ?_
        obtain ⟨g7, h⟩ := gdn h
        refine g_iald (pc1 := 44) d_Mod_fillsPot_43 rfl sh_417 (by decide) g7 ?_
        refine g_goto (tgt := 48) d_Mod_fillsPot_44 (by decide) ?_
        exact j_Mod_fillsPot_48 hld  hQ hK2 h
def F_Mod_fillsPot (p1 : Int32) (M : gM) : Option (gM) :=
  H_Mod_fillsPot_2 p1 FU 0 M
set_option maxHeartbeats 4000000 in
set_option maxRecDepth 20000 in
theorem f_Mod_fillsPot {l : Launch} {ld : Nat} {M : gM} {L : gL} {Q : Option Value → gM → gL → gR → Prop} (hld : isLa ld) {p1 : Int32}  {q : gM} (h : F_Mod_fillsPot p1 M = some q) (hQ : Q none q L (rf ld)) : Tm l y_Mod_fillsPot (0, 0, 447) 447 [.ref 401, .int p1] M L (rf ld) Q := by
  refine Tm.of (by decide) (Nat.le_of_ble_eq_true rfl) ?_
  show Wp l y_Mod_fillsPot (0, 0, 447) 447 0 0 0 [(0, .ref 401), (1, .int p1)] [] M L (rf ld) Q
  unfold F_Mod_fillsPot at h
  refine g_iconst (pc1 := 1) (v := 0) d_Mod_fillsPot_0 rfl (by decide) ?_
  refine g_istore_n (pc1 := 2) (lv' := [(0, .ref 401), (1, .int p1), (2, .int 0)]) d_Mod_fillsPot_1 rfl rfl (by decide) [1, 2, 0] rfl ?_
  exact h_Mod_fillsPot_2 hld  hQ  _ 0 M h

def F_Mod_forget (M : gM) : Option (Int32 × gM) :=
  nmI (M 401 64) (fun x1 => nmM (uM M 401 64 0) (fun M2 => some (x1, M2)))
set_option maxHeartbeats 4000000 in
set_option maxRecDepth 20000 in
theorem f_Mod_forget {l : Launch} {ld : Nat} {M : gM} {L : gL} {Q : Option Value → gM → gL → gR → Prop} (hld : isLa ld)   {q : Int32 × gM} (h : F_Mod_forget M = some q) (hQ : Q (some (.int q.1)) q.2 L (rf ld)) : Tm l y_Mod_forget (0, 0, 447) 447 [.ref 401] M L (rf ld) Q := by
  refine Tm.of (by decide) (Nat.le_of_ble_eq_true rfl) ?_
  show Wp l y_Mod_forget (0, 0, 447) 447 0 0 0 [(0, .ref 401)] [] M L (rf ld) Q
  unfold F_Mod_forget at h
  refine g_aload_n (pc1 := 1) d_Mod_forget_0 rfl 0 rfl ?_
  refine g_geti (pc1 := 4) d_Mod_forget_1 rfl ⟨_, fo_Mod_257⟩ sh_401 (by decide) ?_
  refine Wp.lI h (fun x1 h => ?_)
  refine g_istore_n (pc1 := 5) (lv' := [(0, .ref 401), (1, .int x1)]) d_Mod_forget_4 rfl rfl (by decide) [1, 0] rfl ?_
  refine g_aload_n (pc1 := 6) d_Mod_forget_5 rfl 0 rfl ?_
  refine g_iconst (pc1 := 7) (v := 0) d_Mod_forget_6 rfl (by decide) ?_
  refine g_puti (pc1 := 10) d_Mod_forget_7 rfl fo_Mod_257 (po_12_64 _) sh_401 (by decide) ?_
  refine Wp.lM h (fun M2 h => ?_)
  refine g_iload_n (pc1 := 11) d_Mod_forget_10 rfl 1 rfl ?_
  refine g_ireturn (Or.inl rfl) d_Mod_forget_11 rfl ?_
  cases h; exact hQ

def F_Mod_held (p1 : Int32) (p2 : Int32) (p3 : Int32) : Option (Int32) :=
  (if p2 ≤ p1 then (if p1 ≤ p3 then some p1 else some p3) else some p2)
set_option maxHeartbeats 4000000 in
set_option maxRecDepth 20000 in
theorem f_Mod_held {l : Launch} {ld : Nat} {M : gM} {L : gL} {Q : Option Value → gM → gL → gR → Prop} (hld : isLa ld) {p1 : Int32} {p2 : Int32} {p3 : Int32}  {q : Int32} (h : F_Mod_held p1 p2 p3 = some q) (hQ : Q (some (.int q)) M L (rf ld)) : Tm l y_Mod_held (0, 0, 447) 447 [.int p1, .int p2, .int p3] M L (rf ld) Q := by
  refine Tm.of (by decide) (Nat.le_of_ble_eq_true rfl) ?_
  show Wp l y_Mod_held (0, 0, 447) 447 0 0 0 [(0, .int p1), (1, .int p2), (2, .int p3)] [] M L (rf ld) Q
  unfold F_Mod_held at h
  refine g_iload_n (pc1 := 1) d_Mod_held_0 rfl 0 rfl ?_
  refine g_iload_n (pc1 := 2) d_Mod_held_1 rfl 1 rfl ?_
  refine g_icmp_ge (pc1 := 5) (tgt := 9) d_Mod_held_2 (by decide) rfl (fun c1 => ?_) (fun c1 => ?_)
  · replace h := itp h c1
    refine g_iload_n (pc1 := 10) d_Mod_held_9 rfl 0 rfl ?_
    refine g_iload_n (pc1 := 11) d_Mod_held_10 rfl 2 rfl ?_
    refine g_icmp_le (pc1 := 14) (tgt := 18) d_Mod_held_11 (by decide) rfl (fun c2 => ?_) (fun c2 => ?_)
    · replace h := itp h c2
      refine g_iload_n (pc1 := 19) d_Mod_held_18 rfl 0 rfl ?_
      refine g_ireturn (Or.inl rfl) d_Mod_held_19 rfl ?_
      cases h; exact hQ
    · replace h := itn h c2
      refine g_iload_n (pc1 := 15) d_Mod_held_14 rfl 2 rfl ?_
      refine g_goto (tgt := 19) d_Mod_held_15 (by decide) ?_
      refine g_ireturn (Or.inl rfl) d_Mod_held_19 rfl ?_
      cases h; exact hQ
  · replace h := itn h c1
    refine g_iload_n (pc1 := 6) d_Mod_held_5 rfl 1 rfl ?_
    refine g_goto (tgt := 19) d_Mod_held_6 (by decide) ?_
    refine g_ireturn (Or.inl rfl) d_Mod_held_19 rfl ?_
    cases h; exact hQ

def F_Mod_in (p1 : Int32) (p2 : Int32) (p3 : Int32) : Option (Int32) :=
  (if p1 < p2 then some 0 else (if p3 < p1 then some 0 else some 1))
set_option maxHeartbeats 4000000 in
set_option maxRecDepth 20000 in
theorem f_Mod_in {l : Launch} {ld : Nat} {M : gM} {L : gL} {Q : Option Value → gM → gL → gR → Prop} (hld : isLa ld) {p1 : Int32} {p2 : Int32} {p3 : Int32}  {q : Int32} (h : F_Mod_in p1 p2 p3 = some q) (hQ : Q (some (.int q)) M L (rf ld)) : Tm l y_Mod_in (0, 0, 447) 447 [.int p1, .int p2, .int p3] M L (rf ld) Q := by
  refine Tm.of (by decide) (Nat.le_of_ble_eq_true rfl) ?_
  show Wp l y_Mod_in (0, 0, 447) 447 0 0 0 [(0, .int p1), (1, .int p2), (2, .int p3)] [] M L (rf ld) Q
  unfold F_Mod_in at h
  refine g_iload_n (pc1 := 1) d_Mod_in_0 rfl 0 rfl ?_
  refine g_iload_n (pc1 := 2) d_Mod_in_1 rfl 1 rfl ?_
  refine g_icmp_lt (pc1 := 5) (tgt := 14) d_Mod_in_2 (by decide) rfl (fun c1 => ?_) (fun c1 => ?_)
  · replace h := itp h c1
    refine g_iconst (pc1 := 15) (v := 0) d_Mod_in_14 rfl (by decide) ?_
    refine g_ireturn (Or.inr ⟨rfl, rfl⟩) d_Mod_in_15 rfl ?_
    cases h; exact hQ
  · replace h := itn h c1
    refine g_iload_n (pc1 := 6) d_Mod_in_5 rfl 0 rfl ?_
    refine g_iload_n (pc1 := 7) d_Mod_in_6 rfl 2 rfl ?_
    refine g_icmp_gt (pc1 := 10) (tgt := 14) d_Mod_in_7 (by decide) rfl (fun c2 => ?_) (fun c2 => ?_)
    · replace h := itp h c2
      refine g_iconst (pc1 := 15) (v := 0) d_Mod_in_14 rfl (by decide) ?_
      refine g_ireturn (Or.inr ⟨rfl, rfl⟩) d_Mod_in_15 rfl ?_
      cases h; exact hQ
    · replace h := itn h c2
      refine g_iconst (pc1 := 11) (v := 1) d_Mod_in_10 rfl (by decide) ?_
      refine g_goto (tgt := 15) d_Mod_in_11 (by decide) ?_
      refine g_ireturn (Or.inr ⟨rfl, rfl⟩) d_Mod_in_15 rfl ?_
      cases h; exact hQ

def F_Mod_is (p1 : Int32) (M : gM) : Option (Int32) :=
  (if (M 401 13) = 0 then (if ((M 401 11) : Int32) < 0 ∨ 403 ≤ ((M 401 11) : Int32).toNatClampNeg then none else (if (M 404 ((M 401 11) : Int32).toNatClampNeg) = p1 then some 1 else some 0)) else some 0)
set_option maxHeartbeats 4000000 in
set_option maxRecDepth 20000 in
theorem f_Mod_is {l : Launch} {ld : Nat} {M : gM} {L : gL} {Q : Option Value → gM → gL → gR → Prop} (hld : isLa ld) {p1 : Int32}  {q : Int32} (h : F_Mod_is p1 M = some q) (hQ : Q (some (.int q)) M L (rf ld)) : Tm l y_Mod_is (0, 0, 447) 447 [.ref 401, .int p1] M L (rf ld) Q := by
  refine Tm.of (by decide) (Nat.le_of_ble_eq_true rfl) ?_
  show Wp l y_Mod_is (0, 0, 447) 447 0 0 0 [(0, .ref 401), (1, .int p1)] [] M L (rf ld) Q
  unfold F_Mod_is at h
  refine g_aload_n (pc1 := 1) d_Mod_is_0 rfl 0 rfl ?_
  refine g_geti (pc1 := 4) d_Mod_is_1 rfl ⟨_, fo_Mod_206⟩ sh_401 (by decide) ?_
  refine g_if_ne (pc1 := 7) (tgt := 24) d_Mod_is_4 (by decide) rfl (fun c1 => ?_) (fun c1 => ?_)
  · replace h := itn h c1
    refine g_iconst (pc1 := 25) (v := 0) d_Mod_is_24 rfl (by decide) ?_
    refine g_ireturn (Or.inr ⟨rfl, rfl⟩) d_Mod_is_25 rfl ?_
    cases h; exact hQ
  · replace h := itp h c1
    refine g_aload_n (pc1 := 8) d_Mod_is_7 rfl 0 rfl ?_
    refine g_getr (pc1 := 11) d_Mod_is_8 rfl ⟨_, fo_Mod_20⟩ sh_401 (by decide) (rf_401_5 ld) ?_
    refine g_aload_n (pc1 := 12) d_Mod_is_11 rfl 0 rfl ?_
    refine g_geti (pc1 := 15) d_Mod_is_12 rfl ⟨_, fo_Mod_209⟩ sh_401 (by decide) ?_
    obtain ⟨g2, h⟩ := gdn h
    refine g_iald (pc1 := 16) d_Mod_is_15 rfl sh_404 (by decide) g2 ?_
    refine g_iload_n (pc1 := 17) d_Mod_is_16 rfl 1 rfl ?_
    refine g_icmp_ne (pc1 := 20) (tgt := 24) d_Mod_is_17 (by decide) rfl (fun c3 => ?_) (fun c3 => ?_)
    · replace h := itn h c3
      refine g_iconst (pc1 := 25) (v := 0) d_Mod_is_24 rfl (by decide) ?_
      refine g_ireturn (Or.inr ⟨rfl, rfl⟩) d_Mod_is_25 rfl ?_
      cases h; exact hQ
    · replace h := itp h c3
      refine g_iconst (pc1 := 21) (v := 1) d_Mod_is_20 rfl (by decide) ?_
      refine g_goto (tgt := 25) d_Mod_is_21 (by decide) ?_
      refine g_ireturn (Or.inr ⟨rfl, rfl⟩) d_Mod_is_25 rfl ?_
      cases h; exact hQ

def F_Mod_isDigit (p1 : Int32) : Option (Int32) :=
  (if p1 < 48 then some 0 else (if 57 < p1 then some 0 else some 1))
set_option maxHeartbeats 4000000 in
set_option maxRecDepth 20000 in
theorem f_Mod_isDigit {l : Launch} {ld : Nat} {M : gM} {L : gL} {Q : Option Value → gM → gL → gR → Prop} (hld : isLa ld) {p1 : Int32}  {q : Int32} (h : F_Mod_isDigit p1 = some q) (hQ : Q (some (.int q)) M L (rf ld)) : Tm l y_Mod_isDigit (0, 0, 447) 447 [.int p1] M L (rf ld) Q := by
  refine Tm.of (by decide) (Nat.le_of_ble_eq_true rfl) ?_
  show Wp l y_Mod_isDigit (0, 0, 447) 447 0 0 0 [(0, .int p1)] [] M L (rf ld) Q
  unfold F_Mod_isDigit at h
  refine g_iload_n (pc1 := 1) d_Mod_isDigit_0 rfl 0 rfl ?_
  refine g_bipush (pc1 := 3) (v := 48) d_Mod_isDigit_1 rfl (by decide) ?_
  refine g_icmp_lt (pc1 := 6) (tgt := 16) d_Mod_isDigit_3 (by decide) rfl (fun c1 => ?_) (fun c1 => ?_)
  · replace h := itp h c1
    refine g_iconst (pc1 := 17) (v := 0) d_Mod_isDigit_16 rfl (by decide) ?_
    refine g_ireturn (Or.inr ⟨rfl, rfl⟩) d_Mod_isDigit_17 rfl ?_
    cases h; exact hQ
  · replace h := itn h c1
    refine g_iload_n (pc1 := 7) d_Mod_isDigit_6 rfl 0 rfl ?_
    refine g_bipush (pc1 := 9) (v := 57) d_Mod_isDigit_7 rfl (by decide) ?_
    refine g_icmp_gt (pc1 := 12) (tgt := 16) d_Mod_isDigit_9 (by decide) rfl (fun c2 => ?_) (fun c2 => ?_)
    · replace h := itp h c2
      refine g_iconst (pc1 := 17) (v := 0) d_Mod_isDigit_16 rfl (by decide) ?_
      refine g_ireturn (Or.inr ⟨rfl, rfl⟩) d_Mod_isDigit_17 rfl ?_
      cases h; exact hQ
    · replace h := itn h c2
      refine g_iconst (pc1 := 13) (v := 1) d_Mod_isDigit_12 rfl (by decide) ?_
      refine g_goto (tgt := 17) d_Mod_isDigit_13 (by decide) ?_
      refine g_ireturn (Or.inr ⟨rfl, rfl⟩) d_Mod_isDigit_17 rfl ?_
      cases h; exact hQ

def F_Mod_isLetter (p1 : Int32) : Option (Int32) :=
  (if p1 < 97 then some 0 else (if 122 < p1 then some 0 else some 1))
set_option maxHeartbeats 4000000 in
set_option maxRecDepth 20000 in
theorem f_Mod_isLetter {l : Launch} {ld : Nat} {M : gM} {L : gL} {Q : Option Value → gM → gL → gR → Prop} (hld : isLa ld) {p1 : Int32}  {q : Int32} (h : F_Mod_isLetter p1 = some q) (hQ : Q (some (.int q)) M L (rf ld)) : Tm l y_Mod_isLetter (0, 0, 447) 447 [.int p1] M L (rf ld) Q := by
  refine Tm.of (by decide) (Nat.le_of_ble_eq_true rfl) ?_
  show Wp l y_Mod_isLetter (0, 0, 447) 447 0 0 0 [(0, .int p1)] [] M L (rf ld) Q
  unfold F_Mod_isLetter at h
  refine g_iload_n (pc1 := 1) d_Mod_isLetter_0 rfl 0 rfl ?_
  refine g_bipush (pc1 := 3) (v := 97) d_Mod_isLetter_1 rfl (by decide) ?_
  refine g_icmp_lt (pc1 := 6) (tgt := 16) d_Mod_isLetter_3 (by decide) rfl (fun c1 => ?_) (fun c1 => ?_)
  · replace h := itp h c1
    refine g_iconst (pc1 := 17) (v := 0) d_Mod_isLetter_16 rfl (by decide) ?_
    refine g_ireturn (Or.inr ⟨rfl, rfl⟩) d_Mod_isLetter_17 rfl ?_
    cases h; exact hQ
  · replace h := itn h c1
    refine g_iload_n (pc1 := 7) d_Mod_isLetter_6 rfl 0 rfl ?_
    refine g_bipush (pc1 := 9) (v := 122) d_Mod_isLetter_7 rfl (by decide) ?_
    refine g_icmp_gt (pc1 := 12) (tgt := 16) d_Mod_isLetter_9 (by decide) rfl (fun c2 => ?_) (fun c2 => ?_)
    · replace h := itp h c2
      refine g_iconst (pc1 := 17) (v := 0) d_Mod_isLetter_16 rfl (by decide) ?_
      refine g_ireturn (Or.inr ⟨rfl, rfl⟩) d_Mod_isLetter_17 rfl ?_
      cases h; exact hQ
    · replace h := itn h c2
      refine g_iconst (pc1 := 13) (v := 1) d_Mod_isLetter_12 rfl (by decide) ?_
      refine g_goto (tgt := 17) d_Mod_isLetter_13 (by decide) ?_
      refine g_ireturn (Or.inr ⟨rfl, rfl⟩) d_Mod_isLetter_17 rfl ?_
      cases h; exact hQ

def B_Mod_keepsRow_2  (K2 : Int32 → gM → Option (gM)) : Int32 → gM → Option (gM) := fun v1 M =>
  (if 38 ≤ v1 then some M else (if (v1 : Int32) < 0 ∨ 38 ≤ (v1 : Int32).toNatClampNeg then none else (if (v1 : Int32) < 0 ∨ 38 ≤ (v1 : Int32).toNatClampNeg then none else nmM (uM M 436 (v1 : Int32).toNatClampNeg (M 437 (v1 : Int32).toNatClampNeg)) (fun M4 => nmI (v1 + 1) (fun x5 => K2 x5 M4)))))
def H_Mod_keepsRow_2  : Nat → Int32 → gM → Option (gM) := lpK (B_Mod_keepsRow_2 ) (fun _ _ => none)
set_option maxHeartbeats 4000000 in
set_option maxRecDepth 20000 in
theorem h_Mod_keepsRow_2 {l : Launch} {ld : Nat} {Q : Option Value → gM → gL → gR → Prop} (hld : isLa ld)   {q : gM} {L : gL} (hQ : Q none q L (rf ld))    : ∀ (f : Nat) (v1 : Int32) (M : gM), H_Mod_keepsRow_2  f v1 M = some q → Wp l y_Mod_keepsRow (0, 0, 447) 447 0 0 2 [(0, .ref 401), (1, .int v1)] [] M L (rf ld) Q := by
  intro f
  induction f with
  | zero => intro v1 M h; cases h
  | succ f hK2 =>
    intro v1 M h
    replace h : B_Mod_keepsRow_2  (H_Mod_keepsRow_2  f) v1 M = some q := h
    unfold B_Mod_keepsRow_2 at h
    refine g_iload_n (pc1 := 3) d_Mod_keepsRow_2 rfl 1 rfl ?_
    refine g_bipush (pc1 := 5) (v := 38) d_Mod_keepsRow_3 rfl (by decide) ?_
    refine g_icmp_ge (pc1 := 8) (tgt := 26) d_Mod_keepsRow_5 (by decide) rfl (fun c1 => ?_) (fun c1 => ?_)
    · replace h := itp h c1
      refine g_return rfl d_Mod_keepsRow_26 rfl ?_
      cases h; exact hQ
    · replace h := itn h c1
      refine g_aload_n (pc1 := 9) d_Mod_keepsRow_8 rfl 0 rfl ?_
      refine g_getr (pc1 := 12) d_Mod_keepsRow_9 rfl ⟨_, fo_Mod_122⟩ sh_401 (by decide) (rf_401_52 ld) ?_
      refine g_iload_n (pc1 := 13) d_Mod_keepsRow_12 rfl 1 rfl ?_
      refine g_aload_n (pc1 := 14) d_Mod_keepsRow_13 rfl 0 rfl ?_
      refine g_getr (pc1 := 17) d_Mod_keepsRow_14 rfl ⟨_, fo_Mod_125⟩ sh_401 (by decide) (rf_401_53 ld) ?_
      refine g_iload_n (pc1 := 18) d_Mod_keepsRow_17 rfl 1 rfl ?_
      obtain ⟨g2, h⟩ := gdn h
      refine g_iald (pc1 := 19) d_Mod_keepsRow_18 rfl sh_437 (by decide) g2 ?_
      obtain ⟨g3, h⟩ := gdn h
      refine g_iast (pc1 := 20) d_Mod_keepsRow_19 rfl sh_436 (by decide) g3 ?_
      refine Wp.lM h (fun M4 h => ?_)
      obtain ⟨x5, ex5, h⟩ := ltI h
      refine g_iinc (pc1 := 23) (v := x5) (lv' := [(0, .ref 401), (1, .int x5)]) d_Mod_keepsRow_20 rfl 1 rfl (by rw [ex5]; rfl) (by decide) [1, 0] rfl ?_
      refine g_goto (tgt := 2) d_Mod_keepsRow_23 (by decide) ?_
      exact hK2 x5 M4 h
def F_Mod_keepsRow (M : gM) : Option (gM) :=
  H_Mod_keepsRow_2 FU 0 M
set_option maxHeartbeats 4000000 in
set_option maxRecDepth 20000 in
theorem f_Mod_keepsRow {l : Launch} {ld : Nat} {M : gM} {L : gL} {Q : Option Value → gM → gL → gR → Prop} (hld : isLa ld)   {q : gM} (h : F_Mod_keepsRow M = some q) (hQ : Q none q L (rf ld)) : Tm l y_Mod_keepsRow (0, 0, 447) 447 [.ref 401] M L (rf ld) Q := by
  refine Tm.of (by decide) (Nat.le_of_ble_eq_true rfl) ?_
  show Wp l y_Mod_keepsRow (0, 0, 447) 447 0 0 0 [(0, .ref 401)] [] M L (rf ld) Q
  unfold F_Mod_keepsRow at h
  refine g_iconst (pc1 := 1) (v := 0) d_Mod_keepsRow_0 rfl (by decide) ?_
  refine g_istore_n (pc1 := 2) (lv' := [(0, .ref 401), (1, .int 0)]) d_Mod_keepsRow_1 rfl rfl (by decide) [1, 0] rfl ?_
  exact h_Mod_keepsRow_2 hld  hQ  _ 0 M h

def J_Mod_looks_21 (M : gM) : Option (gM) :=
  nmM (uM M 434 4 (M 437 35)) (fun M2 => some M2)
set_option maxHeartbeats 4000000 in
set_option maxRecDepth 20000 in
theorem j_Mod_looks_21 {l : Launch} {ld : Nat} {Q : Option Value → gM → gL → gR → Prop} (hld : isLa ld)   {q : gM} {M : gM} {L : gL} (hQ : Q none q L (rf ld))    (h : J_Mod_looks_21 M = some q) : Wp l y_Mod_looks (0, 0, 447) 447 0 0 21 [(0, .ref 401)] [] M L (rf ld) Q := by
  unfold J_Mod_looks_21 at h
  refine g_aload_n (pc1 := 22) d_Mod_looks_21 rfl 0 rfl ?_
  refine g_getr (pc1 := 25) d_Mod_looks_22 rfl ⟨_, fo_Mod_116⟩ sh_401 (by decide) (rf_401_49 ld) ?_
  refine g_iconst (pc1 := 26) (v := 4) d_Mod_looks_25 rfl (by decide) ?_
  refine g_aload_n (pc1 := 27) d_Mod_looks_26 rfl 0 rfl ?_
  refine g_getr (pc1 := 30) d_Mod_looks_27 rfl ⟨_, fo_Mod_125⟩ sh_401 (by decide) (rf_401_53 ld) ?_
  refine g_bipush (pc1 := 32) (v := 35) d_Mod_looks_30 rfl (by decide) ?_
  refine g_iald (pc1 := 33) d_Mod_looks_32 rfl sh_437 (by decide) (vin_lit (x := 35) (by decide)) ?_
  refine Wp.vali (y := (M 437 35)) (congrArg (M 437) (by decide)) ?_
  refine g_iast (pc1 := 34) d_Mod_looks_33 rfl sh_434 (by decide) (vin_lit (x := 4) (by decide)) ?_
  refine Wp.eqM (M' := uM M 434 4 (M 437 35)) (congrArg (fun z => uM M 434 z (M 437 35)) (by decide)) ?_
  refine Wp.lM h (fun M2 h => ?_)
  refine g_return rfl d_Mod_looks_34 rfl ?_
  cases h; exact hQ
def B_Mod_looks_2  (K2 : Int32 → gM → Option (gM)) : Int32 → gM → Option (gM) := fun v1 M =>
  (if 9 ≤ v1 then J_Mod_looks_21 M else (if (v1 : Int32) < 0 ∨ 9 ≤ (v1 : Int32).toNatClampNeg then none else nmM (uM M 434 (v1 : Int32).toNatClampNeg 0) (fun M4 => nmI (v1 + 1) (fun x5 => K2 x5 M4))))
def H_Mod_looks_2  : Nat → Int32 → gM → Option (gM) := lpK (B_Mod_looks_2 ) (fun _ _ => none)
set_option maxHeartbeats 4000000 in
set_option maxRecDepth 20000 in
theorem h_Mod_looks_2 {l : Launch} {ld : Nat} {Q : Option Value → gM → gL → gR → Prop} (hld : isLa ld)   {q : gM} {L : gL} (hQ : Q none q L (rf ld))    : ∀ (f : Nat) (v1 : Int32) (M : gM), H_Mod_looks_2  f v1 M = some q → Wp l y_Mod_looks (0, 0, 447) 447 0 0 2 [(0, .ref 401), (1, .int v1)] [] M L (rf ld) Q := by
  intro f
  induction f with
  | zero => intro v1 M h; cases h
  | succ f hK2 =>
    intro v1 M h
    replace h : B_Mod_looks_2  (H_Mod_looks_2  f) v1 M = some q := h
    unfold B_Mod_looks_2 at h
    refine g_iload_n (pc1 := 3) d_Mod_looks_2 rfl 1 rfl ?_
    refine g_bipush (pc1 := 5) (v := 9) d_Mod_looks_3 rfl (by decide) ?_
    refine g_icmp_ge (pc1 := 8) (tgt := 21) d_Mod_looks_5 (by decide) rfl (fun c1 => ?_) (fun c1 => ?_)
    · replace h := itp h c1
      refine Wp.loc (lv' := [(0, .ref 401)]) [0] rfl ?_
      exact j_Mod_looks_21 hld  hQ  h
    · replace h := itn h c1
      refine g_aload_n (pc1 := 9) d_Mod_looks_8 rfl 0 rfl ?_
      refine g_getr (pc1 := 12) d_Mod_looks_9 rfl ⟨_, fo_Mod_116⟩ sh_401 (by decide) (rf_401_49 ld) ?_
      refine g_iload_n (pc1 := 13) d_Mod_looks_12 rfl 1 rfl ?_
      refine g_iconst (pc1 := 14) (v := 0) d_Mod_looks_13 rfl (by decide) ?_
      obtain ⟨g3, h⟩ := gdn h
      refine g_iast (pc1 := 15) d_Mod_looks_14 rfl sh_434 (by decide) g3 ?_
      refine Wp.lM h (fun M4 h => ?_)
      obtain ⟨x5, ex5, h⟩ := ltI h
      refine g_iinc (pc1 := 18) (v := x5) (lv' := [(0, .ref 401), (1, .int x5)]) d_Mod_looks_15 rfl 1 rfl (by rw [ex5]; rfl) (by decide) [1, 0] rfl ?_
      refine g_goto (tgt := 2) d_Mod_looks_18 (by decide) ?_
      exact hK2 x5 M4 h
def F_Mod_looks (M : gM) : Option (gM) :=
  H_Mod_looks_2 FU 0 M
set_option maxHeartbeats 4000000 in
set_option maxRecDepth 20000 in
theorem f_Mod_looks {l : Launch} {ld : Nat} {M : gM} {L : gL} {Q : Option Value → gM → gL → gR → Prop} (hld : isLa ld)   {q : gM} (h : F_Mod_looks M = some q) (hQ : Q none q L (rf ld)) : Tm l y_Mod_looks (0, 0, 447) 447 [.ref 401] M L (rf ld) Q := by
  refine Tm.of (by decide) (Nat.le_of_ble_eq_true rfl) ?_
  show Wp l y_Mod_looks (0, 0, 447) 447 0 0 0 [(0, .ref 401)] [] M L (rf ld) Q
  unfold F_Mod_looks at h
  refine g_iconst (pc1 := 1) (v := 0) d_Mod_looks_0 rfl (by decide) ?_
  refine g_istore_n (pc1 := 2) (lv' := [(0, .ref 401), (1, .int 0)]) d_Mod_looks_1 rfl rfl (by decide) [1, 0] rfl ?_
  exact h_Mod_looks_2 hld  hQ  _ 0 M h

def F_Mod_mixed (p1 : Int32) (p2 : Int32) : Option (Int32) :=
  nmI (((p1 ^^^ p2) * 1103515245) + 12345) (fun x1 => some (x1 ^^^ ((x1.toUInt32 >>> ((15 : Int32).toUInt32 &&& Int32.toUInt32 31)).toInt32)))
set_option maxHeartbeats 4000000 in
set_option maxRecDepth 20000 in
theorem f_Mod_mixed {l : Launch} {ld : Nat} {M : gM} {L : gL} {Q : Option Value → gM → gL → gR → Prop} (hld : isLa ld) {p1 : Int32} {p2 : Int32}  {q : Int32} (h : F_Mod_mixed p1 p2 = some q) (hQ : Q (some (.int q)) M L (rf ld)) : Tm l y_Mod_mixed (0, 0, 447) 447 [.int p1, .int p2] M L (rf ld) Q := by
  refine Tm.of (by decide) (Nat.le_of_ble_eq_true rfl) ?_
  show Wp l y_Mod_mixed (0, 0, 447) 447 0 0 0 [(0, .int p1), (1, .int p2)] [] M L (rf ld) Q
  unfold F_Mod_mixed at h
  refine g_iload_n (pc1 := 1) d_Mod_mixed_0 rfl 0 rfl ?_
  refine g_iload_n (pc1 := 2) d_Mod_mixed_1 rfl 1 rfl ?_
  refine g_ixor (pc1 := 3) d_Mod_mixed_2 rfl ?_
  refine g_ldcw (pc1 := 6) (v := 1103515245) d_Mod_mixed_3 rfl co_Mod_323 ?_
  refine g_imul (pc1 := 7) d_Mod_mixed_6 rfl ?_
  refine g_sipush (pc1 := 10) (v := 12345) d_Mod_mixed_7 rfl (by decide) ?_
  refine g_iadd (pc1 := 11) d_Mod_mixed_10 rfl ?_
  refine Wp.lI h (fun x1 h => ?_)
  refine g_istore_n (pc1 := 12) (lv' := [(0, .int p1), (1, .int p2), (2, .int x1)]) d_Mod_mixed_11 rfl rfl (by decide) [1, 2, 0] rfl ?_
  refine g_iload_n (pc1 := 13) d_Mod_mixed_12 rfl 2 rfl ?_
  refine g_iload_n (pc1 := 14) d_Mod_mixed_13 rfl 2 rfl ?_
  refine g_bipush (pc1 := 16) (v := 15) d_Mod_mixed_14 rfl (by decide) ?_
  refine g_iushr (pc1 := 17) d_Mod_mixed_16 rfl ?_
  refine g_ixor (pc1 := 18) d_Mod_mixed_17 rfl ?_
  refine g_ireturn (Or.inl rfl) d_Mod_mixed_18 rfl ?_
  cases h; exact hQ

def F_Mod_off (p1 : Int32) (p2 : Int32) : Option (Int32) :=
  (if p2 ≤ p1 then some (p1 - p2) else some (p2 - p1))
set_option maxHeartbeats 4000000 in
set_option maxRecDepth 20000 in
theorem f_Mod_off {l : Launch} {ld : Nat} {M : gM} {L : gL} {Q : Option Value → gM → gL → gR → Prop} (hld : isLa ld) {p1 : Int32} {p2 : Int32}  {q : Int32} (h : F_Mod_off p1 p2 = some q) (hQ : Q (some (.int q)) M L (rf ld)) : Tm l y_Mod_off (0, 0, 447) 447 [.int p1, .int p2] M L (rf ld) Q := by
  refine Tm.of (by decide) (Nat.le_of_ble_eq_true rfl) ?_
  show Wp l y_Mod_off (0, 0, 447) 447 0 0 0 [(0, .int p1), (1, .int p2)] [] M L (rf ld) Q
  unfold F_Mod_off at h
  refine g_iload_n (pc1 := 1) d_Mod_off_0 rfl 0 rfl ?_
  refine g_iload_n (pc1 := 2) d_Mod_off_1 rfl 1 rfl ?_
  refine g_icmp_ge (pc1 := 5) (tgt := 11) d_Mod_off_2 (by decide) rfl (fun c1 => ?_) (fun c1 => ?_)
  · replace h := itp h c1
    refine g_iload_n (pc1 := 12) d_Mod_off_11 rfl 0 rfl ?_
    refine g_iload_n (pc1 := 13) d_Mod_off_12 rfl 1 rfl ?_
    refine g_isub (pc1 := 14) d_Mod_off_13 rfl ?_
    refine g_ireturn (Or.inl rfl) d_Mod_off_14 rfl ?_
    cases h; exact hQ
  · replace h := itn h c1
    refine g_iload_n (pc1 := 6) d_Mod_off_5 rfl 1 rfl ?_
    refine g_iload_n (pc1 := 7) d_Mod_off_6 rfl 0 rfl ?_
    refine g_isub (pc1 := 8) d_Mod_off_7 rfl ?_
    refine g_goto (tgt := 14) d_Mod_off_8 (by decide) ?_
    refine g_ireturn (Or.inl rfl) d_Mod_off_14 rfl ?_
    cases h; exact hQ

def F_Mod_place (M : gM) : Option (Int32) :=
  some (M 401 17)
set_option maxHeartbeats 4000000 in
set_option maxRecDepth 20000 in
theorem f_Mod_place {l : Launch} {ld : Nat} {M : gM} {L : gL} {Q : Option Value → gM → gL → gR → Prop} (hld : isLa ld)   {q : Int32} (h : F_Mod_place M = some q) (hQ : Q (some (.int q)) M L (rf ld)) : Tm l y_Mod_place (0, 0, 447) 447 [.ref 401] M L (rf ld) Q := by
  refine Tm.of (by decide) (Nat.le_of_ble_eq_true rfl) ?_
  show Wp l y_Mod_place (0, 0, 447) 447 0 0 0 [(0, .ref 401)] [] M L (rf ld) Q
  unfold F_Mod_place at h
  refine g_aload_n (pc1 := 1) d_Mod_place_0 rfl 0 rfl ?_
  refine g_geti (pc1 := 4) d_Mod_place_1 rfl ⟨_, fo_Mod_37⟩ sh_401 (by decide) ?_
  refine g_ireturn (Or.inl rfl) d_Mod_place_4 rfl ?_
  cases h; exact hQ

def B_Mod_plain_37 (v1 : Int32) (K37 : Int32 → gM → Option (gM)) : Int32 → gM → Option (gM) := fun v2 M =>
  (if 4 ≤ v2 then some M else (if (((4 * v1) + v2) : Int32) < 0 ∨ 8 ≤ (((4 * v1) + v2) : Int32).toNatClampNeg then none else nmM (uM M 424 (((4 * v1) + v2) : Int32).toNatClampNeg 0) (fun M13 => (if (((4 * v1) + v2) : Int32) < 0 ∨ 8 ≤ (((4 * v1) + v2) : Int32).toNatClampNeg then none else nmM (uM M13 425 (((4 * v1) + v2) : Int32).toNatClampNeg 0) (fun M15 => nmI (v2 + 1) (fun x16 => K37 x16 M15))))))
def H_Mod_plain_37 (v1 : Int32) : Nat → Int32 → gM → Option (gM) := lpK (B_Mod_plain_37 v1) (fun _ _ => none)
set_option maxHeartbeats 4000000 in
set_option maxRecDepth 20000 in
theorem h_Mod_plain_37 {l : Launch} {ld : Nat} {Q : Option Value → gM → gL → gR → Prop} (hld : isLa ld)   {q : gM} {L : gL} (hQ : Q none q L (rf ld))  {v1 : Int32}  : ∀ (f : Nat) (v2 : Int32) (M : gM), H_Mod_plain_37 v1 f v2 M = some q → Wp l y_Mod_plain (0, 0, 447) 447 0 0 37 [(0, .ref 401), (1, .int v1), (2, .int v2)] [] M L (rf ld) Q := by
  intro f
  induction f with
  | zero => intro v2 M h; cases h
  | succ f hK37 =>
    intro v2 M h
    replace h : B_Mod_plain_37 v1 (H_Mod_plain_37 v1 f) v2 M = some q := h
    unfold B_Mod_plain_37 at h
    refine g_iload_n (pc1 := 38) d_Mod_plain_37 rfl 2 rfl ?_
    refine g_iconst (pc1 := 39) (v := 4) d_Mod_plain_38 rfl (by decide) ?_
    refine g_icmp_ge (pc1 := 42) (tgt := 70) d_Mod_plain_39 (by decide) rfl (fun c11 => ?_) (fun c11 => ?_)
    · replace h := itp h c11
      refine g_return rfl d_Mod_plain_70 rfl ?_
      cases h; exact hQ
    · replace h := itn h c11
      refine g_aload_n (pc1 := 43) d_Mod_plain_42 rfl 0 rfl ?_
      refine g_getr (pc1 := 46) d_Mod_plain_43 rfl ⟨_, fo_Mod_85⟩ sh_401 (by decide) (rf_401_36 ld) ?_
      refine g_iconst (pc1 := 47) (v := 4) d_Mod_plain_46 rfl (by decide) ?_
      refine g_iload_n (pc1 := 48) d_Mod_plain_47 rfl 1 rfl ?_
      refine g_imul (pc1 := 49) d_Mod_plain_48 rfl ?_
      refine g_iload_n (pc1 := 50) d_Mod_plain_49 rfl 2 rfl ?_
      refine g_iadd (pc1 := 51) d_Mod_plain_50 rfl ?_
      refine g_iconst (pc1 := 52) (v := 0) d_Mod_plain_51 rfl (by decide) ?_
      obtain ⟨g12, h⟩ := gdn h
      refine g_iast (pc1 := 53) d_Mod_plain_52 rfl sh_424 (by decide) g12 ?_
      refine Wp.lM h (fun M13 h => ?_)
      refine g_aload_n (pc1 := 54) d_Mod_plain_53 rfl 0 rfl ?_
      refine g_getr (pc1 := 57) d_Mod_plain_54 rfl ⟨_, fo_Mod_88⟩ sh_401 (by decide) (rf_401_37 ld) ?_
      refine g_iconst (pc1 := 58) (v := 4) d_Mod_plain_57 rfl (by decide) ?_
      refine g_iload_n (pc1 := 59) d_Mod_plain_58 rfl 1 rfl ?_
      refine g_imul (pc1 := 60) d_Mod_plain_59 rfl ?_
      refine g_iload_n (pc1 := 61) d_Mod_plain_60 rfl 2 rfl ?_
      refine g_iadd (pc1 := 62) d_Mod_plain_61 rfl ?_
      refine g_iconst (pc1 := 63) (v := 0) d_Mod_plain_62 rfl (by decide) ?_
      obtain ⟨g14, h⟩ := gdn h
      refine g_iast (pc1 := 64) d_Mod_plain_63 rfl sh_425 (by decide) g14 ?_
      refine Wp.lM h (fun M15 h => ?_)
      obtain ⟨x16, ex16, h⟩ := ltI h
      refine g_iinc (pc1 := 67) (v := x16) (lv' := [(0, .ref 401), (1, .int v1), (2, .int x16)]) d_Mod_plain_64 rfl 2 rfl (by rw [ex16]; rfl) (by decide) [1, 2, 0] rfl ?_
      refine g_goto (tgt := 37) d_Mod_plain_67 (by decide) ?_
      exact hK37 x16 M15 h
def F_Mod_plain (p1 : Int32) (M : gM) : Option (gM) :=
  (if (p1 : Int32) < 0 ∨ 2 ≤ (p1 : Int32).toNatClampNeg then none else nmM (uM M 411 (p1 : Int32).toNatClampNeg 0) (fun M2 => (if (p1 : Int32) < 0 ∨ 2 ≤ (p1 : Int32).toNatClampNeg then none else nmM (uM M2 415 (p1 : Int32).toNatClampNeg 0) (fun M4 => (if (p1 : Int32) < 0 ∨ 2 ≤ (p1 : Int32).toNatClampNeg then none else nmM (uM M4 418 (p1 : Int32).toNatClampNeg 0) (fun M6 => (if (p1 : Int32) < 0 ∨ 2 ≤ (p1 : Int32).toNatClampNeg then none else nmM (uM M6 420 (p1 : Int32).toNatClampNeg 0) (fun M8 => (if (p1 : Int32) < 0 ∨ 2 ≤ (p1 : Int32).toNatClampNeg then none else nmM (uM M8 423 (p1 : Int32).toNatClampNeg 0) (fun M10 => H_Mod_plain_37 p1 FU 0 M10))))))))))
set_option maxHeartbeats 4000000 in
set_option maxRecDepth 20000 in
theorem f_Mod_plain {l : Launch} {ld : Nat} {M : gM} {L : gL} {Q : Option Value → gM → gL → gR → Prop} (hld : isLa ld) {p1 : Int32}  {q : gM} (h : F_Mod_plain p1 M = some q) (hQ : Q none q L (rf ld)) : Tm l y_Mod_plain (0, 0, 447) 447 [.ref 401, .int p1] M L (rf ld) Q := by
  refine Tm.of (by decide) (Nat.le_of_ble_eq_true rfl) ?_
  show Wp l y_Mod_plain (0, 0, 447) 447 0 0 0 [(0, .ref 401), (1, .int p1)] [] M L (rf ld) Q
  unfold F_Mod_plain at h
  refine g_aload_n (pc1 := 1) d_Mod_plain_0 rfl 0 rfl ?_
  refine g_getr (pc1 := 4) d_Mod_plain_1 rfl ⟨_, fo_Mod_46⟩ sh_401 (by decide) (rf_401_23 ld) ?_
  refine g_iload_n (pc1 := 5) d_Mod_plain_4 rfl 1 rfl ?_
  refine g_iconst (pc1 := 6) (v := 0) d_Mod_plain_5 rfl (by decide) ?_
  obtain ⟨g1, h⟩ := gdn h
  refine g_iast (pc1 := 7) d_Mod_plain_6 rfl sh_411 (by decide) g1 ?_
  refine Wp.lM h (fun M2 h => ?_)
  refine g_aload_n (pc1 := 8) d_Mod_plain_7 rfl 0 rfl ?_
  refine g_getr (pc1 := 11) d_Mod_plain_8 rfl ⟨_, fo_Mod_58⟩ sh_401 (by decide) (rf_401_27 ld) ?_
  refine g_iload_n (pc1 := 12) d_Mod_plain_11 rfl 1 rfl ?_
  refine g_iconst (pc1 := 13) (v := 0) d_Mod_plain_12 rfl (by decide) ?_
  obtain ⟨g3, h⟩ := gdn h
  refine g_iast (pc1 := 14) d_Mod_plain_13 rfl sh_415 (by decide) g3 ?_
  refine Wp.lM h (fun M4 h => ?_)
  refine g_aload_n (pc1 := 15) d_Mod_plain_14 rfl 0 rfl ?_
  refine g_getr (pc1 := 18) d_Mod_plain_15 rfl ⟨_, fo_Mod_67⟩ sh_401 (by decide) (rf_401_30 ld) ?_
  refine g_iload_n (pc1 := 19) d_Mod_plain_18 rfl 1 rfl ?_
  refine g_iconst (pc1 := 20) (v := 0) d_Mod_plain_19 rfl (by decide) ?_
  obtain ⟨g5, h⟩ := gdn h
  refine g_iast (pc1 := 21) d_Mod_plain_20 rfl sh_418 (by decide) g5 ?_
  refine Wp.lM h (fun M6 h => ?_)
  refine g_aload_n (pc1 := 22) d_Mod_plain_21 rfl 0 rfl ?_
  refine g_getr (pc1 := 25) d_Mod_plain_22 rfl ⟨_, fo_Mod_73⟩ sh_401 (by decide) (rf_401_32 ld) ?_
  refine g_iload_n (pc1 := 26) d_Mod_plain_25 rfl 1 rfl ?_
  refine g_iconst (pc1 := 27) (v := 0) d_Mod_plain_26 rfl (by decide) ?_
  obtain ⟨g7, h⟩ := gdn h
  refine g_iast (pc1 := 28) d_Mod_plain_27 rfl sh_420 (by decide) g7 ?_
  refine Wp.lM h (fun M8 h => ?_)
  refine g_aload_n (pc1 := 29) d_Mod_plain_28 rfl 0 rfl ?_
  refine g_getr (pc1 := 32) d_Mod_plain_29 rfl ⟨_, fo_Mod_82⟩ sh_401 (by decide) (rf_401_35 ld) ?_
  refine g_iload_n (pc1 := 33) d_Mod_plain_32 rfl 1 rfl ?_
  refine g_iconst (pc1 := 34) (v := 0) d_Mod_plain_33 rfl (by decide) ?_
  obtain ⟨g9, h⟩ := gdn h
  refine g_iast (pc1 := 35) d_Mod_plain_34 rfl sh_423 (by decide) g9 ?_
  refine Wp.lM h (fun M10 h => ?_)
  refine g_iconst (pc1 := 36) (v := 0) d_Mod_plain_35 rfl (by decide) ?_
  refine g_istore_n (pc1 := 37) (lv' := [(0, .ref 401), (1, .int p1), (2, .int 0)]) d_Mod_plain_36 rfl rfl (by decide) [1, 2, 0] rfl ?_
  exact h_Mod_plain_37 hld  hQ  _ 0 M10 h

def B_Mod_potMany_4 (M : gM) (K4 : Int32 → Int32 → Option (Int32)) : Int32 → Int32 → Option (Int32) := fun v1 v2 =>
  (if 6 ≤ v2 then some v1 else (if (v2 : Int32) < 0 ∨ 6 ≤ (v2 : Int32).toNatClampNeg then none else nmI (v1 + (M 438 (v2 : Int32).toNatClampNeg)) (fun x3 => nmI (v2 + 1) (fun x4 => K4 x3 x4))))
def H_Mod_potMany_4 (M : gM) : Nat → Int32 → Int32 → Option (Int32) := lpK (B_Mod_potMany_4 M) (fun _ _ => none)
set_option maxHeartbeats 4000000 in
set_option maxRecDepth 20000 in
theorem h_Mod_potMany_4 {l : Launch} {ld : Nat} {Q : Option Value → gM → gL → gR → Prop} (hld : isLa ld)   {q : Int32} {M : gM} {L : gL} (hQ : Q (some (.int q)) M L (rf ld))    : ∀ (f : Nat) (v1 : Int32) (v2 : Int32), H_Mod_potMany_4 M f v1 v2 = some q → Wp l y_Mod_potMany (0, 0, 447) 447 0 0 4 [(0, .ref 401), (1, .int v1), (2, .int v2)] [] M L (rf ld) Q := by
  intro f
  induction f with
  | zero => intro v1 v2 h; cases h
  | succ f hK4 =>
    intro v1 v2 h
    replace h : B_Mod_potMany_4 M (H_Mod_potMany_4 M f) v1 v2 = some q := h
    unfold B_Mod_potMany_4 at h
    refine g_iload_n (pc1 := 5) d_Mod_potMany_4 rfl 2 rfl ?_
    refine g_bipush (pc1 := 7) (v := 6) d_Mod_potMany_5 rfl (by decide) ?_
    refine g_icmp_ge (pc1 := 10) (tgt := 25) d_Mod_potMany_7 (by decide) rfl (fun c1 => ?_) (fun c1 => ?_)
    · replace h := itp h c1
      refine g_iload_n (pc1 := 26) d_Mod_potMany_25 rfl 1 rfl ?_
      refine g_ireturn (Or.inl rfl) d_Mod_potMany_26 rfl ?_
      cases h; exact hQ
    · replace h := itn h c1
      refine g_iload_n (pc1 := 11) d_Mod_potMany_10 rfl 1 rfl ?_
      refine g_aload_n (pc1 := 12) d_Mod_potMany_11 rfl 0 rfl ?_
      refine g_getr (pc1 := 15) d_Mod_potMany_12 rfl ⟨_, fo_Mod_128⟩ sh_401 (by decide) (rf_401_55 ld) ?_
      refine g_iload_n (pc1 := 16) d_Mod_potMany_15 rfl 2 rfl ?_
      obtain ⟨g2, h⟩ := gdn h
      refine g_iald (pc1 := 17) d_Mod_potMany_16 rfl sh_438 (by decide) g2 ?_
      refine g_iadd (pc1 := 18) d_Mod_potMany_17 rfl ?_
      refine Wp.lI h (fun x3 h => ?_)
      refine g_istore_n (pc1 := 19) (lv' := [(0, .ref 401), (1, .int x3), (2, .int v2)]) d_Mod_potMany_18 rfl rfl (by decide) [1, 0, 2] rfl ?_
      obtain ⟨x4, ex4, h⟩ := ltI h
      refine g_iinc (pc1 := 22) (v := x4) (lv' := [(0, .ref 401), (1, .int x3), (2, .int x4)]) d_Mod_potMany_19 rfl 2 rfl (by rw [ex4]; rfl) (by decide) [1, 2, 0] rfl ?_
      refine g_goto (tgt := 4) d_Mod_potMany_22 (by decide) ?_
      exact hK4 x3 x4 h
def F_Mod_potMany (M : gM) : Option (Int32) :=
  H_Mod_potMany_4 M FU 0 0
set_option maxHeartbeats 4000000 in
set_option maxRecDepth 20000 in
theorem f_Mod_potMany {l : Launch} {ld : Nat} {M : gM} {L : gL} {Q : Option Value → gM → gL → gR → Prop} (hld : isLa ld)   {q : Int32} (h : F_Mod_potMany M = some q) (hQ : Q (some (.int q)) M L (rf ld)) : Tm l y_Mod_potMany (0, 0, 447) 447 [.ref 401] M L (rf ld) Q := by
  refine Tm.of (by decide) (Nat.le_of_ble_eq_true rfl) ?_
  show Wp l y_Mod_potMany (0, 0, 447) 447 0 0 0 [(0, .ref 401)] [] M L (rf ld) Q
  unfold F_Mod_potMany at h
  refine g_iconst (pc1 := 1) (v := 0) d_Mod_potMany_0 rfl (by decide) ?_
  refine g_istore_n (pc1 := 2) (lv' := [(0, .ref 401), (1, .int 0)]) d_Mod_potMany_1 rfl rfl (by decide) [1, 0] rfl ?_
  refine g_iconst (pc1 := 3) (v := 0) d_Mod_potMany_2 rfl (by decide) ?_
  refine g_istore_n (pc1 := 4) (lv' := [(0, .ref 401), (1, .int 0), (2, .int 0)]) d_Mod_potMany_3 rfl rfl (by decide) [1, 2, 0] rfl ?_
  exact h_Mod_potMany_4 hld  hQ  _ 0 0 h

def B_Mod_potPrice_4 (M : gM) (K4 : Int32 → Int32 → Option (Int32)) : Int32 → Int32 → Option (Int32) := fun v1 v2 =>
  (if ((M 401 18) : Int32) < 0 ∨ 2 ≤ ((M 401 18) : Int32).toNatClampNeg then none else (if (M 411 ((M 401 18) : Int32).toNatClampNeg) ≤ v2 then some v1 else (if (v2 : Int32) < 0 ∨ 6 ≤ (v2 : Int32).toNatClampNeg then none else (if (((6 * (M 401 18)) + v2) : Int32) < 0 ∨ 12 ≤ (((6 * (M 401 18)) + v2) : Int32).toNatClampNeg then none else nmI (v1 + ((M 438 (v2 : Int32).toNatClampNeg) * (M 413 (((6 * (M 401 18)) + v2) : Int32).toNatClampNeg))) (fun x5 => nmI (v2 + 1) (fun x6 => K4 x5 x6))))))
def H_Mod_potPrice_4 (M : gM) : Nat → Int32 → Int32 → Option (Int32) := lpK (B_Mod_potPrice_4 M) (fun _ _ => none)
set_option maxHeartbeats 4000000 in
set_option maxRecDepth 20000 in
theorem h_Mod_potPrice_4 {l : Launch} {ld : Nat} {Q : Option Value → gM → gL → gR → Prop} (hld : isLa ld)   {q : Int32} {M : gM} {L : gL} (hQ : Q (some (.int q)) M L (rf ld))    : ∀ (f : Nat) (v1 : Int32) (v2 : Int32), H_Mod_potPrice_4 M f v1 v2 = some q → Wp l y_Mod_potPrice (0, 0, 447) 447 0 0 4 [(0, .ref 401), (1, .int v1), (2, .int v2)] [] M L (rf ld) Q := by
  intro f
  induction f with
  | zero => intro v1 v2 h; cases h
  | succ f hK4 =>
    intro v1 v2 h
    replace h : B_Mod_potPrice_4 M (H_Mod_potPrice_4 M f) v1 v2 = some q := h
    unfold B_Mod_potPrice_4 at h
    refine g_iload_n (pc1 := 5) d_Mod_potPrice_4 rfl 2 rfl ?_
    refine g_aload_n (pc1 := 6) d_Mod_potPrice_5 rfl 0 rfl ?_
    refine g_getr (pc1 := 9) d_Mod_potPrice_6 rfl ⟨_, fo_Mod_46⟩ sh_401 (by decide) (rf_401_23 ld) ?_
    refine g_aload_n (pc1 := 10) d_Mod_potPrice_9 rfl 0 rfl ?_
    refine g_geti (pc1 := 13) d_Mod_potPrice_10 rfl ⟨_, fo_Mod_236⟩ sh_401 (by decide) ?_
    obtain ⟨g1, h⟩ := gdn h
    refine g_iald (pc1 := 14) d_Mod_potPrice_13 rfl sh_411 (by decide) g1 ?_
    refine g_icmp_ge (pc1 := 17) (tgt := 47) d_Mod_potPrice_14 (by decide) rfl (fun c2 => ?_) (fun c2 => ?_)
    · replace h := itp h c2
      refine g_iload_n (pc1 := 48) d_Mod_potPrice_47 rfl 1 rfl ?_
      refine g_ireturn (Or.inl rfl) d_Mod_potPrice_48 rfl ?_
      cases h; exact hQ
    · replace h := itn h c2
      refine g_iload_n (pc1 := 18) d_Mod_potPrice_17 rfl 1 rfl ?_
      refine g_aload_n (pc1 := 19) d_Mod_potPrice_18 rfl 0 rfl ?_
      refine g_getr (pc1 := 22) d_Mod_potPrice_19 rfl ⟨_, fo_Mod_128⟩ sh_401 (by decide) (rf_401_55 ld) ?_
      refine g_iload_n (pc1 := 23) d_Mod_potPrice_22 rfl 2 rfl ?_
      obtain ⟨g3, h⟩ := gdn h
      refine g_iald (pc1 := 24) d_Mod_potPrice_23 rfl sh_438 (by decide) g3 ?_
      refine g_aload_n (pc1 := 25) d_Mod_potPrice_24 rfl 0 rfl ?_
      refine g_getr (pc1 := 28) d_Mod_potPrice_25 rfl ⟨_, fo_Mod_52⟩ sh_401 (by decide) (rf_401_25 ld) ?_
      refine g_bipush (pc1 := 30) (v := 6) d_Mod_potPrice_28 rfl (by decide) ?_
      refine g_aload_n (pc1 := 31) d_Mod_potPrice_30 rfl 0 rfl ?_
      refine g_geti (pc1 := 34) d_Mod_potPrice_31 rfl ⟨_, fo_Mod_236⟩ sh_401 (by decide) ?_
      refine g_imul (pc1 := 35) d_Mod_potPrice_34 rfl ?_
      refine g_iload_n (pc1 := 36) d_Mod_potPrice_35 rfl 2 rfl ?_
      refine g_iadd (pc1 := 37) d_Mod_potPrice_36 rfl ?_
      obtain ⟨g4, h⟩ := gdn h
      refine g_iald (pc1 := 38) d_Mod_potPrice_37 rfl sh_413 (by decide) g4 ?_
      refine g_imul (pc1 := 39) d_Mod_potPrice_38 rfl ?_
      refine g_iadd (pc1 := 40) d_Mod_potPrice_39 rfl ?_
      refine Wp.lI h (fun x5 h => ?_)
      refine g_istore_n (pc1 := 41) (lv' := [(0, .ref 401), (1, .int x5), (2, .int v2)]) d_Mod_potPrice_40 rfl rfl (by decide) [1, 0, 2] rfl ?_
      obtain ⟨x6, ex6, h⟩ := ltI h
      refine g_iinc (pc1 := 44) (v := x6) (lv' := [(0, .ref 401), (1, .int x5), (2, .int x6)]) d_Mod_potPrice_41 rfl 2 rfl (by rw [ex6]; rfl) (by decide) [1, 2, 0] rfl ?_
      refine g_goto (tgt := 4) d_Mod_potPrice_44 (by decide) ?_
      exact hK4 x5 x6 h
def F_Mod_potPrice (M : gM) : Option (Int32) :=
  H_Mod_potPrice_4 M FU 0 0
set_option maxHeartbeats 4000000 in
set_option maxRecDepth 20000 in
theorem f_Mod_potPrice {l : Launch} {ld : Nat} {M : gM} {L : gL} {Q : Option Value → gM → gL → gR → Prop} (hld : isLa ld)   {q : Int32} (h : F_Mod_potPrice M = some q) (hQ : Q (some (.int q)) M L (rf ld)) : Tm l y_Mod_potPrice (0, 0, 447) 447 [.ref 401] M L (rf ld) Q := by
  refine Tm.of (by decide) (Nat.le_of_ble_eq_true rfl) ?_
  show Wp l y_Mod_potPrice (0, 0, 447) 447 0 0 0 [(0, .ref 401)] [] M L (rf ld) Q
  unfold F_Mod_potPrice at h
  refine g_iconst (pc1 := 1) (v := 0) d_Mod_potPrice_0 rfl (by decide) ?_
  refine g_istore_n (pc1 := 2) (lv' := [(0, .ref 401), (1, .int 0)]) d_Mod_potPrice_1 rfl rfl (by decide) [1, 0] rfl ?_
  refine g_iconst (pc1 := 3) (v := 0) d_Mod_potPrice_2 rfl (by decide) ?_
  refine g_istore_n (pc1 := 4) (lv' := [(0, .ref 401), (1, .int 0), (2, .int 0)]) d_Mod_potPrice_3 rfl rfl (by decide) [1, 2, 0] rfl ?_
  exact h_Mod_potPrice_4 hld  hQ  _ 0 0 h

def B_Mod_put_3 (v1 : Int32) (K3 : Int32 → gM → Option (gM)) : Int32 → gM → Option (gM) := fun v2 M =>
  (if v2 < 0 then some M else (if ((M 401 2) : Int32) < 0 ∨ 2000 ≤ ((M 401 2) : Int32).toNatClampNeg then none else nmM (uM M 402 ((M 401 2) : Int32).toNatClampNeg (vp_nar .byte (((v1 >>> (v2 &&& 31)) : Int32).toInt8.toInt32))) (fun M3 => nmM (uM M3 401 2 ((M3 401 2) + 1)) (fun M4 => nmI (v2 + (-8)) (fun x5 => K3 x5 M4)))))
def H_Mod_put_3 (v1 : Int32) : Nat → Int32 → gM → Option (gM) := lpK (B_Mod_put_3 v1) (fun _ _ => none)
set_option maxHeartbeats 4000000 in
set_option maxRecDepth 20000 in
theorem h_Mod_put_3 {l : Launch} {ld : Nat} {Q : Option Value → gM → gL → gR → Prop} (hld : isLa ld)   {q : gM} {L : gL} (hQ : Q none q L (rf ld))  {v1 : Int32}  : ∀ (f : Nat) (v2 : Int32) (M : gM), H_Mod_put_3 v1 f v2 M = some q → Wp l y_Mod_put (0, 0, 447) 447 0 0 3 [(0, .ref 401), (1, .int v1), (2, .int v2)] [] M L (rf ld) Q := by
  intro f
  induction f with
  | zero => intro v2 M h; cases h
  | succ f hK3 =>
    intro v2 M h
    replace h : B_Mod_put_3 v1 (H_Mod_put_3 v1 f) v2 M = some q := h
    unfold B_Mod_put_3 at h
    refine g_iload_n (pc1 := 4) d_Mod_put_3 rfl 2 rfl ?_
    refine g_if_lt (pc1 := 7) (tgt := 36) d_Mod_put_4 (by decide) rfl (fun c1 => ?_) (fun c1 => ?_)
    · replace h := itp h c1
      refine g_return rfl d_Mod_put_36 rfl ?_
      cases h; exact hQ
    · replace h := itn h c1
      refine g_aload_n (pc1 := 8) d_Mod_put_7 rfl 0 rfl ?_
      refine g_getr (pc1 := 11) d_Mod_put_8 rfl ⟨_, fo_Mod_13⟩ sh_401 (by decide) (rf_401_1 ld) ?_
      refine g_aload_n (pc1 := 12) d_Mod_put_11 rfl 0 rfl ?_
      refine g_geti (pc1 := 15) d_Mod_put_12 rfl ⟨_, fo_Mod_169⟩ sh_401 (by decide) ?_
      refine g_iload_n (pc1 := 16) d_Mod_put_15 rfl 1 rfl ?_
      refine g_iload_n (pc1 := 17) d_Mod_put_16 rfl 2 rfl ?_
      refine g_ishr (pc1 := 18) d_Mod_put_17 rfl ?_
      refine g_i2b (pc1 := 19) d_Mod_put_18 rfl ?_
      obtain ⟨g2, h⟩ := gdn h
      refine g_bast (pc1 := 20) d_Mod_put_19 rfl sh_402 (by decide) g2 ?_
      refine Wp.lM h (fun M3 h => ?_)
      refine g_aload_n (pc1 := 21) d_Mod_put_20 rfl 0 rfl ?_
      refine g_dup (pc1 := 22) d_Mod_put_21 rfl rfl ?_
      refine g_geti (pc1 := 25) d_Mod_put_22 rfl ⟨_, fo_Mod_169⟩ sh_401 (by decide) ?_
      refine g_iconst (pc1 := 26) (v := 1) d_Mod_put_25 rfl (by decide) ?_
      refine g_iadd (pc1 := 27) d_Mod_put_26 rfl ?_
      refine g_puti (pc1 := 30) d_Mod_put_27 rfl fo_Mod_169 (po_12_2 _) sh_401 (by decide) ?_
      refine Wp.lM h (fun M4 h => ?_)
      obtain ⟨x5, ex5, h⟩ := ltI h
      refine g_iinc (pc1 := 33) (v := x5) (lv' := [(0, .ref 401), (1, .int v1), (2, .int x5)]) d_Mod_put_30 rfl 2 rfl (by rw [ex5]; rfl) (by decide) [1, 2, 0] rfl ?_
      refine g_goto (tgt := 3) d_Mod_put_33 (by decide) ?_
      exact hK3 x5 M4 h
def F_Mod_put (p1 : Int32) (M : gM) : Option (gM) :=
  H_Mod_put_3 p1 FU 24 M
set_option maxHeartbeats 4000000 in
set_option maxRecDepth 20000 in
theorem f_Mod_put {l : Launch} {ld : Nat} {M : gM} {L : gL} {Q : Option Value → gM → gL → gR → Prop} (hld : isLa ld) {p1 : Int32}  {q : gM} (h : F_Mod_put p1 M = some q) (hQ : Q none q L (rf ld)) : Tm l y_Mod_put (0, 0, 447) 447 [.ref 401, .int p1] M L (rf ld) Q := by
  refine Tm.of (by decide) (Nat.le_of_ble_eq_true rfl) ?_
  show Wp l y_Mod_put (0, 0, 447) 447 0 0 0 [(0, .ref 401), (1, .int p1)] [] M L (rf ld) Q
  unfold F_Mod_put at h
  refine g_bipush (pc1 := 2) (v := 24) d_Mod_put_0 rfl (by decide) ?_
  refine g_istore_n (pc1 := 3) (lv' := [(0, .ref 401), (1, .int p1), (2, .int 24)]) d_Mod_put_2 rfl rfl (by decide) [1, 2, 0] rfl ?_
  exact h_Mod_put_3 hld  hQ  _ 24 M h

def B_Mod_sevens_4 (v0 : Int32) (K4 : Int32 → Int32 → Option (Int32)) : Int32 → Int32 → Option (Int32) := fun v1 v2 =>
  (if v0 ≤ v2 then some v1 else nmI (v1 * 7) (fun x2 => nmI (v2 + 1) (fun x3 => K4 x2 x3)))
def H_Mod_sevens_4 (v0 : Int32) : Nat → Int32 → Int32 → Option (Int32) := lpK (B_Mod_sevens_4 v0) (fun _ _ => none)
set_option maxHeartbeats 4000000 in
set_option maxRecDepth 20000 in
theorem h_Mod_sevens_4 {l : Launch} {ld : Nat} {Q : Option Value → gM → gL → gR → Prop} (hld : isLa ld)   {q : Int32} {M : gM} {L : gL} (hQ : Q (some (.int q)) M L (rf ld))  {v0 : Int32}  : ∀ (f : Nat) (v1 : Int32) (v2 : Int32), H_Mod_sevens_4 v0 f v1 v2 = some q → Wp l y_Mod_sevens (0, 0, 447) 447 0 0 4 [(0, .int v0), (1, .int v1), (2, .int v2)] [] M L (rf ld) Q := by
  intro f
  induction f with
  | zero => intro v1 v2 h; cases h
  | succ f hK4 =>
    intro v1 v2 h
    replace h : B_Mod_sevens_4 v0 (H_Mod_sevens_4 v0 f) v1 v2 = some q := h
    unfold B_Mod_sevens_4 at h
    refine g_iload_n (pc1 := 5) d_Mod_sevens_4 rfl 2 rfl ?_
    refine g_iload_n (pc1 := 6) d_Mod_sevens_5 rfl 0 rfl ?_
    refine g_icmp_ge (pc1 := 9) (tgt := 20) d_Mod_sevens_6 (by decide) rfl (fun c1 => ?_) (fun c1 => ?_)
    · replace h := itp h c1
      refine g_iload_n (pc1 := 21) d_Mod_sevens_20 rfl 1 rfl ?_
      refine g_ireturn (Or.inl rfl) d_Mod_sevens_21 rfl ?_
      cases h; exact hQ
    · replace h := itn h c1
      refine g_iload_n (pc1 := 10) d_Mod_sevens_9 rfl 1 rfl ?_
      refine g_bipush (pc1 := 12) (v := 7) d_Mod_sevens_10 rfl (by decide) ?_
      refine g_imul (pc1 := 13) d_Mod_sevens_12 rfl ?_
      refine Wp.lI h (fun x2 h => ?_)
      refine g_istore_n (pc1 := 14) (lv' := [(0, .int v0), (1, .int x2), (2, .int v2)]) d_Mod_sevens_13 rfl rfl (by decide) [1, 0, 2] rfl ?_
      obtain ⟨x3, ex3, h⟩ := ltI h
      refine g_iinc (pc1 := 17) (v := x3) (lv' := [(0, .int v0), (1, .int x2), (2, .int x3)]) d_Mod_sevens_14 rfl 2 rfl (by rw [ex3]; rfl) (by decide) [1, 2, 0] rfl ?_
      refine g_goto (tgt := 4) d_Mod_sevens_17 (by decide) ?_
      exact hK4 x2 x3 h
def F_Mod_sevens (p1 : Int32) : Option (Int32) :=
  H_Mod_sevens_4 p1 FU 1 0
set_option maxHeartbeats 4000000 in
set_option maxRecDepth 20000 in
theorem f_Mod_sevens {l : Launch} {ld : Nat} {M : gM} {L : gL} {Q : Option Value → gM → gL → gR → Prop} (hld : isLa ld) {p1 : Int32}  {q : Int32} (h : F_Mod_sevens p1 = some q) (hQ : Q (some (.int q)) M L (rf ld)) : Tm l y_Mod_sevens (0, 0, 447) 447 [.int p1] M L (rf ld) Q := by
  refine Tm.of (by decide) (Nat.le_of_ble_eq_true rfl) ?_
  show Wp l y_Mod_sevens (0, 0, 447) 447 0 0 0 [(0, .int p1)] [] M L (rf ld) Q
  unfold F_Mod_sevens at h
  refine g_iconst (pc1 := 1) (v := 1) d_Mod_sevens_0 rfl (by decide) ?_
  refine g_istore_n (pc1 := 2) (lv' := [(0, .int p1), (1, .int 1)]) d_Mod_sevens_1 rfl rfl (by decide) [1, 0] rfl ?_
  refine g_iconst (pc1 := 3) (v := 0) d_Mod_sevens_2 rfl (by decide) ?_
  refine g_istore_n (pc1 := 4) (lv' := [(0, .int p1), (1, .int 1), (2, .int 0)]) d_Mod_sevens_3 rfl rfl (by decide) [1, 2, 0] rfl ?_
  exact h_Mod_sevens_4 hld  hQ  _ 1 0 h

def B_Mod_sixes_4 (v0 : Int32) (K4 : Int32 → Int32 → Option (Int32)) : Int32 → Int32 → Option (Int32) := fun v1 v2 =>
  (if v0 ≤ v2 then some v1 else nmI (v1 * 6) (fun x2 => nmI (v2 + 1) (fun x3 => K4 x2 x3)))
def H_Mod_sixes_4 (v0 : Int32) : Nat → Int32 → Int32 → Option (Int32) := lpK (B_Mod_sixes_4 v0) (fun _ _ => none)
set_option maxHeartbeats 4000000 in
set_option maxRecDepth 20000 in
theorem h_Mod_sixes_4 {l : Launch} {ld : Nat} {Q : Option Value → gM → gL → gR → Prop} (hld : isLa ld)   {q : Int32} {M : gM} {L : gL} (hQ : Q (some (.int q)) M L (rf ld))  {v0 : Int32}  : ∀ (f : Nat) (v1 : Int32) (v2 : Int32), H_Mod_sixes_4 v0 f v1 v2 = some q → Wp l y_Mod_sixes (0, 0, 447) 447 0 0 4 [(0, .int v0), (1, .int v1), (2, .int v2)] [] M L (rf ld) Q := by
  intro f
  induction f with
  | zero => intro v1 v2 h; cases h
  | succ f hK4 =>
    intro v1 v2 h
    replace h : B_Mod_sixes_4 v0 (H_Mod_sixes_4 v0 f) v1 v2 = some q := h
    unfold B_Mod_sixes_4 at h
    refine g_iload_n (pc1 := 5) d_Mod_sixes_4 rfl 2 rfl ?_
    refine g_iload_n (pc1 := 6) d_Mod_sixes_5 rfl 0 rfl ?_
    refine g_icmp_ge (pc1 := 9) (tgt := 20) d_Mod_sixes_6 (by decide) rfl (fun c1 => ?_) (fun c1 => ?_)
    · replace h := itp h c1
      refine g_iload_n (pc1 := 21) d_Mod_sixes_20 rfl 1 rfl ?_
      refine g_ireturn (Or.inl rfl) d_Mod_sixes_21 rfl ?_
      cases h; exact hQ
    · replace h := itn h c1
      refine g_iload_n (pc1 := 10) d_Mod_sixes_9 rfl 1 rfl ?_
      refine g_bipush (pc1 := 12) (v := 6) d_Mod_sixes_10 rfl (by decide) ?_
      refine g_imul (pc1 := 13) d_Mod_sixes_12 rfl ?_
      refine Wp.lI h (fun x2 h => ?_)
      refine g_istore_n (pc1 := 14) (lv' := [(0, .int v0), (1, .int x2), (2, .int v2)]) d_Mod_sixes_13 rfl rfl (by decide) [1, 0, 2] rfl ?_
      obtain ⟨x3, ex3, h⟩ := ltI h
      refine g_iinc (pc1 := 17) (v := x3) (lv' := [(0, .int v0), (1, .int x2), (2, .int x3)]) d_Mod_sixes_14 rfl 2 rfl (by rw [ex3]; rfl) (by decide) [1, 2, 0] rfl ?_
      refine g_goto (tgt := 4) d_Mod_sixes_17 (by decide) ?_
      exact hK4 x2 x3 h
def F_Mod_sixes (p1 : Int32) : Option (Int32) :=
  H_Mod_sixes_4 p1 FU 1 0
set_option maxHeartbeats 4000000 in
set_option maxRecDepth 20000 in
theorem f_Mod_sixes {l : Launch} {ld : Nat} {M : gM} {L : gL} {Q : Option Value → gM → gL → gR → Prop} (hld : isLa ld) {p1 : Int32}  {q : Int32} (h : F_Mod_sixes p1 = some q) (hQ : Q (some (.int q)) M L (rf ld)) : Tm l y_Mod_sixes (0, 0, 447) 447 [.int p1] M L (rf ld) Q := by
  refine Tm.of (by decide) (Nat.le_of_ble_eq_true rfl) ?_
  show Wp l y_Mod_sixes (0, 0, 447) 447 0 0 0 [(0, .int p1)] [] M L (rf ld) Q
  unfold F_Mod_sixes at h
  refine g_iconst (pc1 := 1) (v := 1) d_Mod_sixes_0 rfl (by decide) ?_
  refine g_istore_n (pc1 := 2) (lv' := [(0, .int p1), (1, .int 1)]) d_Mod_sixes_1 rfl rfl (by decide) [1, 0] rfl ?_
  refine g_iconst (pc1 := 3) (v := 0) d_Mod_sixes_2 rfl (by decide) ?_
  refine g_istore_n (pc1 := 4) (lv' := [(0, .int p1), (1, .int 1), (2, .int 0)]) d_Mod_sixes_3 rfl rfl (by decide) [1, 2, 0] rfl ?_
  exact h_Mod_sixes_4 hld  hQ  _ 1 0 h

def J_Mod_termOf_165 (M : gM) : Option (Int32 × gM) :=
  some ((M 435 0), M)
set_option maxHeartbeats 4000000 in
set_option maxRecDepth 20000 in
theorem j_Mod_termOf_165 {l : Launch} {ld : Nat} {Q : Option Value → gM → gL → gR → Prop} (hld : isLa ld)   {q : Int32 × gM} {M : gM} {L : gL} (hQ : Q (some (.int q.1)) q.2 L (rf ld))    (h : J_Mod_termOf_165 M = some q) : Wp l y_Mod_termOf (0, 0, 447) 447 0 0 165 [(0, .ref 401)] [] M L (rf ld) Q := by
  unfold J_Mod_termOf_165 at h
  refine g_aload_n (pc1 := 166) d_Mod_termOf_165 rfl 0 rfl ?_
  refine g_getr (pc1 := 169) d_Mod_termOf_166 rfl ⟨_, fo_Mod_119⟩ sh_401 (by decide) (rf_401_50 ld) ?_
  refine g_iconst (pc1 := 170) (v := 0) d_Mod_termOf_169 rfl (by decide) ?_
  refine g_iald (pc1 := 171) d_Mod_termOf_170 rfl sh_435 (by decide) (vin_lit (x := 0) (by decide)) ?_
  refine Wp.vali (y := (M 435 0)) (congrArg (M 435) (by decide)) ?_
  refine g_ireturn (Or.inl rfl) d_Mod_termOf_171 rfl ?_
  cases h; exact hQ
def J_Mod_termOf_159 (K5 : Int32 → Int32 → gM → Option (Int32 × gM)) (v2 : Int32) (v3 : Int32) (v4 : Int32) (M : gM) : Option (Int32 × gM) :=
  nmI (v4 + 1) (fun x17 => K5 v3 x17 M)
set_option maxHeartbeats 4000000 in
set_option maxRecDepth 20000 in
theorem j_Mod_termOf_159 {l : Launch} {ld : Nat} {Q : Option Value → gM → gL → gR → Prop} (hld : isLa ld)   {q : Int32 × gM} {M : gM} {L : gL} (hQ : Q (some (.int q.1)) q.2 L (rf ld)) {K5 : Int32 → Int32 → gM → Option (Int32 × gM)} {v2 : Int32} {v3 : Int32} {v4 : Int32} (hK5 : ∀ (w3 : Int32) (w4 : Int32) (M : gM), K5 w3 w4 M = some q → Wp l y_Mod_termOf (0, 0, 447) 447 0 0 5 [(0, .ref 401), (2, .int v2), (3, .int w3), (4, .int w4)] [] M L (rf ld) Q) (h : J_Mod_termOf_159 K5 v2 v3 v4 M = some q) : Wp l y_Mod_termOf (0, 0, 447) 447 0 0 159 [(0, .ref 401), (2, .int v2), (3, .int v3), (4, .int v4)] [] M L (rf ld) Q := by
  unfold J_Mod_termOf_159 at h
  obtain ⟨x17, ex17, h⟩ := ltI h
  refine g_iinc (pc1 := 162) (v := x17) (lv' := [(0, .ref 401), (2, .int v2), (3, .int v3), (4, .int x17)]) d_Mod_termOf_159 rfl 3 rfl (by rw [ex17]; rfl) (by decide) [1, 2, 3, 0] rfl ?_
  refine g_goto (tgt := 5) d_Mod_termOf_162 (by decide) ?_
  exact hK5 v3 x17 M h
def J_Mod_termOf_158 (K5 : Int32 → Int32 → gM → Option (Int32 × gM)) (v2 : Int32) (v3 : Int32) (v4 : Int32) (s1 : Int32) (s2 : Int32) (M : gM) : Option (Int32 × gM) :=
  (if (s1 : Int32) < 0 ∨ 400 ≤ (s1 : Int32).toNatClampNeg then none else nmM (uM M 435 (s1 : Int32).toNatClampNeg s2) (fun M16 => J_Mod_termOf_159 K5 v2 v3 v4 M16))
set_option maxHeartbeats 4000000 in
set_option maxRecDepth 20000 in
theorem j_Mod_termOf_158 {l : Launch} {ld : Nat} {Q : Option Value → gM → gL → gR → Prop} (hld : isLa ld)   {q : Int32 × gM} {M : gM} {L : gL} (hQ : Q (some (.int q.1)) q.2 L (rf ld)) {K5 : Int32 → Int32 → gM → Option (Int32 × gM)} {v2 : Int32} {v3 : Int32} {v4 : Int32} {s1 : Int32} {s2 : Int32} (hK5 : ∀ (w3 : Int32) (w4 : Int32) (M : gM), K5 w3 w4 M = some q → Wp l y_Mod_termOf (0, 0, 447) 447 0 0 5 [(0, .ref 401), (2, .int v2), (3, .int w3), (4, .int w4)] [] M L (rf ld) Q) (h : J_Mod_termOf_158 K5 v2 v3 v4 s1 s2 M = some q) : Wp l y_Mod_termOf (0, 0, 447) 447 0 0 158 [(0, .ref 401), (2, .int v2), (3, .int v3), (4, .int v4)] [.int s2, .int s1, .ref 435] M L (rf ld) Q := by
  unfold J_Mod_termOf_158 at h
  obtain ⟨g15, h⟩ := gdn h
  refine g_iast (pc1 := 159) d_Mod_termOf_158 rfl sh_435 (by decide) g15 ?_
  refine Wp.lM h (fun M16 h => ?_)
  exact j_Mod_termOf_159 hld  hQ hK5 h
def J_Mod_termOf_104 (K5 : Int32 → Int32 → gM → Option (Int32 × gM)) (v2 : Int32) (v3 : Int32) (v4 : Int32) (v5 : Int32) (v6 : Int32) (v7 : Int32) (M : gM) : Option (Int32 × gM) :=
  (if v5 = 2 then J_Mod_termOf_158 K5 v2 v3 v4 (v3 - 1) (v6 + v7) M else (if v5 = 3 then J_Mod_termOf_158 K5 v2 v3 v4 (v3 - 1) (v6 - v7) M else (if v5 = 4 then J_Mod_termOf_158 K5 v2 v3 v4 (v3 - 1) (v6 * v7) M else (if v7 = 0 then none else J_Mod_termOf_158 K5 v2 v3 v4 (v3 - 1) (v6 / v7) M))))
set_option maxHeartbeats 4000000 in
set_option maxRecDepth 20000 in
theorem j_Mod_termOf_104 {l : Launch} {ld : Nat} {Q : Option Value → gM → gL → gR → Prop} (hld : isLa ld)   {q : Int32 × gM} {M : gM} {L : gL} (hQ : Q (some (.int q.1)) q.2 L (rf ld)) {K5 : Int32 → Int32 → gM → Option (Int32 × gM)} {v2 : Int32} {v3 : Int32} {v4 : Int32} {v5 : Int32} {v6 : Int32} {v7 : Int32} (hK5 : ∀ (w3 : Int32) (w4 : Int32) (M : gM), K5 w3 w4 M = some q → Wp l y_Mod_termOf (0, 0, 447) 447 0 0 5 [(0, .ref 401), (2, .int v2), (3, .int w3), (4, .int w4)] [] M L (rf ld) Q) (h : J_Mod_termOf_104 K5 v2 v3 v4 v5 v6 v7 M = some q) : Wp l y_Mod_termOf (0, 0, 447) 447 0 0 104 [(0, .ref 401), (2, .int v2), (3, .int v3), (4, .int v4), (5, .int v5), (6, .int v6), (7, .int v7)] [] M L (rf ld) Q := by
  unfold J_Mod_termOf_104 at h
  refine g_aload_n (pc1 := 105) d_Mod_termOf_104 rfl 0 rfl ?_
  refine g_getr (pc1 := 108) d_Mod_termOf_105 rfl ⟨_, fo_Mod_119⟩ sh_401 (by decide) (rf_401_50 ld) ?_
  refine g_iload_n (pc1 := 109) d_Mod_termOf_108 rfl 2 rfl ?_
  refine g_iconst (pc1 := 110) (v := 1) d_Mod_termOf_109 rfl (by decide) ?_
  refine g_isub (pc1 := 111) d_Mod_termOf_110 rfl ?_
  refine g_iload (pc1 := 113) d_Mod_termOf_111 rfl 4 rfl ?_
  refine g_iconst (pc1 := 114) (v := 2) d_Mod_termOf_113 rfl (by decide) ?_
  refine g_icmp_ne (pc1 := 117) (tgt := 125) d_Mod_termOf_114 (by decide) rfl (fun c11 => ?_) (fun c11 => ?_)
  · replace h := itn h c11
    refine g_iload (pc1 := 127) d_Mod_termOf_125 rfl 4 rfl ?_
    refine g_iconst (pc1 := 128) (v := 3) d_Mod_termOf_127 rfl (by decide) ?_
    refine g_icmp_ne (pc1 := 131) (tgt := 139) d_Mod_termOf_128 (by decide) rfl (fun c12 => ?_) (fun c12 => ?_)
    · replace h := itn h c12
      refine g_iload (pc1 := 141) d_Mod_termOf_139 rfl 4 rfl ?_
      refine g_iconst (pc1 := 142) (v := 4) d_Mod_termOf_141 rfl (by decide) ?_
      refine g_icmp_ne (pc1 := 145) (tgt := 153) d_Mod_termOf_142 (by decide) rfl (fun c13 => ?_) (fun c13 => ?_)
      · replace h := itn h c13
        refine g_iload (pc1 := 155) d_Mod_termOf_153 rfl 5 rfl ?_
        refine g_iload (pc1 := 157) d_Mod_termOf_155 rfl 6 rfl ?_
        obtain ⟨g14, h⟩ := gdn h
        refine g_idiv (pc1 := 158) d_Mod_termOf_157 rfl g14 ?_
        refine Wp.loc (lv' := [(0, .ref 401), (2, .int v2), (3, .int v3), (4, .int v4)]) [0, 1, 2, 3] rfl ?_
        exact j_Mod_termOf_158 hld  hQ hK5 h
      · replace h := itp h c13
        refine g_iload (pc1 := 147) d_Mod_termOf_145 rfl 5 rfl ?_
        refine g_iload (pc1 := 149) d_Mod_termOf_147 rfl 6 rfl ?_
        refine g_imul (pc1 := 150) d_Mod_termOf_149 rfl ?_
        refine g_goto (tgt := 158) d_Mod_termOf_150 (by decide) ?_
        refine Wp.loc (lv' := [(0, .ref 401), (2, .int v2), (3, .int v3), (4, .int v4)]) [0, 1, 2, 3] rfl ?_
        exact j_Mod_termOf_158 hld  hQ hK5 h
    · replace h := itp h c12
      refine g_iload (pc1 := 133) d_Mod_termOf_131 rfl 5 rfl ?_
      refine g_iload (pc1 := 135) d_Mod_termOf_133 rfl 6 rfl ?_
      refine g_isub (pc1 := 136) d_Mod_termOf_135 rfl ?_
      refine g_goto (tgt := 158) d_Mod_termOf_136 (by decide) ?_
      refine Wp.loc (lv' := [(0, .ref 401), (2, .int v2), (3, .int v3), (4, .int v4)]) [0, 1, 2, 3] rfl ?_
      exact j_Mod_termOf_158 hld  hQ hK5 h
  · replace h := itp h c11
    refine g_iload (pc1 := 119) d_Mod_termOf_117 rfl 5 rfl ?_
    refine g_iload (pc1 := 121) d_Mod_termOf_119 rfl 6 rfl ?_
    refine g_iadd (pc1 := 122) d_Mod_termOf_121 rfl ?_
    refine g_goto (tgt := 158) d_Mod_termOf_122 (by decide) ?_
    refine Wp.loc (lv' := [(0, .ref 401), (2, .int v2), (3, .int v3), (4, .int v4)]) [0, 1, 2, 3] rfl ?_
    exact j_Mod_termOf_158 hld  hQ hK5 h
def J_Mod_termOf_97 (M : gM) : Option (Int32 × gM) :=
  nmM (uM M 401 51 1) (fun M19 => some (0, M19))
set_option maxHeartbeats 4000000 in
set_option maxRecDepth 20000 in
theorem j_Mod_termOf_97 {l : Launch} {ld : Nat} {Q : Option Value → gM → gL → gR → Prop} (hld : isLa ld)   {q : Int32 × gM} {M : gM} {L : gL} (hQ : Q (some (.int q.1)) q.2 L (rf ld))    (h : J_Mod_termOf_97 M = some q) : Wp l y_Mod_termOf (0, 0, 447) 447 0 0 97 [(0, .ref 401)] [] M L (rf ld) Q := by
  unfold J_Mod_termOf_97 at h
  refine g_aload_n (pc1 := 98) d_Mod_termOf_97 rfl 0 rfl ?_
  refine g_iconst (pc1 := 99) (v := 1) d_Mod_termOf_98 rfl (by decide) ?_
  refine g_putz (pc1 := 102) d_Mod_termOf_99 rfl fo_Mod_312 po_12_51_1 rfl sh_401 (by decide) ?_
  refine Wp.lM h (fun M19 h => ?_)
  refine g_iconst (pc1 := 103) (v := 0) d_Mod_termOf_102 rfl (by decide) ?_
  refine g_ireturn (Or.inl rfl) d_Mod_termOf_103 rfl ?_
  cases h; exact hQ
def J_Mod_termOf_58 (K5 : Int32 → Int32 → gM → Option (Int32 × gM)) (v2 : Int32) (v3 : Int32) (v4 : Int32) (s1 : Int32) (s2 : Int32) (M : gM) : Option (Int32 × gM) :=
  (if (s1 : Int32) < 0 ∨ 400 ≤ (s1 : Int32).toNatClampNeg then none else nmM (uM M 435 (s1 : Int32).toNatClampNeg s2) (fun M24 => nmI (v3 + 1) (fun x25 => J_Mod_termOf_159 K5 v2 x25 v4 M24)))
set_option maxHeartbeats 4000000 in
set_option maxRecDepth 20000 in
theorem j_Mod_termOf_58 {l : Launch} {ld : Nat} {Q : Option Value → gM → gL → gR → Prop} (hld : isLa ld)   {q : Int32 × gM} {M : gM} {L : gL} (hQ : Q (some (.int q.1)) q.2 L (rf ld)) {K5 : Int32 → Int32 → gM → Option (Int32 × gM)} {v2 : Int32} {v3 : Int32} {v4 : Int32} {s1 : Int32} {s2 : Int32} (hK5 : ∀ (w3 : Int32) (w4 : Int32) (M : gM), K5 w3 w4 M = some q → Wp l y_Mod_termOf (0, 0, 447) 447 0 0 5 [(0, .ref 401), (2, .int v2), (3, .int w3), (4, .int w4)] [] M L (rf ld) Q) (h : J_Mod_termOf_58 K5 v2 v3 v4 s1 s2 M = some q) : Wp l y_Mod_termOf (0, 0, 447) 447 0 0 58 [(0, .ref 401), (2, .int v2), (3, .int v3), (4, .int v4)] [.int s2, .int s1, .ref 435] M L (rf ld) Q := by
  unfold J_Mod_termOf_58 at h
  obtain ⟨g23, h⟩ := gdn h
  refine g_iast (pc1 := 59) d_Mod_termOf_58 rfl sh_435 (by decide) g23 ?_
  refine Wp.lM h (fun M24 h => ?_)
  obtain ⟨x25, ex25, h⟩ := ltI h
  refine g_iinc (pc1 := 62) (v := x25) (lv' := [(0, .ref 401), (2, .int v2), (3, .int x25), (4, .int v4)]) d_Mod_termOf_59 rfl 2 rfl (by rw [ex25]; rfl) (by decide) [1, 2, 0, 3] rfl ?_
  refine g_goto (tgt := 159) d_Mod_termOf_62 (by decide) ?_
  exact j_Mod_termOf_159 hld  hQ hK5 h
def B_Mod_termOf_5 (v2 : Int32) (K5 : Int32 → Int32 → gM → Option (Int32 × gM)) : Int32 → Int32 → gM → Option (Int32 × gM) := fun v3 v4 M =>
  (if v2 ≤ v4 then J_Mod_termOf_165 M else (if (v4 : Int32) < 0 ∨ 840 ≤ (v4 : Int32).toNatClampNeg then none else nmI (M 431 (v4 : Int32).toNatClampNeg) (fun x3 => (if 2 ≤ x3 then nmI (v3 + (-1)) (fun x5 => (if ((x5 - 1) : Int32) < 0 ∨ 400 ≤ ((x5 - 1) : Int32).toNatClampNeg then none else nmI (M 435 ((x5 - 1) : Int32).toNatClampNeg) (fun x7 => (if (x5 : Int32) < 0 ∨ 400 ≤ (x5 : Int32).toNatClampNeg then none else nmI (M 435 (x5 : Int32).toNatClampNeg) (fun x9 => (if x3 = 5 then (if x9 = 0 then J_Mod_termOf_97 M else J_Mod_termOf_104 K5 v2 x5 v4 x3 x7 x9 M) else J_Mod_termOf_104 K5 v2 x5 v4 x3 x7 x9 M)))))) else (if x3 = 0 then (if (v4 : Int32) < 0 ∨ 840 ≤ (v4 : Int32).toNatClampNeg then none else J_Mod_termOf_58 K5 v2 v3 v4 v3 (M 432 (v4 : Int32).toNatClampNeg) M) else (if (v4 : Int32) < 0 ∨ 840 ≤ (v4 : Int32).toNatClampNeg then none else (if ((M 432 (v4 : Int32).toNatClampNeg) : Int32) < 0 ∨ 9 ≤ ((M 432 (v4 : Int32).toNatClampNeg) : Int32).toNatClampNeg then none else J_Mod_termOf_58 K5 v2 v3 v4 v3 (M 434 ((M 432 (v4 : Int32).toNatClampNeg) : Int32).toNatClampNeg) M)))))))
def H_Mod_termOf_5 (v2 : Int32) : Nat → Int32 → Int32 → gM → Option (Int32 × gM) := lpK (B_Mod_termOf_5 v2) (fun _ _ _ => none)
set_option maxHeartbeats 4000000 in
set_option maxRecDepth 20000 in
theorem h_Mod_termOf_5 {l : Launch} {ld : Nat} {Q : Option Value → gM → gL → gR → Prop} (hld : isLa ld)   {q : Int32 × gM} {L : gL} (hQ : Q (some (.int q.1)) q.2 L (rf ld))  {v2 : Int32}  : ∀ (f : Nat) (v3 : Int32) (v4 : Int32) (M : gM), H_Mod_termOf_5 v2 f v3 v4 M = some q → Wp l y_Mod_termOf (0, 0, 447) 447 0 0 5 [(0, .ref 401), (2, .int v2), (3, .int v3), (4, .int v4)] [] M L (rf ld) Q := by
  intro f
  induction f with
  | zero => intro v3 v4 M h; cases h
  | succ f hK5 =>
    intro v3 v4 M h
    replace h : B_Mod_termOf_5 v2 (H_Mod_termOf_5 v2 f) v3 v4 M = some q := h
    unfold B_Mod_termOf_5 at h
    refine g_iload (pc1 := 7) d_Mod_termOf_5 rfl 3 rfl ?_
    refine g_iload_n (pc1 := 8) d_Mod_termOf_7 rfl 1 rfl ?_
    refine g_icmp_ge (pc1 := 11) (tgt := 165) d_Mod_termOf_8 (by decide) rfl (fun c1 => ?_) (fun c1 => ?_)
    · replace h := itp h c1
      refine Wp.loc (lv' := [(0, .ref 401)]) [0] rfl ?_
      exact j_Mod_termOf_165 hld  hQ  h
    · replace h := itn h c1
      refine g_aload_n (pc1 := 12) d_Mod_termOf_11 rfl 0 rfl ?_
      refine g_getr (pc1 := 15) d_Mod_termOf_12 rfl ⟨_, fo_Mod_107⟩ sh_401 (by decide) (rf_401_45 ld) ?_
      refine g_iload (pc1 := 17) d_Mod_termOf_15 rfl 3 rfl ?_
      obtain ⟨g2, h⟩ := gdn h
      refine g_iald (pc1 := 18) d_Mod_termOf_17 rfl sh_431 (by decide) g2 ?_
      refine Wp.lI h (fun x3 h => ?_)
      refine g_istore (pc1 := 20) (lv' := [(0, .ref 401), (2, .int v2), (3, .int v3), (4, .int v4), (5, .int x3)]) d_Mod_termOf_18 rfl (by decide) [1, 2, 3, 4, 0] rfl ?_
      refine g_iload (pc1 := 22) d_Mod_termOf_20 rfl 4 rfl ?_
      refine g_iconst (pc1 := 23) (v := 2) d_Mod_termOf_22 rfl (by decide) ?_
      refine g_icmp_ge (pc1 := 26) (tgt := 65) d_Mod_termOf_23 (by decide) rfl (fun c4 => ?_) (fun c4 => ?_)
      · replace h := itp h c4
        obtain ⟨x5, ex5, h⟩ := ltI h
        refine g_iinc (pc1 := 68) (v := x5) (lv' := [(0, .ref 401), (2, .int v2), (3, .int x5), (4, .int v4), (5, .int x3)]) d_Mod_termOf_65 rfl 2 rfl (by rw [ex5]; rfl) (by decide) [1, 2, 0, 3, 4] rfl ?_
        refine g_aload_n (pc1 := 69) d_Mod_termOf_68 rfl 0 rfl ?_
        refine g_getr (pc1 := 72) d_Mod_termOf_69 rfl ⟨_, fo_Mod_119⟩ sh_401 (by decide) (rf_401_50 ld) ?_
        refine g_iload_n (pc1 := 73) d_Mod_termOf_72 rfl 2 rfl ?_
        refine g_iconst (pc1 := 74) (v := 1) d_Mod_termOf_73 rfl (by decide) ?_
        refine g_isub (pc1 := 75) d_Mod_termOf_74 rfl ?_
        obtain ⟨g6, h⟩ := gdn h
        refine g_iald (pc1 := 76) d_Mod_termOf_75 rfl sh_435 (by decide) g6 ?_
        refine Wp.lI h (fun x7 h => ?_)
        refine g_istore (pc1 := 78) (lv' := [(0, .ref 401), (2, .int v2), (3, .int x5), (4, .int v4), (5, .int x3), (6, .int x7)]) d_Mod_termOf_76 rfl (by decide) [1, 2, 3, 4, 5, 0] rfl ?_
        refine g_aload_n (pc1 := 79) d_Mod_termOf_78 rfl 0 rfl ?_
        refine g_getr (pc1 := 82) d_Mod_termOf_79 rfl ⟨_, fo_Mod_119⟩ sh_401 (by decide) (rf_401_50 ld) ?_
        refine g_iload_n (pc1 := 83) d_Mod_termOf_82 rfl 2 rfl ?_
        obtain ⟨g8, h⟩ := gdn h
        refine g_iald (pc1 := 84) d_Mod_termOf_83 rfl sh_435 (by decide) g8 ?_
        refine Wp.lI h (fun x9 h => ?_)
        refine g_istore (pc1 := 86) (lv' := [(0, .ref 401), (2, .int v2), (3, .int x5), (4, .int v4), (5, .int x3), (6, .int x7), (7, .int x9)]) d_Mod_termOf_84 rfl (by decide) [1, 2, 3, 4, 5, 6, 0] rfl ?_
        refine g_iload (pc1 := 88) d_Mod_termOf_86 rfl 4 rfl ?_
        refine g_iconst (pc1 := 89) (v := 5) d_Mod_termOf_88 rfl (by decide) ?_
        refine g_icmp_ne (pc1 := 92) (tgt := 104) d_Mod_termOf_89 (by decide) rfl (fun c10 => ?_) (fun c10 => ?_)
        · replace h := itn h c10
          exact j_Mod_termOf_104 hld  hQ hK5 h
        · replace h := itp h c10
          refine g_iload (pc1 := 94) d_Mod_termOf_92 rfl 6 rfl ?_
          refine g_if_ne (pc1 := 97) (tgt := 104) d_Mod_termOf_94 (by decide) rfl (fun c18 => ?_) (fun c18 => ?_)
          · replace h := itn h c18
            exact j_Mod_termOf_104 hld  hQ hK5 h
          · replace h := itp h c18
            refine Wp.loc (lv' := [(0, .ref 401)]) [0] rfl ?_
            exact j_Mod_termOf_97 hld  hQ  h
      · replace h := itn h c4
        refine g_aload_n (pc1 := 27) d_Mod_termOf_26 rfl 0 rfl ?_
        refine g_getr (pc1 := 30) d_Mod_termOf_27 rfl ⟨_, fo_Mod_119⟩ sh_401 (by decide) (rf_401_50 ld) ?_
        refine g_iload_n (pc1 := 31) d_Mod_termOf_30 rfl 2 rfl ?_
        refine g_iload (pc1 := 33) d_Mod_termOf_31 rfl 4 rfl ?_
        refine g_if_ne (pc1 := 36) (tgt := 46) d_Mod_termOf_33 (by decide) rfl (fun c20 => ?_) (fun c20 => ?_)
        · replace h := itn h c20
          refine g_aload_n (pc1 := 47) d_Mod_termOf_46 rfl 0 rfl ?_
          refine g_getr (pc1 := 50) d_Mod_termOf_47 rfl ⟨_, fo_Mod_116⟩ sh_401 (by decide) (rf_401_49 ld) ?_
          refine g_aload_n (pc1 := 51) d_Mod_termOf_50 rfl 0 rfl ?_
          refine g_getr (pc1 := 54) d_Mod_termOf_51 rfl ⟨_, fo_Mod_110⟩ sh_401 (by decide) (rf_401_46 ld) ?_
          refine g_iload (pc1 := 56) d_Mod_termOf_54 rfl 3 rfl ?_
          obtain ⟨g21, h⟩ := gdn h
          refine g_iald (pc1 := 57) d_Mod_termOf_56 rfl sh_432 (by decide) g21 ?_
          obtain ⟨g22, h⟩ := gdn h
          refine g_iald (pc1 := 58) d_Mod_termOf_57 rfl sh_434 (by decide) g22 ?_
          refine Wp.loc (lv' := [(0, .ref 401), (2, .int v2), (3, .int v3), (4, .int v4)]) [0, 1, 2, 3] rfl ?_
          exact j_Mod_termOf_58 hld  hQ hK5 h
        · replace h := itp h c20
          refine g_aload_n (pc1 := 37) d_Mod_termOf_36 rfl 0 rfl ?_
          refine g_getr (pc1 := 40) d_Mod_termOf_37 rfl ⟨_, fo_Mod_110⟩ sh_401 (by decide) (rf_401_46 ld) ?_
          refine g_iload (pc1 := 42) d_Mod_termOf_40 rfl 3 rfl ?_
          obtain ⟨g26, h⟩ := gdn h
          refine g_iald (pc1 := 43) d_Mod_termOf_42 rfl sh_432 (by decide) g26 ?_
          refine g_goto (tgt := 58) d_Mod_termOf_43 (by decide) ?_
          refine Wp.loc (lv' := [(0, .ref 401), (2, .int v2), (3, .int v3), (4, .int v4)]) [0, 1, 2, 3] rfl ?_
          exact j_Mod_termOf_58 hld  hQ hK5 h
def F_Mod_termOf (p1 : Int32) (p2 : Int32) (M : gM) : Option (Int32 × gM) :=
  H_Mod_termOf_5 p2 FU 0 p1 M
set_option maxHeartbeats 4000000 in
set_option maxRecDepth 20000 in
theorem f_Mod_termOf {l : Launch} {ld : Nat} {M : gM} {L : gL} {Q : Option Value → gM → gL → gR → Prop} (hld : isLa ld) {p1 : Int32} {p2 : Int32}  {q : Int32 × gM} (h : F_Mod_termOf p1 p2 M = some q) (hQ : Q (some (.int q.1)) q.2 L (rf ld)) : Tm l y_Mod_termOf (0, 0, 447) 447 [.ref 401, .int p1, .int p2] M L (rf ld) Q := by
  refine Tm.of (by decide) (Nat.le_of_ble_eq_true rfl) ?_
  show Wp l y_Mod_termOf (0, 0, 447) 447 0 0 0 [(0, .ref 401), (1, .int p1), (2, .int p2)] [] M L (rf ld) Q
  unfold F_Mod_termOf at h
  refine g_iconst (pc1 := 1) (v := 0) d_Mod_termOf_0 rfl (by decide) ?_
  refine g_istore_n (pc1 := 2) (lv' := [(0, .ref 401), (1, .int p1), (2, .int p2), (3, .int 0)]) d_Mod_termOf_1 rfl rfl (by decide) [1, 2, 3, 0] rfl ?_
  refine g_iload_n (pc1 := 3) d_Mod_termOf_2 rfl 1 rfl ?_
  refine g_istore (pc1 := 5) (lv' := [(0, .ref 401), (1, .int p1), (2, .int p2), (3, .int 0), (4, .int p1)]) d_Mod_termOf_3 rfl (by decide) [1, 2, 3, 4, 0] rfl ?_
  refine Wp.loc (lv' := [(0, .ref 401), (2, .int p2), (3, .int 0), (4, .int p1)]) [0, 2, 3, 4] rfl ?_
  exact h_Mod_termOf_5 hld  hQ  _ 0 p1 M h

def F_Mod_token (p1 : Int32) (p2 : Int32) (p3 : Int32) (p4 : Int64) (M : gM) (L : gL) : Option (gM × gL) :=
  (if ((M 401 10) : Int32) < 0 ∨ 403 ≤ ((M 401 10) : Int32).toNatClampNeg then none else nmM (uM M 404 ((M 401 10) : Int32).toNatClampNeg p1) (fun M2 => (if ((M2 401 10) : Int32) < 0 ∨ 403 ≤ ((M2 401 10) : Int32).toNatClampNeg then none else nmM (uM M2 405 ((M2 401 10) : Int32).toNatClampNeg p2) (fun M4 => (if ((M4 401 10) : Int32) < 0 ∨ 403 ≤ ((M4 401 10) : Int32).toNatClampNeg then none else nmM (uM M4 406 ((M4 401 10) : Int32).toNatClampNeg p3) (fun M6 => (if ((M6 401 10) : Int32) < 0 ∨ 403 ≤ ((M6 401 10) : Int32).toNatClampNeg then none else nmL (uL L 407 ((M6 401 10) : Int32).toNatClampNeg p4) (fun L8 => nmM (uM M6 401 10 ((M6 401 10) + 1)) (fun M9 => some (M9, L8))))))))))
set_option maxHeartbeats 4000000 in
set_option maxRecDepth 20000 in
theorem f_Mod_token {l : Launch} {ld : Nat} {M : gM} {L : gL} {Q : Option Value → gM → gL → gR → Prop} (hld : isLa ld) {p1 : Int32} {p2 : Int32} {p3 : Int32} {p4 : Int64}  {q : gM × gL} (h : F_Mod_token p1 p2 p3 p4 M L = some q) (hQ : Q none q.1 q.2 (rf ld)) : Tm l y_Mod_token (0, 0, 447) 447 [.ref 401, .int p1, .int p2, .int p3, .long p4] M L (rf ld) Q := by
  refine Tm.of (by decide) (Nat.le_of_ble_eq_true rfl) ?_
  show Wp l y_Mod_token (0, 0, 447) 447 0 0 0 [(0, .ref 401), (1, .int p1), (2, .int p2), (3, .int p3), (4, .long p4)] [] M L (rf ld) Q
  unfold F_Mod_token at h
  refine g_aload_n (pc1 := 1) d_Mod_token_0 rfl 0 rfl ?_
  refine g_getr (pc1 := 4) d_Mod_token_1 rfl ⟨_, fo_Mod_20⟩ sh_401 (by decide) (rf_401_5 ld) ?_
  refine g_aload_n (pc1 := 5) d_Mod_token_4 rfl 0 rfl ?_
  refine g_geti (pc1 := 8) d_Mod_token_5 rfl ⟨_, fo_Mod_184⟩ sh_401 (by decide) ?_
  refine g_iload_n (pc1 := 9) d_Mod_token_8 rfl 1 rfl ?_
  obtain ⟨g1, h⟩ := gdn h
  refine g_iast (pc1 := 10) d_Mod_token_9 rfl sh_404 (by decide) g1 ?_
  refine Wp.lM h (fun M2 h => ?_)
  refine g_aload_n (pc1 := 11) d_Mod_token_10 rfl 0 rfl ?_
  refine g_getr (pc1 := 14) d_Mod_token_11 rfl ⟨_, fo_Mod_24⟩ sh_401 (by decide) (rf_401_6 ld) ?_
  refine g_aload_n (pc1 := 15) d_Mod_token_14 rfl 0 rfl ?_
  refine g_geti (pc1 := 18) d_Mod_token_15 rfl ⟨_, fo_Mod_184⟩ sh_401 (by decide) ?_
  refine g_iload_n (pc1 := 19) d_Mod_token_18 rfl 2 rfl ?_
  obtain ⟨g3, h⟩ := gdn h
  refine g_iast (pc1 := 20) d_Mod_token_19 rfl sh_405 (by decide) g3 ?_
  refine Wp.lM h (fun M4 h => ?_)
  refine g_aload_n (pc1 := 21) d_Mod_token_20 rfl 0 rfl ?_
  refine g_getr (pc1 := 24) d_Mod_token_21 rfl ⟨_, fo_Mod_27⟩ sh_401 (by decide) (rf_401_7 ld) ?_
  refine g_aload_n (pc1 := 25) d_Mod_token_24 rfl 0 rfl ?_
  refine g_geti (pc1 := 28) d_Mod_token_25 rfl ⟨_, fo_Mod_184⟩ sh_401 (by decide) ?_
  refine g_iload_n (pc1 := 29) d_Mod_token_28 rfl 3 rfl ?_
  obtain ⟨g5, h⟩ := gdn h
  refine g_iast (pc1 := 30) d_Mod_token_29 rfl sh_406 (by decide) g5 ?_
  refine Wp.lM h (fun M6 h => ?_)
  refine g_aload_n (pc1 := 31) d_Mod_token_30 rfl 0 rfl ?_
  refine g_getr (pc1 := 34) d_Mod_token_31 rfl ⟨_, fo_Mod_30⟩ sh_401 (by decide) (rf_401_8 ld) ?_
  refine g_aload_n (pc1 := 35) d_Mod_token_34 rfl 0 rfl ?_
  refine g_geti (pc1 := 38) d_Mod_token_35 rfl ⟨_, fo_Mod_184⟩ sh_401 (by decide) ?_
  refine g_lload (pc1 := 40) d_Mod_token_38 rfl 4 rfl ?_
  obtain ⟨g7, h⟩ := gdn h
  refine g_last (pc1 := 41) d_Mod_token_40 rfl sh_407 (by decide) g7 ?_
  refine Wp.lL h (fun L8 h => ?_)
  refine g_aload_n (pc1 := 42) d_Mod_token_41 rfl 0 rfl ?_
  refine g_dup (pc1 := 43) d_Mod_token_42 rfl rfl ?_
  refine g_geti (pc1 := 46) d_Mod_token_43 rfl ⟨_, fo_Mod_184⟩ sh_401 (by decide) ?_
  refine g_iconst (pc1 := 47) (v := 1) d_Mod_token_46 rfl (by decide) ?_
  refine g_iadd (pc1 := 48) d_Mod_token_47 rfl ?_
  refine g_puti (pc1 := 51) d_Mod_token_48 rfl fo_Mod_184 (po_12_10 _) sh_401 (by decide) ?_
  refine Wp.lM h (fun M9 h => ?_)
  refine g_return rfl d_Mod_token_51 rfl ?_
  cases h; exact hQ

def B_Mod_undo_21  (K21 : Int32 → gM → Option (Int32 × gM)) : Int32 → gM → Option (Int32 × gM) := fun v1 M =>
  (if 38 ≤ v1 then some (1, M) else (if (((38 * (M 401 57)) + v1) : Int32) < 0 ∨ 1520 ≤ (((38 * (M 401 57)) + v1) : Int32).toNatClampNeg then none else (if (v1 : Int32) < 0 ∨ 38 ≤ (v1 : Int32).toNatClampNeg then none else nmM (uM M 436 (v1 : Int32).toNatClampNeg (M 440 (((38 * (M 401 57)) + v1) : Int32).toNatClampNeg)) (fun M6 => nmI (v1 + 1) (fun x7 => K21 x7 M6)))))
def H_Mod_undo_21  : Nat → Int32 → gM → Option (Int32 × gM) := lpK (B_Mod_undo_21 ) (fun _ _ => none)
set_option maxHeartbeats 4000000 in
set_option maxRecDepth 20000 in
theorem h_Mod_undo_21 {l : Launch} {ld : Nat} {Q : Option Value → gM → gL → gR → Prop} (hld : isLa ld)   {q : Int32 × gM} {L : gL} (hQ : Q (some (.int q.1)) q.2 L (rf ld))    : ∀ (f : Nat) (v1 : Int32) (M : gM), H_Mod_undo_21  f v1 M = some q → Wp l y_Mod_undo (0, 0, 447) 447 0 0 21 [(0, .ref 401), (1, .int v1)] [] M L (rf ld) Q := by
  intro f
  induction f with
  | zero => intro v1 M h; cases h
  | succ f hK21 =>
    intro v1 M h
    replace h : B_Mod_undo_21  (H_Mod_undo_21  f) v1 M = some q := h
    unfold B_Mod_undo_21 at h
    refine g_iload_n (pc1 := 22) d_Mod_undo_21 rfl 1 rfl ?_
    refine g_bipush (pc1 := 24) (v := 38) d_Mod_undo_22 rfl (by decide) ?_
    refine g_icmp_ge (pc1 := 27) (tgt := 53) d_Mod_undo_24 (by decide) rfl (fun c3 => ?_) (fun c3 => ?_)
    · replace h := itp h c3
      refine g_iconst (pc1 := 54) (v := 1) d_Mod_undo_53 rfl (by decide) ?_
      refine g_ireturn (Or.inr ⟨rfl, rfl⟩) d_Mod_undo_54 rfl ?_
      cases h; exact hQ
    · replace h := itn h c3
      refine g_aload_n (pc1 := 28) d_Mod_undo_27 rfl 0 rfl ?_
      refine g_getr (pc1 := 31) d_Mod_undo_28 rfl ⟨_, fo_Mod_122⟩ sh_401 (by decide) (rf_401_52 ld) ?_
      refine g_iload_n (pc1 := 32) d_Mod_undo_31 rfl 1 rfl ?_
      refine g_aload_n (pc1 := 33) d_Mod_undo_32 rfl 0 rfl ?_
      refine g_getr (pc1 := 36) d_Mod_undo_33 rfl ⟨_, fo_Mod_134⟩ sh_401 (by decide) (rf_401_58 ld) ?_
      refine g_bipush (pc1 := 38) (v := 38) d_Mod_undo_36 rfl (by decide) ?_
      refine g_aload_n (pc1 := 39) d_Mod_undo_38 rfl 0 rfl ?_
      refine g_geti (pc1 := 42) d_Mod_undo_39 rfl ⟨_, fo_Mod_254⟩ sh_401 (by decide) ?_
      refine g_imul (pc1 := 43) d_Mod_undo_42 rfl ?_
      refine g_iload_n (pc1 := 44) d_Mod_undo_43 rfl 1 rfl ?_
      refine g_iadd (pc1 := 45) d_Mod_undo_44 rfl ?_
      obtain ⟨g4, h⟩ := gdn h
      refine g_iald (pc1 := 46) d_Mod_undo_45 rfl sh_440 (by decide) g4 ?_
      obtain ⟨g5, h⟩ := gdn h
      refine g_iast (pc1 := 47) d_Mod_undo_46 rfl sh_436 (by decide) g5 ?_
      refine Wp.lM h (fun M6 h => ?_)
      obtain ⟨x7, ex7, h⟩ := ltI h
      refine g_iinc (pc1 := 50) (v := x7) (lv' := [(0, .ref 401), (1, .int x7)]) d_Mod_undo_47 rfl 1 rfl (by rw [ex7]; rfl) (by decide) [1, 0] rfl ?_
      refine g_goto (tgt := 21) d_Mod_undo_50 (by decide) ?_
      exact hK21 x7 M6 h
def F_Mod_undo (M : gM) : Option (Int32 × gM) :=
  (if (M 401 57) = 0 then some (0, M) else nmM (uM M 401 57 ((M 401 57) - 1)) (fun M2 => H_Mod_undo_21 FU 0 M2))
set_option maxHeartbeats 4000000 in
set_option maxRecDepth 20000 in
theorem f_Mod_undo {l : Launch} {ld : Nat} {M : gM} {L : gL} {Q : Option Value → gM → gL → gR → Prop} (hld : isLa ld)   {q : Int32 × gM} (h : F_Mod_undo M = some q) (hQ : Q (some (.int q.1)) q.2 L (rf ld)) : Tm l y_Mod_undo (0, 0, 447) 447 [.ref 401] M L (rf ld) Q := by
  refine Tm.of (by decide) (Nat.le_of_ble_eq_true rfl) ?_
  show Wp l y_Mod_undo (0, 0, 447) 447 0 0 0 [(0, .ref 401)] [] M L (rf ld) Q
  unfold F_Mod_undo at h
  refine g_aload_n (pc1 := 1) d_Mod_undo_0 rfl 0 rfl ?_
  refine g_geti (pc1 := 4) d_Mod_undo_1 rfl ⟨_, fo_Mod_254⟩ sh_401 (by decide) ?_
  refine g_if_ne (pc1 := 7) (tgt := 9) d_Mod_undo_4 (by decide) rfl (fun c1 => ?_) (fun c1 => ?_)
  · replace h := itn h c1
    refine g_aload_n (pc1 := 10) d_Mod_undo_9 rfl 0 rfl ?_
    refine g_dup (pc1 := 11) d_Mod_undo_10 rfl rfl ?_
    refine g_geti (pc1 := 14) d_Mod_undo_11 rfl ⟨_, fo_Mod_254⟩ sh_401 (by decide) ?_
    refine g_iconst (pc1 := 15) (v := 1) d_Mod_undo_14 rfl (by decide) ?_
    refine g_isub (pc1 := 16) d_Mod_undo_15 rfl ?_
    refine g_puti (pc1 := 19) d_Mod_undo_16 rfl fo_Mod_254 (po_12_57 _) sh_401 (by decide) ?_
    refine Wp.lM h (fun M2 h => ?_)
    refine g_iconst (pc1 := 20) (v := 0) d_Mod_undo_19 rfl (by decide) ?_
    refine g_istore_n (pc1 := 21) (lv' := [(0, .ref 401), (1, .int 0)]) d_Mod_undo_20 rfl rfl (by decide) [1, 0] rfl ?_
    exact h_Mod_undo_21 hld  hQ  _ 0 M2 h
  · replace h := itp h c1
    refine g_iconst (pc1 := 8) (v := 0) d_Mod_undo_7 rfl (by decide) ?_
    refine g_ireturn (Or.inr ⟨rfl, rfl⟩) d_Mod_undo_8 rfl ?_
    cases h; exact hQ

def J_Mod_wrong_46 (v1 : Int32) (v3 : Int32) (M : gM) : Option (gM) :=
  nmM (uM M 401 15 v1) (fun M5 => nmM (uM M5 401 16 v3) (fun M6 => some M6))
set_option maxHeartbeats 4000000 in
set_option maxRecDepth 20000 in
theorem j_Mod_wrong_46 {l : Launch} {ld : Nat} {Q : Option Value → gM → gL → gR → Prop} (hld : isLa ld)   {q : gM} {M : gM} {L : gL} (hQ : Q none q L (rf ld))  {v1 : Int32} {v3 : Int32}  (h : J_Mod_wrong_46 v1 v3 M = some q) : Wp l y_Mod_wrong (0, 0, 447) 447 0 0 46 [(0, .ref 401), (1, .int v1), (3, .int v3)] [] M L (rf ld) Q := by
  unfold J_Mod_wrong_46 at h
  refine g_aload_n (pc1 := 47) d_Mod_wrong_46 rfl 0 rfl ?_
  refine g_iload_n (pc1 := 48) d_Mod_wrong_47 rfl 1 rfl ?_
  refine g_puti (pc1 := 51) d_Mod_wrong_48 rfl fo_Mod_215 (po_12_15 _) sh_401 (by decide) ?_
  refine Wp.lM h (fun M5 h => ?_)
  refine g_aload_n (pc1 := 52) d_Mod_wrong_51 rfl 0 rfl ?_
  refine g_iload_n (pc1 := 53) d_Mod_wrong_52 rfl 2 rfl ?_
  refine g_puti (pc1 := 56) d_Mod_wrong_53 rfl fo_Mod_218 (po_12_16 _) sh_401 (by decide) ?_
  refine Wp.lM h (fun M6 h => ?_)
  refine g_return rfl d_Mod_wrong_56 rfl ?_
  cases h; exact hQ
def F_Mod_wrong (p1 : Int32) (p2 : Int32) (M : gM) : Option (gM) :=
  (if (p2 : Int32) < 0 ∨ 403 ≤ (p2 : Int32).toNatClampNeg then none else nmI (M 405 (p2 : Int32).toNatClampNeg) (fun x2 => (if 0 < (M 401 13) then some M else (if (M 401 15) = 0 then J_Mod_wrong_46 p1 x2 M else (if (M 401 16) < x2 then some M else (if x2 = (M 401 16) then (if p1 < (M 401 15) then J_Mod_wrong_46 p1 x2 M else some M) else J_Mod_wrong_46 p1 x2 M))))))
set_option maxHeartbeats 4000000 in
set_option maxRecDepth 20000 in
theorem f_Mod_wrong {l : Launch} {ld : Nat} {M : gM} {L : gL} {Q : Option Value → gM → gL → gR → Prop} (hld : isLa ld) {p1 : Int32} {p2 : Int32}  {q : gM} (h : F_Mod_wrong p1 p2 M = some q) (hQ : Q none q L (rf ld)) : Tm l y_Mod_wrong (0, 0, 447) 447 [.ref 401, .int p1, .int p2] M L (rf ld) Q := by
  refine Tm.of (by decide) (Nat.le_of_ble_eq_true rfl) ?_
  show Wp l y_Mod_wrong (0, 0, 447) 447 0 0 0 [(0, .ref 401), (1, .int p1), (2, .int p2)] [] M L (rf ld) Q
  unfold F_Mod_wrong at h
  refine g_aload_n (pc1 := 1) d_Mod_wrong_0 rfl 0 rfl ?_
  refine g_getr (pc1 := 4) d_Mod_wrong_1 rfl ⟨_, fo_Mod_24⟩ sh_401 (by decide) (rf_401_6 ld) ?_
  refine g_iload_n (pc1 := 5) d_Mod_wrong_4 rfl 2 rfl ?_
  obtain ⟨g1, h⟩ := gdn h
  refine g_iald (pc1 := 6) d_Mod_wrong_5 rfl sh_405 (by decide) g1 ?_
  refine Wp.lI h (fun x2 h => ?_)
  refine g_istore_n (pc1 := 7) (lv' := [(0, .ref 401), (1, .int p1), (2, .int p2), (3, .int x2)]) d_Mod_wrong_6 rfl rfl (by decide) [1, 2, 3, 0] rfl ?_
  refine g_aload_n (pc1 := 8) d_Mod_wrong_7 rfl 0 rfl ?_
  refine g_geti (pc1 := 11) d_Mod_wrong_8 rfl ⟨_, fo_Mod_206⟩ sh_401 (by decide) ?_
  refine g_if_gt (pc1 := 14) (tgt := 45) d_Mod_wrong_11 (by decide) rfl (fun c3 => ?_) (fun c3 => ?_)
  · replace h := itp h c3
    refine g_return rfl d_Mod_wrong_45 rfl ?_
    cases h; exact hQ
  · replace h := itn h c3
    refine g_aload_n (pc1 := 15) d_Mod_wrong_14 rfl 0 rfl ?_
    refine g_geti (pc1 := 18) d_Mod_wrong_15 rfl ⟨_, fo_Mod_215⟩ sh_401 (by decide) ?_
    refine g_if_eq (pc1 := 21) (tgt := 46) d_Mod_wrong_18 (by decide) rfl (fun c4 => ?_) (fun c4 => ?_)
    · replace h := itp h c4
      refine Wp.loc (lv' := [(0, .ref 401), (1, .int p1), (3, .int x2)]) [0, 1, 3] rfl ?_
      exact j_Mod_wrong_46 hld  hQ  h
    · replace h := itn h c4
      refine g_iload_n (pc1 := 22) d_Mod_wrong_21 rfl 3 rfl ?_
      refine g_aload_n (pc1 := 23) d_Mod_wrong_22 rfl 0 rfl ?_
      refine g_geti (pc1 := 26) d_Mod_wrong_23 rfl ⟨_, fo_Mod_218⟩ sh_401 (by decide) ?_
      refine g_icmp_gt (pc1 := 29) (tgt := 45) d_Mod_wrong_26 (by decide) rfl (fun c7 => ?_) (fun c7 => ?_)
      · replace h := itp h c7
        refine g_return rfl d_Mod_wrong_45 rfl ?_
        cases h; exact hQ
      · replace h := itn h c7
        refine g_iload_n (pc1 := 30) d_Mod_wrong_29 rfl 3 rfl ?_
        refine g_aload_n (pc1 := 31) d_Mod_wrong_30 rfl 0 rfl ?_
        refine g_geti (pc1 := 34) d_Mod_wrong_31 rfl ⟨_, fo_Mod_218⟩ sh_401 (by decide) ?_
        refine g_icmp_ne (pc1 := 37) (tgt := 46) d_Mod_wrong_34 (by decide) rfl (fun c8 => ?_) (fun c8 => ?_)
        · replace h := itn h c8
          refine Wp.loc (lv' := [(0, .ref 401), (1, .int p1), (3, .int x2)]) [0, 1, 3] rfl ?_
          exact j_Mod_wrong_46 hld  hQ  h
        · replace h := itp h c8
          refine g_iload_n (pc1 := 38) d_Mod_wrong_37 rfl 1 rfl ?_
          refine g_aload_n (pc1 := 39) d_Mod_wrong_38 rfl 0 rfl ?_
          refine g_geti (pc1 := 42) d_Mod_wrong_39 rfl ⟨_, fo_Mod_215⟩ sh_401 (by decide) ?_
          refine g_icmp_lt (pc1 := 45) (tgt := 46) d_Mod_wrong_42 (by decide) rfl (fun c9 => ?_) (fun c9 => ?_)
          · replace h := itp h c9
            refine Wp.loc (lv' := [(0, .ref 401), (1, .int p1), (3, .int x2)]) [0, 1, 3] rfl ?_
            exact j_Mod_wrong_46 hld  hQ  h
          · replace h := itn h c9
            refine g_return rfl d_Mod_wrong_45 rfl ?_
            cases h; exact hQ

def J_Mod_comesOut_84 (K0 : gM → Option (gM)) (v1 : Int32) (s1 : Int32) (M : gM) : Option (gM) :=
  bI (F_Mod_emit s1 0 M) (fun M11 => K0 M11)
set_option maxHeartbeats 4000000 in
set_option maxRecDepth 20000 in
theorem j_Mod_comesOut_84 {l : Launch} {ld : Nat} {Q : Option Value → gM → gL → gR → Prop} (hld : isLa ld)   {q : gM} {M : gM} {L : gL} (hQ : Q none q L (rf ld)) {K0 : gM → Option (gM)} {v1 : Int32} {s1 : Int32} (hK0 : ∀ (M : gM), K0 M = some q → Wp l y_Mod_comesOut (0, 0, 447) 447 0 0 0 [(0, .ref 401), (1, .int v1)] [] M L (rf ld) Q) (h : J_Mod_comesOut_84 K0 v1 s1 M = some q) : Wp l y_Mod_comesOut (0, 0, 447) 447 0 0 84 [(0, .ref 401), (1, .int v1)] [.int s1, .ref 401] M L (rf ld) Q := by
  unfold J_Mod_comesOut_84 at h
  refine g_iconst (pc1 := 85) (v := 0) d_Mod_comesOut_84 rfl (by decide) ?_
  refine g_callV0 (pc1 := 88) (As := [.int s1, .int 0]) (rest := []) d_Mod_comesOut_85 rfl mo_Mod_302 mi_Mod_emit mv_Mod_emit rfl sh_401 (by decide) (by decide) rfl rfl (Nat.le_of_ble_eq_true rfl) ?_
  obtain ⟨M11, hq10, h⟩ := bnd h
  refine f_Mod_emit hld  hq10 ?_
  dsimp only [psh]
  refine g_goto (tgt := 0) d_Mod_comesOut_88 (by decide) ?_
  exact hK0 M11 h
def J_Mod_comesOut_42 (K0 : gM → Option (gM)) (v1 : Int32) (v2 : Int32) (M : gM) : Option (gM) :=
  nmM (uM M 401 48 ((M 401 48) - 1)) (fun M6 => (if v2 = 8 then J_Mod_comesOut_84 K0 v1 2 M6 else (if v2 = 9 then J_Mod_comesOut_84 K0 v1 3 M6 else (if v2 = 10 then J_Mod_comesOut_84 K0 v1 4 M6 else J_Mod_comesOut_84 K0 v1 5 M6))))
set_option maxHeartbeats 4000000 in
set_option maxRecDepth 20000 in
theorem j_Mod_comesOut_42 {l : Launch} {ld : Nat} {Q : Option Value → gM → gL → gR → Prop} (hld : isLa ld)   {q : gM} {M : gM} {L : gL} (hQ : Q none q L (rf ld)) {K0 : gM → Option (gM)} {v1 : Int32} {v2 : Int32} (hK0 : ∀ (M : gM), K0 M = some q → Wp l y_Mod_comesOut (0, 0, 447) 447 0 0 0 [(0, .ref 401), (1, .int v1)] [] M L (rf ld) Q) (h : J_Mod_comesOut_42 K0 v1 v2 M = some q) : Wp l y_Mod_comesOut (0, 0, 447) 447 0 0 42 [(0, .ref 401), (1, .int v1), (2, .int v2)] [] M L (rf ld) Q := by
  unfold J_Mod_comesOut_42 at h
  refine g_aload_n (pc1 := 43) d_Mod_comesOut_42 rfl 0 rfl ?_
  refine g_dup (pc1 := 44) d_Mod_comesOut_43 rfl rfl ?_
  refine g_geti (pc1 := 47) d_Mod_comesOut_44 rfl ⟨_, fo_Mod_299⟩ sh_401 (by decide) ?_
  refine g_iconst (pc1 := 48) (v := 1) d_Mod_comesOut_47 rfl (by decide) ?_
  refine g_isub (pc1 := 49) d_Mod_comesOut_48 rfl ?_
  refine g_puti (pc1 := 52) d_Mod_comesOut_49 rfl fo_Mod_299 (po_12_48 _) sh_401 (by decide) ?_
  refine Wp.lM h (fun M6 h => ?_)
  refine g_aload_n (pc1 := 53) d_Mod_comesOut_52 rfl 0 rfl ?_
  refine g_iload_n (pc1 := 54) d_Mod_comesOut_53 rfl 2 rfl ?_
  refine g_bipush (pc1 := 56) (v := 8) d_Mod_comesOut_54 rfl (by decide) ?_
  refine g_icmp_ne (pc1 := 59) (tgt := 63) d_Mod_comesOut_56 (by decide) rfl (fun c7 => ?_) (fun c7 => ?_)
  · replace h := itn h c7
    refine g_iload_n (pc1 := 64) d_Mod_comesOut_63 rfl 2 rfl ?_
    refine g_bipush (pc1 := 66) (v := 9) d_Mod_comesOut_64 rfl (by decide) ?_
    refine g_icmp_ne (pc1 := 69) (tgt := 73) d_Mod_comesOut_66 (by decide) rfl (fun c8 => ?_) (fun c8 => ?_)
    · replace h := itn h c8
      refine g_iload_n (pc1 := 74) d_Mod_comesOut_73 rfl 2 rfl ?_
      refine g_bipush (pc1 := 76) (v := 10) d_Mod_comesOut_74 rfl (by decide) ?_
      refine g_icmp_ne (pc1 := 79) (tgt := 83) d_Mod_comesOut_76 (by decide) rfl (fun c9 => ?_) (fun c9 => ?_)
      · replace h := itn h c9
        refine g_iconst (pc1 := 84) (v := 5) d_Mod_comesOut_83 rfl (by decide) ?_
        refine Wp.loc (lv' := [(0, .ref 401), (1, .int v1)]) [0, 1] rfl ?_
        exact j_Mod_comesOut_84 hld  hQ hK0 h
      · replace h := itp h c9
        refine g_iconst (pc1 := 80) (v := 4) d_Mod_comesOut_79 rfl (by decide) ?_
        refine g_goto (tgt := 84) d_Mod_comesOut_80 (by decide) ?_
        refine Wp.loc (lv' := [(0, .ref 401), (1, .int v1)]) [0, 1] rfl ?_
        exact j_Mod_comesOut_84 hld  hQ hK0 h
    · replace h := itp h c8
      refine g_iconst (pc1 := 70) (v := 3) d_Mod_comesOut_69 rfl (by decide) ?_
      refine g_goto (tgt := 84) d_Mod_comesOut_70 (by decide) ?_
      refine Wp.loc (lv' := [(0, .ref 401), (1, .int v1)]) [0, 1] rfl ?_
      exact j_Mod_comesOut_84 hld  hQ hK0 h
  · replace h := itp h c7
    refine g_iconst (pc1 := 60) (v := 2) d_Mod_comesOut_59 rfl (by decide) ?_
    refine g_goto (tgt := 84) d_Mod_comesOut_60 (by decide) ?_
    refine Wp.loc (lv' := [(0, .ref 401), (1, .int v1)]) [0, 1] rfl ?_
    exact j_Mod_comesOut_84 hld  hQ hK0 h
def B_Mod_comesOut_0 (v1 : Int32) (K0 : gM → Option (gM)) : gM → Option (gM) := fun M =>
  (if (M 401 48) ≤ 0 then some M else (if (((M 401 48) - 1) : Int32) < 0 ∨ 64 ≤ (((M 401 48) - 1) : Int32).toNatClampNeg then none else nmI (M 433 (((M 401 48) - 1) : Int32).toNatClampNeg) (fun x3 => (if x3 = 6 then some M else (if v1 = 0 then J_Mod_comesOut_42 K0 v1 x3 M else (if x3 = 8 then some M else (if x3 = 9 then some M else J_Mod_comesOut_42 K0 v1 x3 M)))))))
def H_Mod_comesOut_0 (v1 : Int32) : Nat → gM → Option (gM) := lpK (B_Mod_comesOut_0 v1) (fun _ => none)
set_option maxHeartbeats 4000000 in
set_option maxRecDepth 20000 in
theorem h_Mod_comesOut_0 {l : Launch} {ld : Nat} {Q : Option Value → gM → gL → gR → Prop} (hld : isLa ld)   {q : gM} {L : gL} (hQ : Q none q L (rf ld))  {v1 : Int32}  : ∀ (f : Nat) (M : gM), H_Mod_comesOut_0 v1 f M = some q → Wp l y_Mod_comesOut (0, 0, 447) 447 0 0 0 [(0, .ref 401), (1, .int v1)] [] M L (rf ld) Q := by
  intro f
  induction f with
  | zero => intro M h; cases h
  | succ f hK0 =>
    intro M h
    replace h : B_Mod_comesOut_0 v1 (H_Mod_comesOut_0 v1 f) M = some q := h
    unfold B_Mod_comesOut_0 at h
    refine g_aload_n (pc1 := 1) d_Mod_comesOut_0 rfl 0 rfl ?_
    refine g_geti (pc1 := 4) d_Mod_comesOut_1 rfl ⟨_, fo_Mod_299⟩ sh_401 (by decide) ?_
    refine g_if_le (pc1 := 7) (tgt := 91) d_Mod_comesOut_4 (by decide) rfl (fun c1 => ?_) (fun c1 => ?_)
    · replace h := itp h c1
      refine g_return rfl d_Mod_comesOut_91 rfl ?_
      cases h; exact hQ
    · replace h := itn h c1
      refine g_aload_n (pc1 := 8) d_Mod_comesOut_7 rfl 0 rfl ?_
      refine g_getr (pc1 := 11) d_Mod_comesOut_8 rfl ⟨_, fo_Mod_113⟩ sh_401 (by decide) (rf_401_47 ld) ?_
      refine g_aload_n (pc1 := 12) d_Mod_comesOut_11 rfl 0 rfl ?_
      refine g_geti (pc1 := 15) d_Mod_comesOut_12 rfl ⟨_, fo_Mod_299⟩ sh_401 (by decide) ?_
      refine g_iconst (pc1 := 16) (v := 1) d_Mod_comesOut_15 rfl (by decide) ?_
      refine g_isub (pc1 := 17) d_Mod_comesOut_16 rfl ?_
      obtain ⟨g2, h⟩ := gdn h
      refine g_iald (pc1 := 18) d_Mod_comesOut_17 rfl sh_433 (by decide) g2 ?_
      refine Wp.lI h (fun x3 h => ?_)
      refine g_istore_n (pc1 := 19) (lv' := [(0, .ref 401), (1, .int v1), (2, .int x3)]) d_Mod_comesOut_18 rfl rfl (by decide) [1, 2, 0] rfl ?_
      refine g_iload_n (pc1 := 20) d_Mod_comesOut_19 rfl 2 rfl ?_
      refine g_bipush (pc1 := 22) (v := 6) d_Mod_comesOut_20 rfl (by decide) ?_
      refine g_icmp_eq (pc1 := 25) (tgt := 41) d_Mod_comesOut_22 (by decide) rfl (fun c4 => ?_) (fun c4 => ?_)
      · replace h := itp h c4
        refine g_return rfl d_Mod_comesOut_41 rfl ?_
        cases h; exact hQ
      · replace h := itn h c4
        refine g_iload_n (pc1 := 26) d_Mod_comesOut_25 rfl 1 rfl ?_
        refine g_if_eq (pc1 := 29) (tgt := 42) d_Mod_comesOut_26 (by decide) rfl (fun c5 => ?_) (fun c5 => ?_)
        · replace h := itp h c5
          exact j_Mod_comesOut_42 hld  hQ hK0 h
        · replace h := itn h c5
          refine g_iload_n (pc1 := 30) d_Mod_comesOut_29 rfl 2 rfl ?_
          refine g_bipush (pc1 := 32) (v := 8) d_Mod_comesOut_30 rfl (by decide) ?_
          refine g_icmp_eq (pc1 := 35) (tgt := 41) d_Mod_comesOut_32 (by decide) rfl (fun c12 => ?_) (fun c12 => ?_)
          · replace h := itp h c12
            refine g_return rfl d_Mod_comesOut_41 rfl ?_
            cases h; exact hQ
          · replace h := itn h c12
            refine g_iload_n (pc1 := 36) d_Mod_comesOut_35 rfl 2 rfl ?_
            refine g_bipush (pc1 := 38) (v := 9) d_Mod_comesOut_36 rfl (by decide) ?_
            refine g_icmp_ne (pc1 := 41) (tgt := 42) d_Mod_comesOut_38 (by decide) rfl (fun c13 => ?_) (fun c13 => ?_)
            · replace h := itn h c13
              exact j_Mod_comesOut_42 hld  hQ hK0 h
            · replace h := itp h c13
              refine g_return rfl d_Mod_comesOut_41 rfl ?_
              cases h; exact hQ
def F_Mod_comesOut (p1 : Int32) (M : gM) : Option (gM) :=
  H_Mod_comesOut_0 p1 FU M
set_option maxHeartbeats 4000000 in
set_option maxRecDepth 20000 in
theorem f_Mod_comesOut {l : Launch} {ld : Nat} {M : gM} {L : gL} {Q : Option Value → gM → gL → gR → Prop} (hld : isLa ld) {p1 : Int32}  {q : gM} (h : F_Mod_comesOut p1 M = some q) (hQ : Q none q L (rf ld)) : Tm l y_Mod_comesOut (0, 0, 447) 447 [.ref 401, .int p1] M L (rf ld) Q := by
  refine Tm.of (by decide) (Nat.le_of_ble_eq_true rfl) ?_
  show Wp l y_Mod_comesOut (0, 0, 447) 447 0 0 0 [(0, .ref 401), (1, .int p1)] [] M L (rf ld) Q
  unfold F_Mod_comesOut at h
  exact h_Mod_comesOut_0 hld  hQ  _ M h

def F_Mod_feed (p1 : Int32) (p2 : Int32) (p3 : Int32) (p4 : Int32) (p5 : Int32) (M : gM) : Option (Int32 × gM) :=
  (if ((M 401 2) + 20) ≤ 2000 then bI (F_Mod_put p1 M) (fun M3 => bI (F_Mod_put p2 M3) (fun M5 => bI (F_Mod_put p3 M5) (fun M7 => bI (F_Mod_put p4 M7) (fun M9 => bI (F_Mod_put p5 M9) (fun M11 => some ((M11 401 2), M11)))))) else some ((-1), M))
set_option maxHeartbeats 4000000 in
set_option maxRecDepth 20000 in
theorem f_Mod_feed {l : Launch} {ld : Nat} {M : gM} {L : gL} {Q : Option Value → gM → gL → gR → Prop} (hld : isLa ld) {p1 : Int32} {p2 : Int32} {p3 : Int32} {p4 : Int32} {p5 : Int32}  {q : Int32 × gM} (h : F_Mod_feed p1 p2 p3 p4 p5 M = some q) (hQ : Q (some (.int q.1)) q.2 L (rf ld)) : Tm l y_Mod_feed (0, 0, 447) 447 [.ref 401, .int p1, .int p2, .int p3, .int p4, .int p5] M L (rf ld) Q := by
  refine Tm.of (by decide) (Nat.le_of_ble_eq_true rfl) ?_
  show Wp l y_Mod_feed (0, 0, 447) 447 0 0 0 [(0, .ref 401), (1, .int p1), (2, .int p2), (3, .int p3), (4, .int p4), (5, .int p5)] [] M L (rf ld) Q
  unfold F_Mod_feed at h
  refine g_aload_n (pc1 := 1) d_Mod_feed_0 rfl 0 rfl ?_
  refine g_geti (pc1 := 4) d_Mod_feed_1 rfl ⟨_, fo_Mod_169⟩ sh_401 (by decide) ?_
  refine g_bipush (pc1 := 6) (v := 20) d_Mod_feed_4 rfl (by decide) ?_
  refine g_iadd (pc1 := 7) d_Mod_feed_6 rfl ?_
  refine g_sipush (pc1 := 10) (v := 2000) d_Mod_feed_7 rfl (by decide) ?_
  refine g_icmp_le (pc1 := 13) (tgt := 15) d_Mod_feed_10 (by decide) rfl (fun c1 => ?_) (fun c1 => ?_)
  · replace h := itp h c1
    refine g_aload_n (pc1 := 16) d_Mod_feed_15 rfl 0 rfl ?_
    refine g_iload_n (pc1 := 17) d_Mod_feed_16 rfl 1 rfl ?_
    refine g_callV0 (pc1 := 20) (As := [.int p1]) (rest := []) d_Mod_feed_17 rfl mo_Mod_172 mi_Mod_put mv_Mod_put rfl sh_401 (by decide) (by decide) rfl rfl (Nat.le_of_ble_eq_true rfl) ?_
    obtain ⟨M3, hq2, h⟩ := bnd h
    refine f_Mod_put hld  hq2 ?_
    dsimp only [psh]
    refine g_aload_n (pc1 := 21) d_Mod_feed_20 rfl 0 rfl ?_
    refine g_iload_n (pc1 := 22) d_Mod_feed_21 rfl 2 rfl ?_
    refine g_callV0 (pc1 := 25) (As := [.int p2]) (rest := []) d_Mod_feed_22 rfl mo_Mod_172 mi_Mod_put mv_Mod_put rfl sh_401 (by decide) (by decide) rfl rfl (Nat.le_of_ble_eq_true rfl) ?_
    obtain ⟨M5, hq4, h⟩ := bnd h
    refine f_Mod_put hld  hq4 ?_
    dsimp only [psh]
    refine g_aload_n (pc1 := 26) d_Mod_feed_25 rfl 0 rfl ?_
    refine g_iload_n (pc1 := 27) d_Mod_feed_26 rfl 3 rfl ?_
    refine g_callV0 (pc1 := 30) (As := [.int p3]) (rest := []) d_Mod_feed_27 rfl mo_Mod_172 mi_Mod_put mv_Mod_put rfl sh_401 (by decide) (by decide) rfl rfl (Nat.le_of_ble_eq_true rfl) ?_
    obtain ⟨M7, hq6, h⟩ := bnd h
    refine f_Mod_put hld  hq6 ?_
    dsimp only [psh]
    refine g_aload_n (pc1 := 31) d_Mod_feed_30 rfl 0 rfl ?_
    refine g_iload (pc1 := 33) d_Mod_feed_31 rfl 4 rfl ?_
    refine g_callV0 (pc1 := 36) (As := [.int p4]) (rest := []) d_Mod_feed_33 rfl mo_Mod_172 mi_Mod_put mv_Mod_put rfl sh_401 (by decide) (by decide) rfl rfl (Nat.le_of_ble_eq_true rfl) ?_
    obtain ⟨M9, hq8, h⟩ := bnd h
    refine f_Mod_put hld  hq8 ?_
    dsimp only [psh]
    refine g_aload_n (pc1 := 37) d_Mod_feed_36 rfl 0 rfl ?_
    refine g_iload (pc1 := 39) d_Mod_feed_37 rfl 5 rfl ?_
    refine g_callV0 (pc1 := 42) (As := [.int p5]) (rest := []) d_Mod_feed_39 rfl mo_Mod_172 mi_Mod_put mv_Mod_put rfl sh_401 (by decide) (by decide) rfl rfl (Nat.le_of_ble_eq_true rfl) ?_
    obtain ⟨M11, hq10, h⟩ := bnd h
    refine f_Mod_put hld  hq10 ?_
    dsimp only [psh]
    refine g_aload_n (pc1 := 43) d_Mod_feed_42 rfl 0 rfl ?_
    refine g_geti (pc1 := 46) d_Mod_feed_43 rfl ⟨_, fo_Mod_169⟩ sh_401 (by decide) ?_
    refine g_ireturn (Or.inl rfl) d_Mod_feed_46 rfl ?_
    cases h; exact hQ
  · replace h := itn h c1
    refine g_iconst (pc1 := 14) (v := (-1)) d_Mod_feed_13 rfl (by decide) ?_
    refine g_ireturn (Or.inl rfl) d_Mod_feed_14 rfl ?_
    cases h; exact hQ

def F_Mod_goesOn (M : gM) : Option (gM) :=
  (if (M 401 11) = 400 then bI (F_Mod_fail 2 M) (fun M4 => some M4) else nmM (uM M 401 11 ((M 401 11) + 1)) (fun M2 => some M2))
set_option maxHeartbeats 4000000 in
set_option maxRecDepth 20000 in
theorem f_Mod_goesOn {l : Launch} {ld : Nat} {M : gM} {L : gL} {Q : Option Value → gM → gL → gR → Prop} (hld : isLa ld)   {q : gM} (h : F_Mod_goesOn M = some q) (hQ : Q none q L (rf ld)) : Tm l y_Mod_goesOn (0, 0, 447) 447 [.ref 401] M L (rf ld) Q := by
  refine Tm.of (by decide) (Nat.le_of_ble_eq_true rfl) ?_
  show Wp l y_Mod_goesOn (0, 0, 447) 447 0 0 0 [(0, .ref 401)] [] M L (rf ld) Q
  unfold F_Mod_goesOn at h
  refine g_aload_n (pc1 := 1) d_Mod_goesOn_0 rfl 0 rfl ?_
  refine g_geti (pc1 := 4) d_Mod_goesOn_1 rfl ⟨_, fo_Mod_209⟩ sh_401 (by decide) ?_
  refine g_sipush (pc1 := 7) (v := 400) d_Mod_goesOn_4 rfl (by decide) ?_
  refine g_icmp_ne (pc1 := 10) (tgt := 18) d_Mod_goesOn_7 (by decide) rfl (fun c1 => ?_) (fun c1 => ?_)
  · replace h := itn h c1
    refine g_aload_n (pc1 := 19) d_Mod_goesOn_18 rfl 0 rfl ?_
    refine g_dup (pc1 := 20) d_Mod_goesOn_19 rfl rfl ?_
    refine g_geti (pc1 := 23) d_Mod_goesOn_20 rfl ⟨_, fo_Mod_209⟩ sh_401 (by decide) ?_
    refine g_iconst (pc1 := 24) (v := 1) d_Mod_goesOn_23 rfl (by decide) ?_
    refine g_iadd (pc1 := 25) d_Mod_goesOn_24 rfl ?_
    refine g_puti (pc1 := 28) d_Mod_goesOn_25 rfl fo_Mod_209 (po_12_11 _) sh_401 (by decide) ?_
    refine Wp.lM h (fun M2 h => ?_)
    refine g_return rfl d_Mod_goesOn_28 rfl ?_
    cases h; exact hQ
  · replace h := itp h c1
    refine g_aload_n (pc1 := 11) d_Mod_goesOn_10 rfl 0 rfl ?_
    refine g_iconst (pc1 := 12) (v := 2) d_Mod_goesOn_11 rfl (by decide) ?_
    refine g_callV0 (pc1 := 15) (As := [.int 2]) (rest := []) d_Mod_goesOn_12 rfl mo_Mod_221 mi_Mod_fail mv_Mod_fail rfl sh_401 (by decide) (by decide) rfl rfl (Nat.le_of_ble_eq_true rfl) ?_
    obtain ⟨M4, hq3, h⟩ := bnd h
    refine f_Mod_fail hld  hq3 ?_
    dsimp only [psh]
    refine g_goto (tgt := 28) d_Mod_goesOn_15 (by decide) ?_
    refine g_return rfl d_Mod_goesOn_28 rfl ?_
    cases h; exact hQ

def B_Mod_hold_20 (v1 : Int32) (K20 : Int32 → gM → Option (Int32 × gM)) : Int32 → gM → Option (Int32 × gM) := fun v2 M =>
  (if 38 ≤ v2 then some (1, M) else (if (v2 : Int32) < 0 ∨ 38 ≤ (v2 : Int32).toNatClampNeg then none else (if (((38 * v1) + v2) : Int32) < 0 ∨ 114 ≤ (((38 * v1) + v2) : Int32).toNatClampNeg then none else nmM (uM M 446 (((38 * v1) + v2) : Int32).toNatClampNeg (M 436 (v2 : Int32).toNatClampNeg)) (fun M9 => nmI (v2 + 1) (fun x10 => K20 x10 M9)))))
def H_Mod_hold_20 (v1 : Int32) : Nat → Int32 → gM → Option (Int32 × gM) := lpK (B_Mod_hold_20 v1) (fun _ _ => none)
set_option maxHeartbeats 4000000 in
set_option maxRecDepth 20000 in
theorem h_Mod_hold_20 {l : Launch} {ld : Nat} {Q : Option Value → gM → gL → gR → Prop} (hld : isLa ld)   {q : Int32 × gM} {L : gL} (hQ : Q (some (.int q.1)) q.2 L (rf ld))  {v1 : Int32}  : ∀ (f : Nat) (v2 : Int32) (M : gM), H_Mod_hold_20 v1 f v2 M = some q → Wp l y_Mod_hold (0, 0, 447) 447 0 0 20 [(0, .ref 401), (1, .int v1), (2, .int v2)] [] M L (rf ld) Q := by
  intro f
  induction f with
  | zero => intro v2 M h; cases h
  | succ f hK20 =>
    intro v2 M h
    replace h : B_Mod_hold_20 v1 (H_Mod_hold_20 v1 f) v2 M = some q := h
    unfold B_Mod_hold_20 at h
    refine g_iload_n (pc1 := 21) d_Mod_hold_20 rfl 2 rfl ?_
    refine g_bipush (pc1 := 23) (v := 38) d_Mod_hold_21 rfl (by decide) ?_
    refine g_icmp_ge (pc1 := 26) (tgt := 49) d_Mod_hold_23 (by decide) rfl (fun c6 => ?_) (fun c6 => ?_)
    · replace h := itp h c6
      refine g_iconst (pc1 := 50) (v := 1) d_Mod_hold_49 rfl (by decide) ?_
      refine g_ireturn (Or.inr ⟨rfl, rfl⟩) d_Mod_hold_50 rfl ?_
      cases h; exact hQ
    · replace h := itn h c6
      refine g_aload_n (pc1 := 27) d_Mod_hold_26 rfl 0 rfl ?_
      refine g_getr (pc1 := 30) d_Mod_hold_27 rfl ⟨_, fo_Mod_152⟩ sh_401 (by decide) (rf_401_70 ld) ?_
      refine g_bipush (pc1 := 32) (v := 38) d_Mod_hold_30 rfl (by decide) ?_
      refine g_iload_n (pc1 := 33) d_Mod_hold_32 rfl 1 rfl ?_
      refine g_imul (pc1 := 34) d_Mod_hold_33 rfl ?_
      refine g_iload_n (pc1 := 35) d_Mod_hold_34 rfl 2 rfl ?_
      refine g_iadd (pc1 := 36) d_Mod_hold_35 rfl ?_
      refine g_aload_n (pc1 := 37) d_Mod_hold_36 rfl 0 rfl ?_
      refine g_getr (pc1 := 40) d_Mod_hold_37 rfl ⟨_, fo_Mod_122⟩ sh_401 (by decide) (rf_401_52 ld) ?_
      refine g_iload_n (pc1 := 41) d_Mod_hold_40 rfl 2 rfl ?_
      obtain ⟨g7, h⟩ := gdn h
      refine g_iald (pc1 := 42) d_Mod_hold_41 rfl sh_436 (by decide) g7 ?_
      obtain ⟨g8, h⟩ := gdn h
      refine g_iast (pc1 := 43) d_Mod_hold_42 rfl sh_446 (by decide) g8 ?_
      refine Wp.lM h (fun M9 h => ?_)
      obtain ⟨x10, ex10, h⟩ := ltI h
      refine g_iinc (pc1 := 46) (v := x10) (lv' := [(0, .ref 401), (1, .int v1), (2, .int x10)]) d_Mod_hold_43 rfl 2 rfl (by rw [ex10]; rfl) (by decide) [1, 2, 0] rfl ?_
      refine g_goto (tgt := 20) d_Mod_hold_46 (by decide) ?_
      exact hK20 x10 M9 h
def F_Mod_hold (p1 : Int32) (M : gM) : Option (Int32 × gM) :=
  bI (F_Mod_in p1 0 2) (fun r2 => (if r2 = 0 then some (0, M) else (if (p1 : Int32) < 0 ∨ 3 ≤ (p1 : Int32).toNatClampNeg then none else nmM (uM M 445 (p1 : Int32).toNatClampNeg (vp_nar .boolean 1)) (fun M5 => H_Mod_hold_20 p1 FU 0 M5))))
set_option maxHeartbeats 4000000 in
set_option maxRecDepth 20000 in
theorem f_Mod_hold {l : Launch} {ld : Nat} {M : gM} {L : gL} {Q : Option Value → gM → gL → gR → Prop} (hld : isLa ld) {p1 : Int32}  {q : Int32 × gM} (h : F_Mod_hold p1 M = some q) (hQ : Q (some (.int q.1)) q.2 L (rf ld)) : Tm l y_Mod_hold (0, 0, 447) 447 [.ref 401, .int p1] M L (rf ld) Q := by
  refine Tm.of (by decide) (Nat.le_of_ble_eq_true rfl) ?_
  show Wp l y_Mod_hold (0, 0, 447) 447 0 0 0 [(0, .ref 401), (1, .int p1)] [] M L (rf ld) Q
  unfold F_Mod_hold at h
  refine g_iload_n (pc1 := 1) d_Mod_hold_0 rfl 1 rfl ?_
  refine g_iconst (pc1 := 2) (v := 0) d_Mod_hold_1 rfl (by decide) ?_
  refine g_iconst (pc1 := 3) (v := 2) d_Mod_hold_2 rfl (by decide) ?_
  refine g_callS0 (pc1 := 6) (As := [.int p1, .int 0, .int 2]) (rest := []) d_Mod_hold_3 rfl mo_Mod_316 ms_Mod_in (by decide) rfl rfl (Nat.le_of_ble_eq_true rfl) ?_
  obtain ⟨r2, hq1, h⟩ := bnd h
  refine f_Mod_in hld  hq1 ?_
  dsimp only [psh]
  refine g_if_ne (pc1 := 9) (tgt := 11) d_Mod_hold_6 (by decide) rfl (fun c3 => ?_) (fun c3 => ?_)
  · replace h := itn h c3
    refine g_aload_n (pc1 := 12) d_Mod_hold_11 rfl 0 rfl ?_
    refine g_getr (pc1 := 15) d_Mod_hold_12 rfl ⟨_, fo_Mod_149⟩ sh_401 (by decide) (rf_401_69 ld) ?_
    refine g_iload_n (pc1 := 16) d_Mod_hold_15 rfl 1 rfl ?_
    refine g_iconst (pc1 := 17) (v := 1) d_Mod_hold_16 rfl (by decide) ?_
    obtain ⟨g4, h⟩ := gdn h
    refine g_zast (pc1 := 18) d_Mod_hold_17 rfl sh_445 (by decide) g4 ?_
    refine Wp.lM h (fun M5 h => ?_)
    refine g_iconst (pc1 := 19) (v := 0) d_Mod_hold_18 rfl (by decide) ?_
    refine g_istore_n (pc1 := 20) (lv' := [(0, .ref 401), (1, .int p1), (2, .int 0)]) d_Mod_hold_19 rfl rfl (by decide) [1, 2, 0] rfl ?_
    exact h_Mod_hold_20 hld  hQ  _ 0 M5 h
  · replace h := itp h c3
    refine g_iconst (pc1 := 10) (v := 0) d_Mod_hold_9 rfl (by decide) ?_
    refine g_ireturn (Or.inr ⟨rfl, rfl⟩) d_Mod_hold_10 rfl ?_
    cases h; exact hQ

def F_Mod_isBetter (p1 : Int32) (M : gM) : Option (Int32) :=
  (if 0 ≤ (M 401 59) then bI (F_Mod_potPrice M) (fun r3 => (if r3 = (M 401 60) then bI (F_Mod_potMany M) (fun r6 => (if r6 = (M 401 61) then (if (M 401 62) ≤ p1 then some 0 else some 1) else bI (F_Mod_potMany M) (fun r10 => (if (M 401 61) ≤ r10 then some 0 else some 1)))) else bI (F_Mod_potPrice M) (fun r13 => (if (M 401 60) ≤ r13 then some 0 else some 1)))) else some 1)
set_option maxHeartbeats 4000000 in
set_option maxRecDepth 20000 in
theorem f_Mod_isBetter {l : Launch} {ld : Nat} {M : gM} {L : gL} {Q : Option Value → gM → gL → gR → Prop} (hld : isLa ld) {p1 : Int32}  {q : Int32} (h : F_Mod_isBetter p1 M = some q) (hQ : Q (some (.int q)) M L (rf ld)) : Tm l y_Mod_isBetter (0, 0, 447) 447 [.ref 401, .int p1] M L (rf ld) Q := by
  refine Tm.of (by decide) (Nat.le_of_ble_eq_true rfl) ?_
  show Wp l y_Mod_isBetter (0, 0, 447) 447 0 0 0 [(0, .ref 401), (1, .int p1)] [] M L (rf ld) Q
  unfold F_Mod_isBetter at h
  refine g_aload_n (pc1 := 1) d_Mod_isBetter_0 rfl 0 rfl ?_
  refine g_geti (pc1 := 4) d_Mod_isBetter_1 rfl ⟨_, fo_Mod_404⟩ sh_401 (by decide) ?_
  refine g_if_ge (pc1 := 7) (tgt := 9) d_Mod_isBetter_4 (by decide) rfl (fun c1 => ?_) (fun c1 => ?_)
  · replace h := itp h c1
    refine g_aload_n (pc1 := 10) d_Mod_isBetter_9 rfl 0 rfl ?_
    refine g_callV0 (pc1 := 13) (As := []) (rest := []) d_Mod_isBetter_10 rfl mo_Mod_362 mi_Mod_potPrice mv_Mod_potPrice rfl sh_401 (by decide) (by decide) rfl rfl (Nat.le_of_ble_eq_true rfl) ?_
    obtain ⟨r3, hq2, h⟩ := bnd h
    refine f_Mod_potPrice hld  hq2 ?_
    dsimp only [psh]
    refine g_aload_n (pc1 := 14) d_Mod_isBetter_13 rfl 0 rfl ?_
    refine g_geti (pc1 := 17) d_Mod_isBetter_14 rfl ⟨_, fo_Mod_407⟩ sh_401 (by decide) ?_
    refine g_icmp_eq (pc1 := 20) (tgt := 37) d_Mod_isBetter_17 (by decide) rfl (fun c4 => ?_) (fun c4 => ?_)
    · replace h := itp h c4
      refine g_aload_n (pc1 := 38) d_Mod_isBetter_37 rfl 0 rfl ?_
      refine g_callV0 (pc1 := 41) (As := []) (rest := []) d_Mod_isBetter_38 rfl mo_Mod_339 mi_Mod_potMany mv_Mod_potMany rfl sh_401 (by decide) (by decide) rfl rfl (Nat.le_of_ble_eq_true rfl) ?_
      obtain ⟨r6, hq5, h⟩ := bnd h
      refine f_Mod_potMany hld  hq5 ?_
      dsimp only [psh]
      refine g_aload_n (pc1 := 42) d_Mod_isBetter_41 rfl 0 rfl ?_
      refine g_geti (pc1 := 45) d_Mod_isBetter_42 rfl ⟨_, fo_Mod_410⟩ sh_401 (by decide) ?_
      refine g_icmp_eq (pc1 := 48) (tgt := 65) d_Mod_isBetter_45 (by decide) rfl (fun c7 => ?_) (fun c7 => ?_)
      · replace h := itp h c7
        refine g_iload_n (pc1 := 66) d_Mod_isBetter_65 rfl 1 rfl ?_
        refine g_aload_n (pc1 := 67) d_Mod_isBetter_66 rfl 0 rfl ?_
        refine g_geti (pc1 := 70) d_Mod_isBetter_67 rfl ⟨_, fo_Mod_413⟩ sh_401 (by decide) ?_
        refine g_icmp_ge (pc1 := 73) (tgt := 77) d_Mod_isBetter_70 (by decide) rfl (fun c8 => ?_) (fun c8 => ?_)
        · replace h := itp h c8
          refine g_iconst (pc1 := 78) (v := 0) d_Mod_isBetter_77 rfl (by decide) ?_
          refine g_ireturn (Or.inr ⟨rfl, rfl⟩) d_Mod_isBetter_78 rfl ?_
          cases h; exact hQ
        · replace h := itn h c8
          refine g_iconst (pc1 := 74) (v := 1) d_Mod_isBetter_73 rfl (by decide) ?_
          refine g_goto (tgt := 78) d_Mod_isBetter_74 (by decide) ?_
          refine g_ireturn (Or.inr ⟨rfl, rfl⟩) d_Mod_isBetter_78 rfl ?_
          cases h; exact hQ
      · replace h := itn h c7
        refine g_aload_n (pc1 := 49) d_Mod_isBetter_48 rfl 0 rfl ?_
        refine g_callV0 (pc1 := 52) (As := []) (rest := []) d_Mod_isBetter_49 rfl mo_Mod_339 mi_Mod_potMany mv_Mod_potMany rfl sh_401 (by decide) (by decide) rfl rfl (Nat.le_of_ble_eq_true rfl) ?_
        obtain ⟨r10, hq9, h⟩ := bnd h
        refine f_Mod_potMany hld  hq9 ?_
        dsimp only [psh]
        refine g_aload_n (pc1 := 53) d_Mod_isBetter_52 rfl 0 rfl ?_
        refine g_geti (pc1 := 56) d_Mod_isBetter_53 rfl ⟨_, fo_Mod_410⟩ sh_401 (by decide) ?_
        refine g_icmp_ge (pc1 := 59) (tgt := 63) d_Mod_isBetter_56 (by decide) rfl (fun c11 => ?_) (fun c11 => ?_)
        · replace h := itp h c11
          refine g_iconst (pc1 := 64) (v := 0) d_Mod_isBetter_63 rfl (by decide) ?_
          refine g_ireturn (Or.inr ⟨rfl, rfl⟩) d_Mod_isBetter_64 rfl ?_
          cases h; exact hQ
        · replace h := itn h c11
          refine g_iconst (pc1 := 60) (v := 1) d_Mod_isBetter_59 rfl (by decide) ?_
          refine g_goto (tgt := 64) d_Mod_isBetter_60 (by decide) ?_
          refine g_ireturn (Or.inr ⟨rfl, rfl⟩) d_Mod_isBetter_64 rfl ?_
          cases h; exact hQ
    · replace h := itn h c4
      refine g_aload_n (pc1 := 21) d_Mod_isBetter_20 rfl 0 rfl ?_
      refine g_callV0 (pc1 := 24) (As := []) (rest := []) d_Mod_isBetter_21 rfl mo_Mod_362 mi_Mod_potPrice mv_Mod_potPrice rfl sh_401 (by decide) (by decide) rfl rfl (Nat.le_of_ble_eq_true rfl) ?_
      obtain ⟨r13, hq12, h⟩ := bnd h
      refine f_Mod_potPrice hld  hq12 ?_
      dsimp only [psh]
      refine g_aload_n (pc1 := 25) d_Mod_isBetter_24 rfl 0 rfl ?_
      refine g_geti (pc1 := 28) d_Mod_isBetter_25 rfl ⟨_, fo_Mod_407⟩ sh_401 (by decide) ?_
      refine g_icmp_ge (pc1 := 31) (tgt := 35) d_Mod_isBetter_28 (by decide) rfl (fun c14 => ?_) (fun c14 => ?_)
      · replace h := itp h c14
        refine g_iconst (pc1 := 36) (v := 0) d_Mod_isBetter_35 rfl (by decide) ?_
        refine g_ireturn (Or.inr ⟨rfl, rfl⟩) d_Mod_isBetter_36 rfl ?_
        cases h; exact hQ
      · replace h := itn h c14
        refine g_iconst (pc1 := 32) (v := 1) d_Mod_isBetter_31 rfl (by decide) ?_
        refine g_goto (tgt := 36) d_Mod_isBetter_32 (by decide) ?_
        refine g_ireturn (Or.inr ⟨rfl, rfl⟩) d_Mod_isBetter_36 rfl ?_
        cases h; exact hQ
  · replace h := itn h c1
    refine g_iconst (pc1 := 8) (v := 1) d_Mod_isBetter_7 rfl (by decide) ?_
    refine g_ireturn (Or.inr ⟨rfl, rfl⟩) d_Mod_isBetter_8 rfl ?_
    cases h; exact hQ

def F_Mod_isDeed (p1 : Int32) (M : gM) : Option (Int32) :=
  (if ((M 401 18) : Int32) < 0 ∨ 2 ≤ ((M 401 18) : Int32).toNatClampNeg then none else bI (F_Mod_in p1 0 ((M 420 ((M 401 18) : Int32).toNatClampNeg) - 1)) (fun r3 => (if r3 = 0 ∨ r3 = 1 then some r3 else none)))
set_option maxHeartbeats 4000000 in
set_option maxRecDepth 20000 in
theorem f_Mod_isDeed {l : Launch} {ld : Nat} {M : gM} {L : gL} {Q : Option Value → gM → gL → gR → Prop} (hld : isLa ld) {p1 : Int32}  {q : Int32} (h : F_Mod_isDeed p1 M = some q) (hQ : Q (some (.int q)) M L (rf ld)) : Tm l y_Mod_isDeed (0, 0, 447) 447 [.ref 401, .int p1] M L (rf ld) Q := by
  refine Tm.of (by decide) (Nat.le_of_ble_eq_true rfl) ?_
  show Wp l y_Mod_isDeed (0, 0, 447) 447 0 0 0 [(0, .ref 401), (1, .int p1)] [] M L (rf ld) Q
  unfold F_Mod_isDeed at h
  refine g_iload_n (pc1 := 1) d_Mod_isDeed_0 rfl 1 rfl ?_
  refine g_iconst (pc1 := 2) (v := 0) d_Mod_isDeed_1 rfl (by decide) ?_
  refine g_aload_n (pc1 := 3) d_Mod_isDeed_2 rfl 0 rfl ?_
  refine g_getr (pc1 := 6) d_Mod_isDeed_3 rfl ⟨_, fo_Mod_73⟩ sh_401 (by decide) (rf_401_32 ld) ?_
  refine g_aload_n (pc1 := 7) d_Mod_isDeed_6 rfl 0 rfl ?_
  refine g_geti (pc1 := 10) d_Mod_isDeed_7 rfl ⟨_, fo_Mod_236⟩ sh_401 (by decide) ?_
  obtain ⟨g1, h⟩ := gdn h
  refine g_iald (pc1 := 11) d_Mod_isDeed_10 rfl sh_420 (by decide) g1 ?_
  refine g_iconst (pc1 := 12) (v := 1) d_Mod_isDeed_11 rfl (by decide) ?_
  refine g_isub (pc1 := 13) d_Mod_isDeed_12 rfl ?_
  refine g_callS0 (pc1 := 16) (As := [.int p1, .int 0, .int ((M 420 ((M 401 18) : Int32).toNatClampNeg) - 1)]) (rest := []) d_Mod_isDeed_13 rfl mo_Mod_316 ms_Mod_in (by decide) rfl rfl (Nat.le_of_ble_eq_true rfl) ?_
  obtain ⟨r3, hq2, h⟩ := bnd h
  refine f_Mod_in hld  hq2 ?_
  dsimp only [psh]
  obtain ⟨g4, h⟩ := gdp h
  refine g_ireturn (Or.inr ⟨rfl, nar01 g4⟩) d_Mod_isDeed_16 rfl ?_
  cases h; exact hQ

def F_Mod_isDish (p1 : Int32) (M : gM) : Option (Int32) :=
  (if ((M 401 18) : Int32) < 0 ∨ 2 ≤ ((M 401 18) : Int32).toNatClampNeg then none else bI (F_Mod_in p1 0 ((M 415 ((M 401 18) : Int32).toNatClampNeg) - 1)) (fun r3 => (if r3 = 0 ∨ r3 = 1 then some r3 else none)))
set_option maxHeartbeats 4000000 in
set_option maxRecDepth 20000 in
theorem f_Mod_isDish {l : Launch} {ld : Nat} {M : gM} {L : gL} {Q : Option Value → gM → gL → gR → Prop} (hld : isLa ld) {p1 : Int32}  {q : Int32} (h : F_Mod_isDish p1 M = some q) (hQ : Q (some (.int q)) M L (rf ld)) : Tm l y_Mod_isDish (0, 0, 447) 447 [.ref 401, .int p1] M L (rf ld) Q := by
  refine Tm.of (by decide) (Nat.le_of_ble_eq_true rfl) ?_
  show Wp l y_Mod_isDish (0, 0, 447) 447 0 0 0 [(0, .ref 401), (1, .int p1)] [] M L (rf ld) Q
  unfold F_Mod_isDish at h
  refine g_iload_n (pc1 := 1) d_Mod_isDish_0 rfl 1 rfl ?_
  refine g_iconst (pc1 := 2) (v := 0) d_Mod_isDish_1 rfl (by decide) ?_
  refine g_aload_n (pc1 := 3) d_Mod_isDish_2 rfl 0 rfl ?_
  refine g_getr (pc1 := 6) d_Mod_isDish_3 rfl ⟨_, fo_Mod_58⟩ sh_401 (by decide) (rf_401_27 ld) ?_
  refine g_aload_n (pc1 := 7) d_Mod_isDish_6 rfl 0 rfl ?_
  refine g_geti (pc1 := 10) d_Mod_isDish_7 rfl ⟨_, fo_Mod_236⟩ sh_401 (by decide) ?_
  obtain ⟨g1, h⟩ := gdn h
  refine g_iald (pc1 := 11) d_Mod_isDish_10 rfl sh_415 (by decide) g1 ?_
  refine g_iconst (pc1 := 12) (v := 1) d_Mod_isDish_11 rfl (by decide) ?_
  refine g_isub (pc1 := 13) d_Mod_isDish_12 rfl ?_
  refine g_callS0 (pc1 := 16) (As := [.int p1, .int 0, .int ((M 415 ((M 401 18) : Int32).toNatClampNeg) - 1)]) (rest := []) d_Mod_isDish_13 rfl mo_Mod_316 ms_Mod_in (by decide) rfl rfl (Nat.le_of_ble_eq_true rfl) ?_
  obtain ⟨r3, hq2, h⟩ := bnd h
  refine f_Mod_in hld  hq2 ?_
  dsimp only [psh]
  obtain ⟨g4, h⟩ := gdp h
  refine g_ireturn (Or.inr ⟨rfl, nar01 g4⟩) d_Mod_isDish_16 rfl ?_
  cases h; exact hQ

def F_Mod_isFood (p1 : Int32) (M : gM) : Option (Int32) :=
  (if ((M 401 18) : Int32) < 0 ∨ 2 ≤ ((M 401 18) : Int32).toNatClampNeg then none else bI (F_Mod_in p1 0 ((M 411 ((M 401 18) : Int32).toNatClampNeg) - 1)) (fun r3 => (if r3 = 0 ∨ r3 = 1 then some r3 else none)))
set_option maxHeartbeats 4000000 in
set_option maxRecDepth 20000 in
theorem f_Mod_isFood {l : Launch} {ld : Nat} {M : gM} {L : gL} {Q : Option Value → gM → gL → gR → Prop} (hld : isLa ld) {p1 : Int32}  {q : Int32} (h : F_Mod_isFood p1 M = some q) (hQ : Q (some (.int q)) M L (rf ld)) : Tm l y_Mod_isFood (0, 0, 447) 447 [.ref 401, .int p1] M L (rf ld) Q := by
  refine Tm.of (by decide) (Nat.le_of_ble_eq_true rfl) ?_
  show Wp l y_Mod_isFood (0, 0, 447) 447 0 0 0 [(0, .ref 401), (1, .int p1)] [] M L (rf ld) Q
  unfold F_Mod_isFood at h
  refine g_iload_n (pc1 := 1) d_Mod_isFood_0 rfl 1 rfl ?_
  refine g_iconst (pc1 := 2) (v := 0) d_Mod_isFood_1 rfl (by decide) ?_
  refine g_aload_n (pc1 := 3) d_Mod_isFood_2 rfl 0 rfl ?_
  refine g_getr (pc1 := 6) d_Mod_isFood_3 rfl ⟨_, fo_Mod_46⟩ sh_401 (by decide) (rf_401_23 ld) ?_
  refine g_aload_n (pc1 := 7) d_Mod_isFood_6 rfl 0 rfl ?_
  refine g_geti (pc1 := 10) d_Mod_isFood_7 rfl ⟨_, fo_Mod_236⟩ sh_401 (by decide) ?_
  obtain ⟨g1, h⟩ := gdn h
  refine g_iald (pc1 := 11) d_Mod_isFood_10 rfl sh_411 (by decide) g1 ?_
  refine g_iconst (pc1 := 12) (v := 1) d_Mod_isFood_11 rfl (by decide) ?_
  refine g_isub (pc1 := 13) d_Mod_isFood_12 rfl ?_
  refine g_callS0 (pc1 := 16) (As := [.int p1, .int 0, .int ((M 411 ((M 401 18) : Int32).toNatClampNeg) - 1)]) (rest := []) d_Mod_isFood_13 rfl mo_Mod_316 ms_Mod_in (by decide) rfl rfl (Nat.le_of_ble_eq_true rfl) ?_
  obtain ⟨r3, hq2, h⟩ := bnd h
  refine f_Mod_in hld  hq2 ?_
  dsimp only [psh]
  obtain ⟨g4, h⟩ := gdp h
  refine g_ireturn (Or.inr ⟨rfl, nar01 g4⟩) d_Mod_isFood_16 rfl ?_
  cases h; exact hQ

def F_Mod_isGuest (p1 : Int32) (M : gM) : Option (Int32) :=
  (if ((M 401 18) : Int32) < 0 ∨ 2 ≤ ((M 401 18) : Int32).toNatClampNeg then none else bI (F_Mod_in p1 0 ((M 418 ((M 401 18) : Int32).toNatClampNeg) - 1)) (fun r3 => (if r3 = 0 ∨ r3 = 1 then some r3 else none)))
set_option maxHeartbeats 4000000 in
set_option maxRecDepth 20000 in
theorem f_Mod_isGuest {l : Launch} {ld : Nat} {M : gM} {L : gL} {Q : Option Value → gM → gL → gR → Prop} (hld : isLa ld) {p1 : Int32}  {q : Int32} (h : F_Mod_isGuest p1 M = some q) (hQ : Q (some (.int q)) M L (rf ld)) : Tm l y_Mod_isGuest (0, 0, 447) 447 [.ref 401, .int p1] M L (rf ld) Q := by
  refine Tm.of (by decide) (Nat.le_of_ble_eq_true rfl) ?_
  show Wp l y_Mod_isGuest (0, 0, 447) 447 0 0 0 [(0, .ref 401), (1, .int p1)] [] M L (rf ld) Q
  unfold F_Mod_isGuest at h
  refine g_iload_n (pc1 := 1) d_Mod_isGuest_0 rfl 1 rfl ?_
  refine g_iconst (pc1 := 2) (v := 0) d_Mod_isGuest_1 rfl (by decide) ?_
  refine g_aload_n (pc1 := 3) d_Mod_isGuest_2 rfl 0 rfl ?_
  refine g_getr (pc1 := 6) d_Mod_isGuest_3 rfl ⟨_, fo_Mod_67⟩ sh_401 (by decide) (rf_401_30 ld) ?_
  refine g_aload_n (pc1 := 7) d_Mod_isGuest_6 rfl 0 rfl ?_
  refine g_geti (pc1 := 10) d_Mod_isGuest_7 rfl ⟨_, fo_Mod_236⟩ sh_401 (by decide) ?_
  obtain ⟨g1, h⟩ := gdn h
  refine g_iald (pc1 := 11) d_Mod_isGuest_10 rfl sh_418 (by decide) g1 ?_
  refine g_iconst (pc1 := 12) (v := 1) d_Mod_isGuest_11 rfl (by decide) ?_
  refine g_isub (pc1 := 13) d_Mod_isGuest_12 rfl ?_
  refine g_callS0 (pc1 := 16) (As := [.int p1, .int 0, .int ((M 418 ((M 401 18) : Int32).toNatClampNeg) - 1)]) (rest := []) d_Mod_isGuest_13 rfl mo_Mod_316 ms_Mod_in (by decide) rfl rfl (Nat.le_of_ble_eq_true rfl) ?_
  obtain ⟨r3, hq2, h⟩ := bnd h
  refine f_Mod_in hld  hq2 ?_
  dsimp only [psh]
  obtain ⟨g4, h⟩ := gdp h
  refine g_ireturn (Or.inr ⟨rfl, nar01 g4⟩) d_Mod_isGuest_16 rfl ?_
  cases h; exact hQ

def B_Mod_isInStore_7 (M : gM) (K7 : Int32 → Option (Int32 × gM)) : Int32 → Option (Int32 × gM) := fun v2 =>
  (if ((M 401 18) : Int32) < 0 ∨ 2 ≤ ((M 401 18) : Int32).toNatClampNeg then none else (if (M 411 ((M 401 18) : Int32).toNatClampNeg) ≤ v2 then some (1, M) else (if (v2 : Int32) < 0 ∨ 6 ≤ (v2 : Int32).toNatClampNeg then none else (if (v2 : Int32) < 0 ∨ 38 ≤ (v2 : Int32).toNatClampNeg then none else (if (M 438 (v2 : Int32).toNatClampNeg) ≤ (M 437 (v2 : Int32).toNatClampNeg) then nmI (v2 + 1) (fun x8 => K7 x8) else some (0, M))))))
def H_Mod_isInStore_7 (M : gM) : Nat → Int32 → Option (Int32 × gM) := lpK (B_Mod_isInStore_7 M) (fun _ => none)
set_option maxHeartbeats 4000000 in
set_option maxRecDepth 20000 in
theorem h_Mod_isInStore_7 {l : Launch} {ld : Nat} {Q : Option Value → gM → gL → gR → Prop} (hld : isLa ld)   {q : Int32 × gM} {M : gM} {L : gL} (hQ : Q (some (.int q.1)) q.2 L (rf ld))    : ∀ (f : Nat) (v2 : Int32), H_Mod_isInStore_7 M f v2 = some q → Wp l y_Mod_isInStore (0, 0, 447) 447 0 0 7 [(0, .ref 401), (2, .int v2)] [] M L (rf ld) Q := by
  intro f
  induction f with
  | zero => intro v2 h; cases h
  | succ f hK7 =>
    intro v2 h
    replace h : B_Mod_isInStore_7 M (H_Mod_isInStore_7 M f) v2 = some q := h
    unfold B_Mod_isInStore_7 at h
    refine g_iload_n (pc1 := 8) d_Mod_isInStore_7 rfl 1 rfl ?_
    refine g_aload_n (pc1 := 9) d_Mod_isInStore_8 rfl 0 rfl ?_
    refine g_getr (pc1 := 12) d_Mod_isInStore_9 rfl ⟨_, fo_Mod_46⟩ sh_401 (by decide) (rf_401_23 ld) ?_
    refine g_aload_n (pc1 := 13) d_Mod_isInStore_12 rfl 0 rfl ?_
    refine g_geti (pc1 := 16) d_Mod_isInStore_13 rfl ⟨_, fo_Mod_236⟩ sh_401 (by decide) ?_
    obtain ⟨g3, h⟩ := gdn h
    refine g_iald (pc1 := 17) d_Mod_isInStore_16 rfl sh_411 (by decide) g3 ?_
    refine g_icmp_ge (pc1 := 20) (tgt := 43) d_Mod_isInStore_17 (by decide) rfl (fun c4 => ?_) (fun c4 => ?_)
    · replace h := itp h c4
      refine g_iconst (pc1 := 44) (v := 1) d_Mod_isInStore_43 rfl (by decide) ?_
      refine g_ireturn (Or.inr ⟨rfl, rfl⟩) d_Mod_isInStore_44 rfl ?_
      cases h; exact hQ
    · replace h := itn h c4
      refine g_aload_n (pc1 := 21) d_Mod_isInStore_20 rfl 0 rfl ?_
      refine g_getr (pc1 := 24) d_Mod_isInStore_21 rfl ⟨_, fo_Mod_128⟩ sh_401 (by decide) (rf_401_55 ld) ?_
      refine g_iload_n (pc1 := 25) d_Mod_isInStore_24 rfl 1 rfl ?_
      obtain ⟨g5, h⟩ := gdn h
      refine g_iald (pc1 := 26) d_Mod_isInStore_25 rfl sh_438 (by decide) g5 ?_
      refine g_aload_n (pc1 := 27) d_Mod_isInStore_26 rfl 0 rfl ?_
      refine g_getr (pc1 := 30) d_Mod_isInStore_27 rfl ⟨_, fo_Mod_125⟩ sh_401 (by decide) (rf_401_53 ld) ?_
      refine g_iload_n (pc1 := 31) d_Mod_isInStore_30 rfl 1 rfl ?_
      obtain ⟨g6, h⟩ := gdn h
      refine g_iald (pc1 := 32) d_Mod_isInStore_31 rfl sh_437 (by decide) g6 ?_
      refine g_icmp_le (pc1 := 35) (tgt := 37) d_Mod_isInStore_32 (by decide) rfl (fun c7 => ?_) (fun c7 => ?_)
      · replace h := itp h c7
        obtain ⟨x8, ex8, h⟩ := ltI h
        refine g_iinc (pc1 := 40) (v := x8) (lv' := [(0, .ref 401), (2, .int x8)]) d_Mod_isInStore_37 rfl 1 rfl (by rw [ex8]; rfl) (by decide) [1, 0] rfl ?_
        refine g_goto (tgt := 7) d_Mod_isInStore_40 (by decide) ?_
        exact hK7 x8 h
      · replace h := itn h c7
        refine g_iconst (pc1 := 36) (v := 0) d_Mod_isInStore_35 rfl (by decide) ?_
        refine g_ireturn (Or.inr ⟨rfl, rfl⟩) d_Mod_isInStore_36 rfl ?_
        cases h; exact hQ
def F_Mod_isInStore (p1 : Int32) (M : gM) : Option (Int32 × gM) :=
  bI (F_Mod_fillsPot p1 M) (fun M2 => H_Mod_isInStore_7 M2 FU 0)
set_option maxHeartbeats 4000000 in
set_option maxRecDepth 20000 in
theorem f_Mod_isInStore {l : Launch} {ld : Nat} {M : gM} {L : gL} {Q : Option Value → gM → gL → gR → Prop} (hld : isLa ld) {p1 : Int32}  {q : Int32 × gM} (h : F_Mod_isInStore p1 M = some q) (hQ : Q (some (.int q.1)) q.2 L (rf ld)) : Tm l y_Mod_isInStore (0, 0, 447) 447 [.ref 401, .int p1] M L (rf ld) Q := by
  refine Tm.of (by decide) (Nat.le_of_ble_eq_true rfl) ?_
  show Wp l y_Mod_isInStore (0, 0, 447) 447 0 0 0 [(0, .ref 401), (1, .int p1)] [] M L (rf ld) Q
  unfold F_Mod_isInStore at h
  refine g_aload_n (pc1 := 1) d_Mod_isInStore_0 rfl 0 rfl ?_
  refine g_iload_n (pc1 := 2) d_Mod_isInStore_1 rfl 1 rfl ?_
  refine g_callV0 (pc1 := 5) (As := [.int p1]) (rest := []) d_Mod_isInStore_2 rfl mo_Mod_356 mi_Mod_fillsPot mv_Mod_fillsPot rfl sh_401 (by decide) (by decide) rfl rfl (Nat.le_of_ble_eq_true rfl) ?_
  obtain ⟨M2, hq1, h⟩ := bnd h
  refine f_Mod_fillsPot hld  hq1 ?_
  dsimp only [psh]
  refine g_iconst (pc1 := 6) (v := 0) d_Mod_isInStore_5 rfl (by decide) ?_
  refine g_istore_n (pc1 := 7) (lv' := [(0, .ref 401), (1, .int p1), (2, .int 0)]) d_Mod_isInStore_6 rfl rfl (by decide) [1, 2, 0] rfl ?_
  refine Wp.loc (lv' := [(0, .ref 401), (2, .int 0)]) [0, 2] rfl ?_
  exact h_Mod_isInStore_7 hld  hQ  _ 0 h

def F_Mod_isLong (p1 : Int32) : Option (Int32) :=
  bI (F_Mod_in p1 0 60) (fun r2 => (if r2 = 0 ∨ r2 = 1 then some r2 else none))
set_option maxHeartbeats 4000000 in
set_option maxRecDepth 20000 in
theorem f_Mod_isLong {l : Launch} {ld : Nat} {M : gM} {L : gL} {Q : Option Value → gM → gL → gR → Prop} (hld : isLa ld) {p1 : Int32}  {q : Int32} (h : F_Mod_isLong p1 = some q) (hQ : Q (some (.int q)) M L (rf ld)) : Tm l y_Mod_isLong (0, 0, 447) 447 [.int p1] M L (rf ld) Q := by
  refine Tm.of (by decide) (Nat.le_of_ble_eq_true rfl) ?_
  show Wp l y_Mod_isLong (0, 0, 447) 447 0 0 0 [(0, .int p1)] [] M L (rf ld) Q
  unfold F_Mod_isLong at h
  refine g_iload_n (pc1 := 1) d_Mod_isLong_0 rfl 0 rfl ?_
  refine g_iconst (pc1 := 2) (v := 0) d_Mod_isLong_1 rfl (by decide) ?_
  refine g_bipush (pc1 := 4) (v := 60) d_Mod_isLong_2 rfl (by decide) ?_
  refine g_callS0 (pc1 := 7) (As := [.int p1, .int 0, .int 60]) (rest := []) d_Mod_isLong_4 rfl mo_Mod_316 ms_Mod_in (by decide) rfl rfl (Nat.le_of_ble_eq_true rfl) ?_
  obtain ⟨r2, hq1, h⟩ := bnd h
  refine f_Mod_in hld  hq1 ?_
  dsimp only [psh]
  obtain ⟨g3, h⟩ := gdp h
  refine g_ireturn (Or.inr ⟨rfl, nar01 g3⟩) d_Mod_isLong_7 rfl ?_
  cases h; exact hQ
end MG5x0
section MG5x1
def J_Mod_isPot_70 (M : gM) : Option (Int32 × gM) :=
  bI (F_Mod_potMany M) (fun r3 => bI (F_Mod_in r3 1 6) (fun r5 => (if r5 = 0 ∨ r5 = 1 then some (r5, M) else none)))
set_option maxHeartbeats 4000000 in
set_option maxRecDepth 20000 in
theorem j_Mod_isPot_70 {l : Launch} {ld : Nat} {Q : Option Value → gM → gL → gR → Prop} (hld : isLa ld)   {q : Int32 × gM} {M : gM} {L : gL} (hQ : Q (some (.int q.1)) q.2 L (rf ld))    (h : J_Mod_isPot_70 M = some q) : Wp l y_Mod_isPot (0, 0, 447) 447 0 0 70 [(0, .ref 401)] [] M L (rf ld) Q := by
  unfold J_Mod_isPot_70 at h
  refine g_aload_n (pc1 := 71) d_Mod_isPot_70 rfl 0 rfl ?_
  refine g_callV0 (pc1 := 74) (As := []) (rest := []) d_Mod_isPot_71 rfl mo_Mod_339 mi_Mod_potMany mv_Mod_potMany rfl sh_401 (by decide) (by decide) rfl rfl (Nat.le_of_ble_eq_true rfl) ?_
  obtain ⟨r3, hq2, h⟩ := bnd h
  refine f_Mod_potMany hld  hq2 ?_
  dsimp only [psh]
  refine g_iconst (pc1 := 75) (v := 1) d_Mod_isPot_74 rfl (by decide) ?_
  refine g_bipush (pc1 := 77) (v := 6) d_Mod_isPot_75 rfl (by decide) ?_
  refine g_callS0 (pc1 := 80) (As := [.int r3, .int 1, .int 6]) (rest := []) d_Mod_isPot_77 rfl mo_Mod_316 ms_Mod_in (by decide) rfl rfl (Nat.le_of_ble_eq_true rfl) ?_
  obtain ⟨r5, hq4, h⟩ := bnd h
  refine f_Mod_in hld  hq4 ?_
  dsimp only [psh]
  obtain ⟨g6, h⟩ := gdp h
  refine g_ireturn (Or.inr ⟨rfl, nar01 g6⟩) d_Mod_isPot_80 rfl ?_
  cases h; exact hQ
def J_Mod_isPot_64 (K2 : Int32 → gM → Option (Int32 × gM)) (v1 : Int32) (v2 : Int32) (M : gM) : Option (Int32 × gM) :=
  nmI (v2 + 1) (fun x14 => K2 x14 M)
set_option maxHeartbeats 4000000 in
set_option maxRecDepth 20000 in
theorem j_Mod_isPot_64 {l : Launch} {ld : Nat} {Q : Option Value → gM → gL → gR → Prop} (hld : isLa ld)   {q : Int32 × gM} {M : gM} {L : gL} (hQ : Q (some (.int q.1)) q.2 L (rf ld)) {K2 : Int32 → gM → Option (Int32 × gM)} {v1 : Int32} {v2 : Int32} (hK2 : ∀ (w2 : Int32) (M : gM), K2 w2 M = some q → Wp l y_Mod_isPot (0, 0, 447) 447 0 0 2 [(0, .ref 401), (1, .int v1), (2, .int w2)] [] M L (rf ld) Q) (h : J_Mod_isPot_64 K2 v1 v2 M = some q) : Wp l y_Mod_isPot (0, 0, 447) 447 0 0 64 [(0, .ref 401), (1, .int v1), (2, .int v2)] [] M L (rf ld) Q := by
  unfold J_Mod_isPot_64 at h
  obtain ⟨x14, ex14, h⟩ := ltI h
  refine g_iinc (pc1 := 67) (v := x14) (lv' := [(0, .ref 401), (1, .int v1), (2, .int x14)]) d_Mod_isPot_64 rfl 2 rfl (by rw [ex14]; rfl) (by decide) [1, 2, 0] rfl ?_
  refine g_goto (tgt := 2) d_Mod_isPot_67 (by decide) ?_
  exact hK2 x14 M h
def B_Mod_isPot_2 (v1 : Int32) (K2 : Int32 → gM → Option (Int32 × gM)) : Int32 → gM → Option (Int32 × gM) := fun v2 M =>
  (if 6 ≤ v2 then J_Mod_isPot_70 M else bI (F_Mod_sevens (5 - v2)) (fun r8 => (if r8 = 0 then none else (if (v2 : Int32) < 0 ∨ 6 ≤ (v2 : Int32).toNatClampNeg then none else nmM (uM M 438 (v2 : Int32).toNatClampNeg ((v1 / r8) - (v1 / r8) / 7 * 7)) (fun M11 => (if (v2 : Int32) < 0 ∨ 6 ≤ (v2 : Int32).toNatClampNeg then none else (if (M11 438 (v2 : Int32).toNatClampNeg) ≤ 0 then J_Mod_isPot_64 K2 v1 v2 M11 else (if ((M11 401 18) : Int32) < 0 ∨ 2 ≤ ((M11 401 18) : Int32).toNatClampNeg then none else (if (M11 411 ((M11 401 18) : Int32).toNatClampNeg) ≤ v2 then some (0, M11) else (if (v2 : Int32) < 0 ∨ 6 ≤ (v2 : Int32).toNatClampNeg then none else (if (v2 : Int32) < 0 ∨ 38 ≤ (v2 : Int32).toNatClampNeg then none else (if (M11 438 (v2 : Int32).toNatClampNeg) ≤ (M11 437 (v2 : Int32).toNatClampNeg) then J_Mod_isPot_64 K2 v1 v2 M11 else some (0, M11)))))))))))))
def H_Mod_isPot_2 (v1 : Int32) : Nat → Int32 → gM → Option (Int32 × gM) := lpK (B_Mod_isPot_2 v1) (fun _ _ => none)
set_option maxHeartbeats 4000000 in
set_option maxRecDepth 20000 in
theorem h_Mod_isPot_2 {l : Launch} {ld : Nat} {Q : Option Value → gM → gL → gR → Prop} (hld : isLa ld)   {q : Int32 × gM} {L : gL} (hQ : Q (some (.int q.1)) q.2 L (rf ld))  {v1 : Int32}  : ∀ (f : Nat) (v2 : Int32) (M : gM), H_Mod_isPot_2 v1 f v2 M = some q → Wp l y_Mod_isPot (0, 0, 447) 447 0 0 2 [(0, .ref 401), (1, .int v1), (2, .int v2)] [] M L (rf ld) Q := by
  intro f
  induction f with
  | zero => intro v2 M h; cases h
  | succ f hK2 =>
    intro v2 M h
    replace h : B_Mod_isPot_2 v1 (H_Mod_isPot_2 v1 f) v2 M = some q := h
    unfold B_Mod_isPot_2 at h
    refine g_iload_n (pc1 := 3) d_Mod_isPot_2 rfl 2 rfl ?_
    refine g_bipush (pc1 := 5) (v := 6) d_Mod_isPot_3 rfl (by decide) ?_
    refine g_icmp_ge (pc1 := 8) (tgt := 70) d_Mod_isPot_5 (by decide) rfl (fun c1 => ?_) (fun c1 => ?_)
    · replace h := itp h c1
      refine Wp.loc (lv' := [(0, .ref 401)]) [0] rfl ?_
      exact j_Mod_isPot_70 hld  hQ  h
    · replace h := itn h c1
      refine g_aload_n (pc1 := 9) d_Mod_isPot_8 rfl 0 rfl ?_
      refine g_getr (pc1 := 12) d_Mod_isPot_9 rfl ⟨_, fo_Mod_128⟩ sh_401 (by decide) (rf_401_55 ld) ?_
      refine g_iload_n (pc1 := 13) d_Mod_isPot_12 rfl 2 rfl ?_
      refine g_iload_n (pc1 := 14) d_Mod_isPot_13 rfl 1 rfl ?_
      refine g_iconst (pc1 := 15) (v := 5) d_Mod_isPot_14 rfl (by decide) ?_
      refine g_iload_n (pc1 := 16) d_Mod_isPot_15 rfl 2 rfl ?_
      refine g_isub (pc1 := 17) d_Mod_isPot_16 rfl ?_
      refine g_callS0 (pc1 := 20) (As := [.int (5 - v2)]) (rest := [.int v1, .int v2, .ref 438]) d_Mod_isPot_17 rfl mo_Mod_401 ms_Mod_sevens (by decide) rfl rfl (Nat.le_of_ble_eq_true rfl) ?_
      obtain ⟨r8, hq7, h⟩ := bnd h
      refine f_Mod_sevens hld  hq7 ?_
      dsimp only [psh]
      obtain ⟨g9, h⟩ := gdn h
      refine g_idiv (pc1 := 21) d_Mod_isPot_20 rfl g9 ?_
      refine g_bipush (pc1 := 23) (v := 7) d_Mod_isPot_21 rfl (by decide) ?_
      refine g_irem (pc1 := 24) d_Mod_isPot_23 rfl (by decide) ?_
      obtain ⟨g10, h⟩ := gdn h
      refine g_iast (pc1 := 25) d_Mod_isPot_24 rfl sh_438 (by decide) g10 ?_
      refine Wp.lM h (fun M11 h => ?_)
      refine g_aload_n (pc1 := 26) d_Mod_isPot_25 rfl 0 rfl ?_
      refine g_getr (pc1 := 29) d_Mod_isPot_26 rfl ⟨_, fo_Mod_128⟩ sh_401 (by decide) (rf_401_55 ld) ?_
      refine g_iload_n (pc1 := 30) d_Mod_isPot_29 rfl 2 rfl ?_
      obtain ⟨g12, h⟩ := gdn h
      refine g_iald (pc1 := 31) d_Mod_isPot_30 rfl sh_438 (by decide) g12 ?_
      refine g_if_le (pc1 := 34) (tgt := 64) d_Mod_isPot_31 (by decide) rfl (fun c13 => ?_) (fun c13 => ?_)
      · replace h := itp h c13
        exact j_Mod_isPot_64 hld  hQ hK2 h
      · replace h := itn h c13
        refine g_iload_n (pc1 := 35) d_Mod_isPot_34 rfl 2 rfl ?_
        refine g_aload_n (pc1 := 36) d_Mod_isPot_35 rfl 0 rfl ?_
        refine g_getr (pc1 := 39) d_Mod_isPot_36 rfl ⟨_, fo_Mod_46⟩ sh_401 (by decide) (rf_401_23 ld) ?_
        refine g_aload_n (pc1 := 40) d_Mod_isPot_39 rfl 0 rfl ?_
        refine g_geti (pc1 := 43) d_Mod_isPot_40 rfl ⟨_, fo_Mod_236⟩ sh_401 (by decide) ?_
        obtain ⟨g15, h⟩ := gdn h
        refine g_iald (pc1 := 44) d_Mod_isPot_43 rfl sh_411 (by decide) g15 ?_
        refine g_icmp_ge (pc1 := 47) (tgt := 62) d_Mod_isPot_44 (by decide) rfl (fun c16 => ?_) (fun c16 => ?_)
        · replace h := itp h c16
          refine g_iconst (pc1 := 63) (v := 0) d_Mod_isPot_62 rfl (by decide) ?_
          refine g_ireturn (Or.inr ⟨rfl, rfl⟩) d_Mod_isPot_63 rfl ?_
          cases h; exact hQ
        · replace h := itn h c16
          refine g_aload_n (pc1 := 48) d_Mod_isPot_47 rfl 0 rfl ?_
          refine g_getr (pc1 := 51) d_Mod_isPot_48 rfl ⟨_, fo_Mod_128⟩ sh_401 (by decide) (rf_401_55 ld) ?_
          refine g_iload_n (pc1 := 52) d_Mod_isPot_51 rfl 2 rfl ?_
          obtain ⟨g17, h⟩ := gdn h
          refine g_iald (pc1 := 53) d_Mod_isPot_52 rfl sh_438 (by decide) g17 ?_
          refine g_aload_n (pc1 := 54) d_Mod_isPot_53 rfl 0 rfl ?_
          refine g_getr (pc1 := 57) d_Mod_isPot_54 rfl ⟨_, fo_Mod_125⟩ sh_401 (by decide) (rf_401_53 ld) ?_
          refine g_iload_n (pc1 := 58) d_Mod_isPot_57 rfl 2 rfl ?_
          obtain ⟨g18, h⟩ := gdn h
          refine g_iald (pc1 := 59) d_Mod_isPot_58 rfl sh_437 (by decide) g18 ?_
          refine g_icmp_le (pc1 := 62) (tgt := 64) d_Mod_isPot_59 (by decide) rfl (fun c19 => ?_) (fun c19 => ?_)
          · replace h := itp h c19
            exact j_Mod_isPot_64 hld  hQ hK2 h
          · replace h := itn h c19
            refine g_iconst (pc1 := 63) (v := 0) d_Mod_isPot_62 rfl (by decide) ?_
            refine g_ireturn (Or.inr ⟨rfl, rfl⟩) d_Mod_isPot_63 rfl ?_
            cases h; exact hQ
def F_Mod_isPot (p1 : Int32) (M : gM) : Option (Int32 × gM) :=
  H_Mod_isPot_2 p1 FU 0 M
set_option maxHeartbeats 4000000 in
set_option maxRecDepth 20000 in
theorem f_Mod_isPot {l : Launch} {ld : Nat} {M : gM} {L : gL} {Q : Option Value → gM → gL → gR → Prop} (hld : isLa ld) {p1 : Int32}  {q : Int32 × gM} (h : F_Mod_isPot p1 M = some q) (hQ : Q (some (.int q.1)) q.2 L (rf ld)) : Tm l y_Mod_isPot (0, 0, 447) 447 [.ref 401, .int p1] M L (rf ld) Q := by
  refine Tm.of (by decide) (Nat.le_of_ble_eq_true rfl) ?_
  show Wp l y_Mod_isPot (0, 0, 447) 447 0 0 0 [(0, .ref 401), (1, .int p1)] [] M L (rf ld) Q
  unfold F_Mod_isPot at h
  refine g_iconst (pc1 := 1) (v := 0) d_Mod_isPot_0 rfl (by decide) ?_
  refine g_istore_n (pc1 := 2) (lv' := [(0, .ref 401), (1, .int p1), (2, .int 0)]) d_Mod_isPot_1 rfl rfl (by decide) [1, 2, 0] rfl ?_
  exact h_Mod_isPot_2 hld  hQ  _ 0 M h

def J_Mod_lawTells_84 (v2 : Int32) (M : gM) : Option (Int32 × gM) :=
  (if (v2 : Int32) < 0 ∨ 260 ≤ (v2 : Int32).toNatClampNeg then none else (if (v2 : Int32) < 0 ∨ 260 ≤ (v2 : Int32).toNatClampNeg then none else bI2 (F_Mod_termOf (M 429 (v2 : Int32).toNatClampNeg) (M 430 (v2 : Int32).toNatClampNeg) M) (fun r11 M12 => (if (b01 (M12 401 51)) = 0 then some (r11, M12) else some (0, M12)))))
set_option maxHeartbeats 4000000 in
set_option maxRecDepth 20000 in
theorem j_Mod_lawTells_84 {l : Launch} {ld : Nat} {Q : Option Value → gM → gL → gR → Prop} (hld : isLa ld)   {q : Int32 × gM} {M : gM} {L : gL} (hQ : Q (some (.int q.1)) q.2 L (rf ld))  {v2 : Int32}  (h : J_Mod_lawTells_84 v2 M = some q) : Wp l y_Mod_lawTells (0, 0, 447) 447 0 0 84 [(0, .ref 401), (2, .int v2)] [] M L (rf ld) Q := by
  unfold J_Mod_lawTells_84 at h
  refine g_aload_n (pc1 := 85) d_Mod_lawTells_84 rfl 0 rfl ?_
  refine g_aload_n (pc1 := 86) d_Mod_lawTells_85 rfl 0 rfl ?_
  refine g_getr (pc1 := 89) d_Mod_lawTells_86 rfl ⟨_, fo_Mod_101⟩ sh_401 (by decide) (rf_401_42 ld) ?_
  refine g_iload_n (pc1 := 90) d_Mod_lawTells_89 rfl 1 rfl ?_
  obtain ⟨g8, h⟩ := gdn h
  refine g_iald (pc1 := 91) d_Mod_lawTells_90 rfl sh_429 (by decide) g8 ?_
  refine g_aload_n (pc1 := 92) d_Mod_lawTells_91 rfl 0 rfl ?_
  refine g_getr (pc1 := 95) d_Mod_lawTells_92 rfl ⟨_, fo_Mod_104⟩ sh_401 (by decide) (rf_401_43 ld) ?_
  refine g_iload_n (pc1 := 96) d_Mod_lawTells_95 rfl 1 rfl ?_
  obtain ⟨g9, h⟩ := gdn h
  refine g_iald (pc1 := 97) d_Mod_lawTells_96 rfl sh_430 (by decide) g9 ?_
  refine g_callV0 (pc1 := 100) (As := [.int (M 429 (v2 : Int32).toNatClampNeg), .int (M 430 (v2 : Int32).toNatClampNeg)]) (rest := []) d_Mod_lawTells_97 rfl mo_Mod_333 mi_Mod_termOf mv_Mod_termOf rfl sh_401 (by decide) (by decide) rfl rfl (Nat.le_of_ble_eq_true rfl) ?_
  obtain ⟨r11, M12, hq10, h⟩ := bnd2 h
  refine f_Mod_termOf hld  hq10 ?_
  dsimp only [psh]
  refine g_istore_n (pc1 := 101) (lv' := [(0, .ref 401), (2, .int v2), (3, .int r11)]) d_Mod_lawTells_100 rfl rfl (by decide) [1, 2, 0] rfl ?_
  refine g_aload_n (pc1 := 102) d_Mod_lawTells_101 rfl 0 rfl ?_
  refine g_getz (pc1 := 105) d_Mod_lawTells_102 rfl ⟨_, fo_Mod_312⟩ sh_401 (by decide) ?_
  refine g_if_eq (pc1 := 108) (tgt := 112) d_Mod_lawTells_105 (by decide) rfl (fun c13 => ?_) (fun c13 => ?_)
  · replace h := itp h c13
    refine g_iload_n (pc1 := 113) d_Mod_lawTells_112 rfl 2 rfl ?_
    refine g_ireturn (Or.inl rfl) d_Mod_lawTells_113 rfl ?_
    cases h; exact hQ
  · replace h := itn h c13
    refine g_iconst (pc1 := 109) (v := 0) d_Mod_lawTells_108 rfl (by decide) ?_
    refine g_goto (tgt := 113) d_Mod_lawTells_109 (by decide) ?_
    refine g_ireturn (Or.inl rfl) d_Mod_lawTells_113 rfl ?_
    cases h; exact hQ
def B_Mod_lawTells_12 (v1 : Int32) (K12 : Int32 → gM → Option (Int32 × gM)) : Int32 → gM → Option (Int32 × gM) := fun v2 M =>
  (if (v1 : Int32) < 0 ∨ 8 ≤ (v1 : Int32).toNatClampNeg then none else (if (M 425 (v1 : Int32).toNatClampNeg) ≤ v2 then some (0, M) else (if (v2 : Int32) < 0 ∨ 260 ≤ (v2 : Int32).toNatClampNeg then none else (if (M 426 (v2 : Int32).toNatClampNeg) = 0 then J_Mod_lawTells_84 v2 M else (if (v2 : Int32) < 0 ∨ 260 ≤ (v2 : Int32).toNatClampNeg then none else (if (v2 : Int32) < 0 ∨ 260 ≤ (v2 : Int32).toNatClampNeg then none else bI2 (F_Mod_termOf (M 427 (v2 : Int32).toNatClampNeg) (M 428 (v2 : Int32).toNatClampNeg) M) (fun r17 M18 => (if (v2 : Int32) < 0 ∨ 260 ≤ (v2 : Int32).toNatClampNeg then none else (if (v2 : Int32) < 0 ∨ 260 ≤ (v2 : Int32).toNatClampNeg then none else bI2 (F_Mod_termOf (M18 428 (v2 : Int32).toNatClampNeg) (M18 429 (v2 : Int32).toNatClampNeg) M18) (fun r22 M23 => (if (b01 (M23 401 51)) = 0 then (if r17 < r22 then J_Mod_lawTells_84 v2 M23 else nmI (v2 + 1) (fun x26 => K12 x26 M23)) else some (0, M23))))))))))))
def H_Mod_lawTells_12 (v1 : Int32) : Nat → Int32 → gM → Option (Int32 × gM) := lpK (B_Mod_lawTells_12 v1) (fun _ _ => none)
set_option maxHeartbeats 4000000 in
set_option maxRecDepth 20000 in
theorem h_Mod_lawTells_12 {l : Launch} {ld : Nat} {Q : Option Value → gM → gL → gR → Prop} (hld : isLa ld)   {q : Int32 × gM} {L : gL} (hQ : Q (some (.int q.1)) q.2 L (rf ld))  {v1 : Int32}  : ∀ (f : Nat) (v2 : Int32) (M : gM), H_Mod_lawTells_12 v1 f v2 M = some q → Wp l y_Mod_lawTells (0, 0, 447) 447 0 0 12 [(0, .ref 401), (1, .int v1), (2, .int v2)] [] M L (rf ld) Q := by
  intro f
  induction f with
  | zero => intro v2 M h; cases h
  | succ f hK12 =>
    intro v2 M h
    replace h : B_Mod_lawTells_12 v1 (H_Mod_lawTells_12 v1 f) v2 M = some q := h
    unfold B_Mod_lawTells_12 at h
    refine g_iload_n (pc1 := 13) d_Mod_lawTells_12 rfl 2 rfl ?_
    refine g_aload_n (pc1 := 14) d_Mod_lawTells_13 rfl 0 rfl ?_
    refine g_getr (pc1 := 17) d_Mod_lawTells_14 rfl ⟨_, fo_Mod_88⟩ sh_401 (by decide) (rf_401_37 ld) ?_
    refine g_iload_n (pc1 := 18) d_Mod_lawTells_17 rfl 1 rfl ?_
    obtain ⟨g4, h⟩ := gdn h
    refine g_iald (pc1 := 19) d_Mod_lawTells_18 rfl sh_425 (by decide) g4 ?_
    refine g_icmp_ge (pc1 := 22) (tgt := 120) d_Mod_lawTells_19 (by decide) rfl (fun c5 => ?_) (fun c5 => ?_)
    · replace h := itp h c5
      refine g_iconst (pc1 := 121) (v := 0) d_Mod_lawTells_120 rfl (by decide) ?_
      refine g_ireturn (Or.inl rfl) d_Mod_lawTells_121 rfl ?_
      cases h; exact hQ
    · replace h := itn h c5
      refine g_aload_n (pc1 := 23) d_Mod_lawTells_22 rfl 0 rfl ?_
      refine g_getr (pc1 := 26) d_Mod_lawTells_23 rfl ⟨_, fo_Mod_91⟩ sh_401 (by decide) (rf_401_39 ld) ?_
      refine g_iload_n (pc1 := 27) d_Mod_lawTells_26 rfl 2 rfl ?_
      obtain ⟨g6, h⟩ := gdn h
      refine g_zald (pc1 := 28) d_Mod_lawTells_27 rfl sh_426 (by decide) g6 ?_
      refine g_if_eq (pc1 := 31) (tgt := 84) d_Mod_lawTells_28 (by decide) rfl (fun c7 => ?_) (fun c7 => ?_)
      · replace h := itp h c7
        refine Wp.loc (lv' := [(0, .ref 401), (2, .int v2)]) [0, 2] rfl ?_
        exact j_Mod_lawTells_84 hld  hQ  h
      · replace h := itn h c7
        refine g_aload_n (pc1 := 32) d_Mod_lawTells_31 rfl 0 rfl ?_
        refine g_aload_n (pc1 := 33) d_Mod_lawTells_32 rfl 0 rfl ?_
        refine g_getr (pc1 := 36) d_Mod_lawTells_33 rfl ⟨_, fo_Mod_95⟩ sh_401 (by decide) (rf_401_40 ld) ?_
        refine g_iload_n (pc1 := 37) d_Mod_lawTells_36 rfl 2 rfl ?_
        obtain ⟨g14, h⟩ := gdn h
        refine g_iald (pc1 := 38) d_Mod_lawTells_37 rfl sh_427 (by decide) g14 ?_
        refine g_aload_n (pc1 := 39) d_Mod_lawTells_38 rfl 0 rfl ?_
        refine g_getr (pc1 := 42) d_Mod_lawTells_39 rfl ⟨_, fo_Mod_98⟩ sh_401 (by decide) (rf_401_41 ld) ?_
        refine g_iload_n (pc1 := 43) d_Mod_lawTells_42 rfl 2 rfl ?_
        obtain ⟨g15, h⟩ := gdn h
        refine g_iald (pc1 := 44) d_Mod_lawTells_43 rfl sh_428 (by decide) g15 ?_
        refine g_callV0 (pc1 := 47) (As := [.int (M 427 (v2 : Int32).toNatClampNeg), .int (M 428 (v2 : Int32).toNatClampNeg)]) (rest := []) d_Mod_lawTells_44 rfl mo_Mod_333 mi_Mod_termOf mv_Mod_termOf rfl sh_401 (by decide) (by decide) rfl rfl (Nat.le_of_ble_eq_true rfl) ?_
        obtain ⟨r17, M18, hq16, h⟩ := bnd2 h
        refine f_Mod_termOf hld  hq16 ?_
        dsimp only [psh]
        refine g_istore_n (pc1 := 48) (lv' := [(0, .ref 401), (1, .int v1), (2, .int v2), (3, .int r17)]) d_Mod_lawTells_47 rfl rfl (by decide) [1, 2, 3, 0] rfl ?_
        refine g_aload_n (pc1 := 49) d_Mod_lawTells_48 rfl 0 rfl ?_
        refine g_aload_n (pc1 := 50) d_Mod_lawTells_49 rfl 0 rfl ?_
        refine g_getr (pc1 := 53) d_Mod_lawTells_50 rfl ⟨_, fo_Mod_98⟩ sh_401 (by decide) (rf_401_41 ld) ?_
        refine g_iload_n (pc1 := 54) d_Mod_lawTells_53 rfl 2 rfl ?_
        obtain ⟨g19, h⟩ := gdn h
        refine g_iald (pc1 := 55) d_Mod_lawTells_54 rfl sh_428 (by decide) g19 ?_
        refine g_aload_n (pc1 := 56) d_Mod_lawTells_55 rfl 0 rfl ?_
        refine g_getr (pc1 := 59) d_Mod_lawTells_56 rfl ⟨_, fo_Mod_101⟩ sh_401 (by decide) (rf_401_42 ld) ?_
        refine g_iload_n (pc1 := 60) d_Mod_lawTells_59 rfl 2 rfl ?_
        obtain ⟨g20, h⟩ := gdn h
        refine g_iald (pc1 := 61) d_Mod_lawTells_60 rfl sh_429 (by decide) g20 ?_
        refine g_callV0 (pc1 := 64) (As := [.int (M18 428 (v2 : Int32).toNatClampNeg), .int (M18 429 (v2 : Int32).toNatClampNeg)]) (rest := []) d_Mod_lawTells_61 rfl mo_Mod_333 mi_Mod_termOf mv_Mod_termOf rfl sh_401 (by decide) (by decide) rfl rfl (Nat.le_of_ble_eq_true rfl) ?_
        obtain ⟨r22, M23, hq21, h⟩ := bnd2 h
        refine f_Mod_termOf hld  hq21 ?_
        dsimp only [psh]
        refine g_istore (pc1 := 66) (lv' := [(0, .ref 401), (1, .int v1), (2, .int v2), (3, .int r17), (4, .int r22)]) d_Mod_lawTells_64 rfl (by decide) [1, 2, 3, 4, 0] rfl ?_
        refine g_aload_n (pc1 := 67) d_Mod_lawTells_66 rfl 0 rfl ?_
        refine g_getz (pc1 := 70) d_Mod_lawTells_67 rfl ⟨_, fo_Mod_312⟩ sh_401 (by decide) ?_
        refine g_if_eq (pc1 := 73) (tgt := 75) d_Mod_lawTells_70 (by decide) rfl (fun c24 => ?_) (fun c24 => ?_)
        · replace h := itp h c24
          refine g_iload_n (pc1 := 76) d_Mod_lawTells_75 rfl 3 rfl ?_
          refine g_iload (pc1 := 78) d_Mod_lawTells_76 rfl 4 rfl ?_
          refine g_icmp_lt (pc1 := 81) (tgt := 84) d_Mod_lawTells_78 (by decide) rfl (fun c25 => ?_) (fun c25 => ?_)
          · replace h := itp h c25
            refine Wp.loc (lv' := [(0, .ref 401), (2, .int v2)]) [0, 2] rfl ?_
            exact j_Mod_lawTells_84 hld  hQ  h
          · replace h := itn h c25
            refine g_goto (tgt := 114) d_Mod_lawTells_81 (by decide) ?_
            obtain ⟨x26, ex26, h⟩ := ltI h
            refine g_iinc (pc1 := 117) (v := x26) (lv' := [(0, .ref 401), (1, .int v1), (2, .int x26), (3, .int r17), (4, .int r22)]) d_Mod_lawTells_114 rfl 2 rfl (by rw [ex26]; rfl) (by decide) [1, 2, 0, 3, 4] rfl ?_
            refine g_goto (tgt := 12) d_Mod_lawTells_117 (by decide) ?_
            refine Wp.loc (lv' := [(0, .ref 401), (1, .int v1), (2, .int x26)]) [0, 1, 2] rfl ?_
            exact hK12 x26 M23 h
        · replace h := itn h c24
          refine g_iconst (pc1 := 74) (v := 0) d_Mod_lawTells_73 rfl (by decide) ?_
          refine g_ireturn (Or.inl rfl) d_Mod_lawTells_74 rfl ?_
          cases h; exact hQ
def F_Mod_lawTells (p1 : Int32) (M : gM) : Option (Int32 × gM) :=
  nmM (uM M 401 51 0) (fun M1 => (if (p1 : Int32) < 0 ∨ 8 ≤ (p1 : Int32).toNatClampNeg then none else nmI (M1 424 (p1 : Int32).toNatClampNeg) (fun x3 => H_Mod_lawTells_12 p1 FU x3 M1)))
set_option maxHeartbeats 4000000 in
set_option maxRecDepth 20000 in
theorem f_Mod_lawTells {l : Launch} {ld : Nat} {M : gM} {L : gL} {Q : Option Value → gM → gL → gR → Prop} (hld : isLa ld) {p1 : Int32}  {q : Int32 × gM} (h : F_Mod_lawTells p1 M = some q) (hQ : Q (some (.int q.1)) q.2 L (rf ld)) : Tm l y_Mod_lawTells (0, 0, 447) 447 [.ref 401, .int p1] M L (rf ld) Q := by
  refine Tm.of (by decide) (Nat.le_of_ble_eq_true rfl) ?_
  show Wp l y_Mod_lawTells (0, 0, 447) 447 0 0 0 [(0, .ref 401), (1, .int p1)] [] M L (rf ld) Q
  unfold F_Mod_lawTells at h
  refine g_aload_n (pc1 := 1) d_Mod_lawTells_0 rfl 0 rfl ?_
  refine g_iconst (pc1 := 2) (v := 0) d_Mod_lawTells_1 rfl (by decide) ?_
  refine g_putz (pc1 := 5) d_Mod_lawTells_2 rfl fo_Mod_312 po_12_51_0 rfl sh_401 (by decide) ?_
  refine Wp.lM h (fun M1 h => ?_)
  refine g_aload_n (pc1 := 6) d_Mod_lawTells_5 rfl 0 rfl ?_
  refine g_getr (pc1 := 9) d_Mod_lawTells_6 rfl ⟨_, fo_Mod_85⟩ sh_401 (by decide) (rf_401_36 ld) ?_
  refine g_iload_n (pc1 := 10) d_Mod_lawTells_9 rfl 1 rfl ?_
  obtain ⟨g2, h⟩ := gdn h
  refine g_iald (pc1 := 11) d_Mod_lawTells_10 rfl sh_424 (by decide) g2 ?_
  refine Wp.lI h (fun x3 h => ?_)
  refine g_istore_n (pc1 := 12) (lv' := [(0, .ref 401), (1, .int p1), (2, .int x3)]) d_Mod_lawTells_11 rfl rfl (by decide) [1, 2, 0] rfl ?_
  exact h_Mod_lawTells_12 hld  hQ  _ x3 M1 h

def F_Mod_lotOf (p1 : Int32) (p2 : Int32) (M : gM) : Option (Int32) :=
  bI (F_Mod_mixed (M 401 54) 103) (fun r2 => bI (F_Mod_mixed r2 p1) (fun r4 => (if p2 = 0 then none else some (((r4.toUInt32 >>> ((1 : Int32).toUInt32 &&& Int32.toUInt32 31)).toInt32) - ((r4.toUInt32 >>> ((1 : Int32).toUInt32 &&& Int32.toUInt32 31)).toInt32) / p2 * p2))))
set_option maxHeartbeats 4000000 in
set_option maxRecDepth 20000 in
theorem f_Mod_lotOf {l : Launch} {ld : Nat} {M : gM} {L : gL} {Q : Option Value → gM → gL → gR → Prop} (hld : isLa ld) {p1 : Int32} {p2 : Int32}  {q : Int32} (h : F_Mod_lotOf p1 p2 M = some q) (hQ : Q (some (.int q)) M L (rf ld)) : Tm l y_Mod_lotOf (0, 0, 447) 447 [.ref 401, .int p1, .int p2] M L (rf ld) Q := by
  refine Tm.of (by decide) (Nat.le_of_ble_eq_true rfl) ?_
  show Wp l y_Mod_lotOf (0, 0, 447) 447 0 0 0 [(0, .ref 401), (1, .int p1), (2, .int p2)] [] M L (rf ld) Q
  unfold F_Mod_lotOf at h
  refine g_aload_n (pc1 := 1) d_Mod_lotOf_0 rfl 0 rfl ?_
  refine g_geti (pc1 := 4) d_Mod_lotOf_1 rfl ⟨_, fo_Mod_320⟩ sh_401 (by decide) ?_
  refine g_bipush (pc1 := 6) (v := 103) d_Mod_lotOf_4 rfl (by decide) ?_
  refine g_callS0 (pc1 := 9) (As := [.int (M 401 54), .int 103]) (rest := []) d_Mod_lotOf_6 rfl mo_Mod_324 ms_Mod_mixed (by decide) rfl rfl (Nat.le_of_ble_eq_true rfl) ?_
  obtain ⟨r2, hq1, h⟩ := bnd h
  refine f_Mod_mixed hld  hq1 ?_
  dsimp only [psh]
  refine g_iload_n (pc1 := 10) d_Mod_lotOf_9 rfl 1 rfl ?_
  refine g_callS0 (pc1 := 13) (As := [.int r2, .int p1]) (rest := []) d_Mod_lotOf_10 rfl mo_Mod_324 ms_Mod_mixed (by decide) rfl rfl (Nat.le_of_ble_eq_true rfl) ?_
  obtain ⟨r4, hq3, h⟩ := bnd h
  refine f_Mod_mixed hld  hq3 ?_
  dsimp only [psh]
  refine g_iconst (pc1 := 14) (v := 1) d_Mod_lotOf_13 rfl (by decide) ?_
  refine g_iushr (pc1 := 15) d_Mod_lotOf_14 rfl ?_
  refine g_iload_n (pc1 := 16) d_Mod_lotOf_15 rfl 2 rfl ?_
  obtain ⟨g5, h⟩ := gdn h
  refine g_irem (pc1 := 17) d_Mod_lotOf_16 rfl g5 ?_
  refine g_ireturn (Or.inl rfl) d_Mod_lotOf_17 rfl ?_
  cases h; exact hQ

def J_Mod_records_83 (M : gM) : Option (gM) :=
  nmM (uM M 401 57 ((M 401 57) + 1)) (fun M3 => bI (F_Mod_keepsRow M3) (fun M5 => some M5))
set_option maxHeartbeats 4000000 in
set_option maxRecDepth 20000 in
theorem j_Mod_records_83 {l : Launch} {ld : Nat} {Q : Option Value → gM → gL → gR → Prop} (hld : isLa ld)   {q : gM} {M : gM} {L : gL} (hQ : Q none q L (rf ld))    (h : J_Mod_records_83 M = some q) : Wp l y_Mod_records (0, 0, 447) 447 0 0 83 [(0, .ref 401)] [] M L (rf ld) Q := by
  unfold J_Mod_records_83 at h
  refine g_aload_n (pc1 := 84) d_Mod_records_83 rfl 0 rfl ?_
  refine g_dup (pc1 := 85) d_Mod_records_84 rfl rfl ?_
  refine g_geti (pc1 := 88) d_Mod_records_85 rfl ⟨_, fo_Mod_254⟩ sh_401 (by decide) ?_
  refine g_iconst (pc1 := 89) (v := 1) d_Mod_records_88 rfl (by decide) ?_
  refine g_iadd (pc1 := 90) d_Mod_records_89 rfl ?_
  refine g_puti (pc1 := 93) d_Mod_records_90 rfl fo_Mod_254 (po_12_57 _) sh_401 (by decide) ?_
  refine Wp.lM h (fun M3 h => ?_)
  refine g_aload_n (pc1 := 94) d_Mod_records_93 rfl 0 rfl ?_
  refine g_callV0 (pc1 := 97) (As := []) (rest := []) d_Mod_records_94 rfl mo_Mod_166 mi_Mod_keepsRow mv_Mod_keepsRow rfl sh_401 (by decide) (by decide) rfl rfl (Nat.le_of_ble_eq_true rfl) ?_
  obtain ⟨M5, hq4, h⟩ := bnd h
  refine f_Mod_keepsRow hld  hq4 ?_
  dsimp only [psh]
  refine g_return rfl d_Mod_records_97 rfl ?_
  cases h; exact hQ
def B_Mod_records_51  (K51 : Int32 → gM → Option (gM)) : Int32 → gM → Option (gM) := fun v1 M =>
  (if 38 ≤ v1 then J_Mod_records_83 M else (if (v1 : Int32) < 0 ∨ 38 ≤ (v1 : Int32).toNatClampNeg then none else (if (((38 * (M 401 57)) + v1) : Int32) < 0 ∨ 1520 ≤ (((38 * (M 401 57)) + v1) : Int32).toNatClampNeg then none else nmM (uM M 440 (((38 * (M 401 57)) + v1) : Int32).toNatClampNeg (M 436 (v1 : Int32).toNatClampNeg)) (fun M8 => nmI (v1 + 1) (fun x9 => K51 x9 M8)))))
def H_Mod_records_51  : Nat → Int32 → gM → Option (gM) := lpK (B_Mod_records_51 ) (fun _ _ => none)
set_option maxHeartbeats 4000000 in
set_option maxRecDepth 20000 in
theorem h_Mod_records_51 {l : Launch} {ld : Nat} {Q : Option Value → gM → gL → gR → Prop} (hld : isLa ld)   {q : gM} {L : gL} (hQ : Q none q L (rf ld))    : ∀ (f : Nat) (v1 : Int32) (M : gM), H_Mod_records_51  f v1 M = some q → Wp l y_Mod_records (0, 0, 447) 447 0 0 51 [(0, .ref 401), (1, .int v1)] [] M L (rf ld) Q := by
  intro f
  induction f with
  | zero => intro v1 M h; cases h
  | succ f hK51 =>
    intro v1 M h
    replace h : B_Mod_records_51  (H_Mod_records_51  f) v1 M = some q := h
    unfold B_Mod_records_51 at h
    refine g_iload_n (pc1 := 52) d_Mod_records_51 rfl 1 rfl ?_
    refine g_bipush (pc1 := 54) (v := 38) d_Mod_records_52 rfl (by decide) ?_
    refine g_icmp_ge (pc1 := 57) (tgt := 83) d_Mod_records_54 (by decide) rfl (fun c2 => ?_) (fun c2 => ?_)
    · replace h := itp h c2
      refine Wp.loc (lv' := [(0, .ref 401)]) [0] rfl ?_
      exact j_Mod_records_83 hld  hQ  h
    · replace h := itn h c2
      refine g_aload_n (pc1 := 58) d_Mod_records_57 rfl 0 rfl ?_
      refine g_getr (pc1 := 61) d_Mod_records_58 rfl ⟨_, fo_Mod_134⟩ sh_401 (by decide) (rf_401_58 ld) ?_
      refine g_bipush (pc1 := 63) (v := 38) d_Mod_records_61 rfl (by decide) ?_
      refine g_aload_n (pc1 := 64) d_Mod_records_63 rfl 0 rfl ?_
      refine g_geti (pc1 := 67) d_Mod_records_64 rfl ⟨_, fo_Mod_254⟩ sh_401 (by decide) ?_
      refine g_imul (pc1 := 68) d_Mod_records_67 rfl ?_
      refine g_iload_n (pc1 := 69) d_Mod_records_68 rfl 1 rfl ?_
      refine g_iadd (pc1 := 70) d_Mod_records_69 rfl ?_
      refine g_aload_n (pc1 := 71) d_Mod_records_70 rfl 0 rfl ?_
      refine g_getr (pc1 := 74) d_Mod_records_71 rfl ⟨_, fo_Mod_122⟩ sh_401 (by decide) (rf_401_52 ld) ?_
      refine g_iload_n (pc1 := 75) d_Mod_records_74 rfl 1 rfl ?_
      obtain ⟨g6, h⟩ := gdn h
      refine g_iald (pc1 := 76) d_Mod_records_75 rfl sh_436 (by decide) g6 ?_
      obtain ⟨g7, h⟩ := gdn h
      refine g_iast (pc1 := 77) d_Mod_records_76 rfl sh_440 (by decide) g7 ?_
      refine Wp.lM h (fun M8 h => ?_)
      obtain ⟨x9, ex9, h⟩ := ltI h
      refine g_iinc (pc1 := 80) (v := x9) (lv' := [(0, .ref 401), (1, .int x9)]) d_Mod_records_77 rfl 1 rfl (by rw [ex9]; rfl) (by decide) [1, 0] rfl ?_
      refine g_goto (tgt := 51) d_Mod_records_80 (by decide) ?_
      exact hK51 x9 M8 h
def J_Mod_records_49 (M : gM) : Option (gM) :=
  H_Mod_records_51 FU 0 M
set_option maxHeartbeats 4000000 in
set_option maxRecDepth 20000 in
theorem j_Mod_records_49 {l : Launch} {ld : Nat} {Q : Option Value → gM → gL → gR → Prop} (hld : isLa ld)   {q : gM} {M : gM} {L : gL} (hQ : Q none q L (rf ld))    (h : J_Mod_records_49 M = some q) : Wp l y_Mod_records (0, 0, 447) 447 0 0 49 [(0, .ref 401)] [] M L (rf ld) Q := by
  unfold J_Mod_records_49 at h
  refine g_iconst (pc1 := 50) (v := 0) d_Mod_records_49 rfl (by decide) ?_
  refine g_istore_n (pc1 := 51) (lv' := [(0, .ref 401), (1, .int 0)]) d_Mod_records_50 rfl rfl (by decide) [1, 0] rfl ?_
  exact h_Mod_records_51 hld  hQ  _ 0 M h
def J_Mod_records_39 (M : gM) : Option (gM) :=
  nmM (uM M 401 57 ((M 401 57) - 1)) (fun M11 => J_Mod_records_49 M11)
set_option maxHeartbeats 4000000 in
set_option maxRecDepth 20000 in
theorem j_Mod_records_39 {l : Launch} {ld : Nat} {Q : Option Value → gM → gL → gR → Prop} (hld : isLa ld)   {q : gM} {M : gM} {L : gL} (hQ : Q none q L (rf ld))    (h : J_Mod_records_39 M = some q) : Wp l y_Mod_records (0, 0, 447) 447 0 0 39 [(0, .ref 401)] [] M L (rf ld) Q := by
  unfold J_Mod_records_39 at h
  refine g_aload_n (pc1 := 40) d_Mod_records_39 rfl 0 rfl ?_
  refine g_dup (pc1 := 41) d_Mod_records_40 rfl rfl ?_
  refine g_geti (pc1 := 44) d_Mod_records_41 rfl ⟨_, fo_Mod_254⟩ sh_401 (by decide) ?_
  refine g_iconst (pc1 := 45) (v := 1) d_Mod_records_44 rfl (by decide) ?_
  refine g_isub (pc1 := 46) d_Mod_records_45 rfl ?_
  refine g_puti (pc1 := 49) d_Mod_records_46 rfl fo_Mod_254 (po_12_57 _) sh_401 (by decide) ?_
  refine Wp.lM h (fun M11 h => ?_)
  exact j_Mod_records_49 hld  hQ  h
def B_Mod_records_11  (K11 : Int32 → gM → Option (gM)) : Int32 → gM → Option (gM) := fun v1 M =>
  (if 1482 ≤ v1 then J_Mod_records_39 M else (if ((v1 + 38) : Int32) < 0 ∨ 1520 ≤ ((v1 + 38) : Int32).toNatClampNeg then none else (if (v1 : Int32) < 0 ∨ 1520 ≤ (v1 : Int32).toNatClampNeg then none else nmM (uM M 440 (v1 : Int32).toNatClampNeg (M 440 ((v1 + 38) : Int32).toNatClampNeg)) (fun M14 => nmI (v1 + 1) (fun x15 => K11 x15 M14)))))
def H_Mod_records_11  : Nat → Int32 → gM → Option (gM) := lpK (B_Mod_records_11 ) (fun _ _ => none)
set_option maxHeartbeats 4000000 in
set_option maxRecDepth 20000 in
theorem h_Mod_records_11 {l : Launch} {ld : Nat} {Q : Option Value → gM → gL → gR → Prop} (hld : isLa ld)   {q : gM} {L : gL} (hQ : Q none q L (rf ld))    : ∀ (f : Nat) (v1 : Int32) (M : gM), H_Mod_records_11  f v1 M = some q → Wp l y_Mod_records (0, 0, 447) 447 0 0 11 [(0, .ref 401), (1, .int v1)] [] M L (rf ld) Q := by
  intro f
  induction f with
  | zero => intro v1 M h; cases h
  | succ f hK11 =>
    intro v1 M h
    replace h : B_Mod_records_11  (H_Mod_records_11  f) v1 M = some q := h
    unfold B_Mod_records_11 at h
    refine g_iload_n (pc1 := 12) d_Mod_records_11 rfl 1 rfl ?_
    refine g_sipush (pc1 := 15) (v := 1482) d_Mod_records_12 rfl (by decide) ?_
    refine g_icmp_ge (pc1 := 18) (tgt := 39) d_Mod_records_15 (by decide) rfl (fun c10 => ?_) (fun c10 => ?_)
    · replace h := itp h c10
      refine Wp.loc (lv' := [(0, .ref 401)]) [0] rfl ?_
      exact j_Mod_records_39 hld  hQ  h
    · replace h := itn h c10
      refine g_aload_n (pc1 := 19) d_Mod_records_18 rfl 0 rfl ?_
      refine g_getr (pc1 := 22) d_Mod_records_19 rfl ⟨_, fo_Mod_134⟩ sh_401 (by decide) (rf_401_58 ld) ?_
      refine g_iload_n (pc1 := 23) d_Mod_records_22 rfl 1 rfl ?_
      refine g_aload_n (pc1 := 24) d_Mod_records_23 rfl 0 rfl ?_
      refine g_getr (pc1 := 27) d_Mod_records_24 rfl ⟨_, fo_Mod_134⟩ sh_401 (by decide) (rf_401_58 ld) ?_
      refine g_iload_n (pc1 := 28) d_Mod_records_27 rfl 1 rfl ?_
      refine g_bipush (pc1 := 30) (v := 38) d_Mod_records_28 rfl (by decide) ?_
      refine g_iadd (pc1 := 31) d_Mod_records_30 rfl ?_
      obtain ⟨g12, h⟩ := gdn h
      refine g_iald (pc1 := 32) d_Mod_records_31 rfl sh_440 (by decide) g12 ?_
      obtain ⟨g13, h⟩ := gdn h
      refine g_iast (pc1 := 33) d_Mod_records_32 rfl sh_440 (by decide) g13 ?_
      refine Wp.lM h (fun M14 h => ?_)
      obtain ⟨x15, ex15, h⟩ := ltI h
      refine g_iinc (pc1 := 36) (v := x15) (lv' := [(0, .ref 401), (1, .int x15)]) d_Mod_records_33 rfl 1 rfl (by rw [ex15]; rfl) (by decide) [1, 0] rfl ?_
      refine g_goto (tgt := 11) d_Mod_records_36 (by decide) ?_
      exact hK11 x15 M14 h
def F_Mod_records (M : gM) : Option (gM) :=
  (if (M 401 57) = 40 then H_Mod_records_11 FU 0 M else J_Mod_records_49 M)
set_option maxHeartbeats 4000000 in
set_option maxRecDepth 20000 in
theorem f_Mod_records {l : Launch} {ld : Nat} {M : gM} {L : gL} {Q : Option Value → gM → gL → gR → Prop} (hld : isLa ld)   {q : gM} (h : F_Mod_records M = some q) (hQ : Q none q L (rf ld)) : Tm l y_Mod_records (0, 0, 447) 447 [.ref 401] M L (rf ld) Q := by
  refine Tm.of (by decide) (Nat.le_of_ble_eq_true rfl) ?_
  show Wp l y_Mod_records (0, 0, 447) 447 0 0 0 [(0, .ref 401)] [] M L (rf ld) Q
  unfold F_Mod_records at h
  refine g_aload_n (pc1 := 1) d_Mod_records_0 rfl 0 rfl ?_
  refine g_geti (pc1 := 4) d_Mod_records_1 rfl ⟨_, fo_Mod_254⟩ sh_401 (by decide) ?_
  refine g_bipush (pc1 := 6) (v := 40) d_Mod_records_4 rfl (by decide) ?_
  refine g_icmp_ne (pc1 := 9) (tgt := 49) d_Mod_records_6 (by decide) rfl (fun c1 => ?_) (fun c1 => ?_)
  · replace h := itn h c1
    exact j_Mod_records_49 hld  hQ  h
  · replace h := itp h c1
    refine g_iconst (pc1 := 10) (v := 0) d_Mod_records_9 rfl (by decide) ?_
    refine g_istore_n (pc1 := 11) (lv' := [(0, .ref 401), (1, .int 0)]) d_Mod_records_10 rfl rfl (by decide) [1, 0] rfl ?_
    exact h_Mod_records_11 hld  hQ  _ 0 M h

def J_Mod_restore_51 (M : gM) : Option (Int32 × gM) :=
  nmM (uM M 401 57 0) (fun M7 => some (1, M7))
set_option maxHeartbeats 4000000 in
set_option maxRecDepth 20000 in
theorem j_Mod_restore_51 {l : Launch} {ld : Nat} {Q : Option Value → gM → gL → gR → Prop} (hld : isLa ld)   {q : Int32 × gM} {M : gM} {L : gL} (hQ : Q (some (.int q.1)) q.2 L (rf ld))    (h : J_Mod_restore_51 M = some q) : Wp l y_Mod_restore (0, 0, 447) 447 0 0 51 [(0, .ref 401)] [] M L (rf ld) Q := by
  unfold J_Mod_restore_51 at h
  refine g_aload_n (pc1 := 52) d_Mod_restore_51 rfl 0 rfl ?_
  refine g_iconst (pc1 := 53) (v := 0) d_Mod_restore_52 rfl (by decide) ?_
  refine g_puti (pc1 := 56) d_Mod_restore_53 rfl fo_Mod_254 (po_12_57 _) sh_401 (by decide) ?_
  refine Wp.lM h (fun M7 h => ?_)
  refine g_iconst (pc1 := 57) (v := 1) d_Mod_restore_56 rfl (by decide) ?_
  refine g_ireturn (Or.inr ⟨rfl, rfl⟩) d_Mod_restore_57 rfl ?_
  cases h; exact hQ
def B_Mod_restore_22 (v1 : Int32) (K22 : Int32 → gM → Option (Int32 × gM)) : Int32 → gM → Option (Int32 × gM) := fun v2 M =>
  (if 38 ≤ v2 then J_Mod_restore_51 M else (if (((38 * v1) + v2) : Int32) < 0 ∨ 114 ≤ (((38 * v1) + v2) : Int32).toNatClampNeg then none else (if (v2 : Int32) < 0 ∨ 38 ≤ (v2 : Int32).toNatClampNeg then none else nmM (uM M 436 (v2 : Int32).toNatClampNeg (M 446 (((38 * v1) + v2) : Int32).toNatClampNeg)) (fun M10 => nmI (v2 + 1) (fun x11 => K22 x11 M10)))))
def H_Mod_restore_22 (v1 : Int32) : Nat → Int32 → gM → Option (Int32 × gM) := lpK (B_Mod_restore_22 v1) (fun _ _ => none)
set_option maxHeartbeats 4000000 in
set_option maxRecDepth 20000 in
theorem h_Mod_restore_22 {l : Launch} {ld : Nat} {Q : Option Value → gM → gL → gR → Prop} (hld : isLa ld)   {q : Int32 × gM} {L : gL} (hQ : Q (some (.int q.1)) q.2 L (rf ld))  {v1 : Int32}  : ∀ (f : Nat) (v2 : Int32) (M : gM), H_Mod_restore_22 v1 f v2 M = some q → Wp l y_Mod_restore (0, 0, 447) 447 0 0 22 [(0, .ref 401), (1, .int v1), (2, .int v2)] [] M L (rf ld) Q := by
  intro f
  induction f with
  | zero => intro v2 M h; cases h
  | succ f hK22 =>
    intro v2 M h
    replace h : B_Mod_restore_22 v1 (H_Mod_restore_22 v1 f) v2 M = some q := h
    unfold B_Mod_restore_22 at h
    refine g_iload_n (pc1 := 23) d_Mod_restore_22 rfl 2 rfl ?_
    refine g_bipush (pc1 := 25) (v := 38) d_Mod_restore_23 rfl (by decide) ?_
    refine g_icmp_ge (pc1 := 28) (tgt := 51) d_Mod_restore_25 (by decide) rfl (fun c6 => ?_) (fun c6 => ?_)
    · replace h := itp h c6
      refine Wp.loc (lv' := [(0, .ref 401)]) [0] rfl ?_
      exact j_Mod_restore_51 hld  hQ  h
    · replace h := itn h c6
      refine g_aload_n (pc1 := 29) d_Mod_restore_28 rfl 0 rfl ?_
      refine g_getr (pc1 := 32) d_Mod_restore_29 rfl ⟨_, fo_Mod_122⟩ sh_401 (by decide) (rf_401_52 ld) ?_
      refine g_iload_n (pc1 := 33) d_Mod_restore_32 rfl 2 rfl ?_
      refine g_aload_n (pc1 := 34) d_Mod_restore_33 rfl 0 rfl ?_
      refine g_getr (pc1 := 37) d_Mod_restore_34 rfl ⟨_, fo_Mod_152⟩ sh_401 (by decide) (rf_401_70 ld) ?_
      refine g_bipush (pc1 := 39) (v := 38) d_Mod_restore_37 rfl (by decide) ?_
      refine g_iload_n (pc1 := 40) d_Mod_restore_39 rfl 1 rfl ?_
      refine g_imul (pc1 := 41) d_Mod_restore_40 rfl ?_
      refine g_iload_n (pc1 := 42) d_Mod_restore_41 rfl 2 rfl ?_
      refine g_iadd (pc1 := 43) d_Mod_restore_42 rfl ?_
      obtain ⟨g8, h⟩ := gdn h
      refine g_iald (pc1 := 44) d_Mod_restore_43 rfl sh_446 (by decide) g8 ?_
      obtain ⟨g9, h⟩ := gdn h
      refine g_iast (pc1 := 45) d_Mod_restore_44 rfl sh_436 (by decide) g9 ?_
      refine Wp.lM h (fun M10 h => ?_)
      obtain ⟨x11, ex11, h⟩ := ltI h
      refine g_iinc (pc1 := 48) (v := x11) (lv' := [(0, .ref 401), (1, .int v1), (2, .int x11)]) d_Mod_restore_45 rfl 2 rfl (by rw [ex11]; rfl) (by decide) [1, 2, 0] rfl ?_
      refine g_goto (tgt := 22) d_Mod_restore_48 (by decide) ?_
      exact hK22 x11 M10 h
def F_Mod_restore (p1 : Int32) (M : gM) : Option (Int32 × gM) :=
  bI (F_Mod_in p1 0 2) (fun r2 => (if r2 = 0 then some (0, M) else (if (p1 : Int32) < 0 ∨ 3 ≤ (p1 : Int32).toNatClampNeg then none else (if (M 445 (p1 : Int32).toNatClampNeg) = 0 then some (0, M) else H_Mod_restore_22 p1 FU 0 M))))
set_option maxHeartbeats 4000000 in
set_option maxRecDepth 20000 in
theorem f_Mod_restore {l : Launch} {ld : Nat} {M : gM} {L : gL} {Q : Option Value → gM → gL → gR → Prop} (hld : isLa ld) {p1 : Int32}  {q : Int32 × gM} (h : F_Mod_restore p1 M = some q) (hQ : Q (some (.int q.1)) q.2 L (rf ld)) : Tm l y_Mod_restore (0, 0, 447) 447 [.ref 401, .int p1] M L (rf ld) Q := by
  refine Tm.of (by decide) (Nat.le_of_ble_eq_true rfl) ?_
  show Wp l y_Mod_restore (0, 0, 447) 447 0 0 0 [(0, .ref 401), (1, .int p1)] [] M L (rf ld) Q
  unfold F_Mod_restore at h
  refine g_iload_n (pc1 := 1) d_Mod_restore_0 rfl 1 rfl ?_
  refine g_iconst (pc1 := 2) (v := 0) d_Mod_restore_1 rfl (by decide) ?_
  refine g_iconst (pc1 := 3) (v := 2) d_Mod_restore_2 rfl (by decide) ?_
  refine g_callS0 (pc1 := 6) (As := [.int p1, .int 0, .int 2]) (rest := []) d_Mod_restore_3 rfl mo_Mod_316 ms_Mod_in (by decide) rfl rfl (Nat.le_of_ble_eq_true rfl) ?_
  obtain ⟨r2, hq1, h⟩ := bnd h
  refine f_Mod_in hld  hq1 ?_
  dsimp only [psh]
  refine g_if_eq (pc1 := 9) (tgt := 18) d_Mod_restore_6 (by decide) rfl (fun c3 => ?_) (fun c3 => ?_)
  · replace h := itp h c3
    refine g_iconst (pc1 := 19) (v := 0) d_Mod_restore_18 rfl (by decide) ?_
    refine g_ireturn (Or.inr ⟨rfl, rfl⟩) d_Mod_restore_19 rfl ?_
    cases h; exact hQ
  · replace h := itn h c3
    refine g_aload_n (pc1 := 10) d_Mod_restore_9 rfl 0 rfl ?_
    refine g_getr (pc1 := 13) d_Mod_restore_10 rfl ⟨_, fo_Mod_149⟩ sh_401 (by decide) (rf_401_69 ld) ?_
    refine g_iload_n (pc1 := 14) d_Mod_restore_13 rfl 1 rfl ?_
    obtain ⟨g4, h⟩ := gdn h
    refine g_zald (pc1 := 15) d_Mod_restore_14 rfl sh_445 (by decide) g4 ?_
    refine g_if_ne (pc1 := 18) (tgt := 20) d_Mod_restore_15 (by decide) rfl (fun c5 => ?_) (fun c5 => ?_)
    · replace h := itn h c5
      refine g_iconst (pc1 := 21) (v := 0) d_Mod_restore_20 rfl (by decide) ?_
      refine g_istore_n (pc1 := 22) (lv' := [(0, .ref 401), (1, .int p1), (2, .int 0)]) d_Mod_restore_21 rfl rfl (by decide) [1, 2, 0] rfl ?_
      exact h_Mod_restore_22 hld  hQ  _ 0 M h
    · replace h := itp h c5
      refine g_iconst (pc1 := 19) (v := 0) d_Mod_restore_18 rfl (by decide) ?_
      refine g_ireturn (Or.inr ⟨rfl, rfl⟩) d_Mod_restore_19 rfl ?_
      cases h; exact hQ

def J_Mod_sign_95 (v1 : Int32) (v4 : Int32) (M : gM) (L : gL) : Option (Int32 × gM × gL) :=
  bI2 (F_Mod_token v4 v1 0 0 M L) (fun M11 L12 => some (1, M11, L12))
set_option maxHeartbeats 4000000 in
set_option maxRecDepth 20000 in
theorem j_Mod_sign_95 {l : Launch} {ld : Nat} {Q : Option Value → gM → gL → gR → Prop} (hld : isLa ld)   {q : Int32 × gM × gL} {M : gM} {L : gL} (hQ : Q (some (.int q.1)) q.2.1 q.2.2 (rf ld))  {v1 : Int32} {v4 : Int32}  (h : J_Mod_sign_95 v1 v4 M L = some q) : Wp l y_Mod_sign (0, 0, 447) 447 0 0 95 [(0, .ref 401), (1, .int v1), (4, .int v4)] [] M L (rf ld) Q := by
  unfold J_Mod_sign_95 at h
  refine g_aload_n (pc1 := 96) d_Mod_sign_95 rfl 0 rfl ?_
  refine g_iload (pc1 := 98) d_Mod_sign_96 rfl 2 rfl ?_
  refine g_iload_n (pc1 := 99) d_Mod_sign_98 rfl 1 rfl ?_
  refine g_iconst (pc1 := 100) (v := 0) d_Mod_sign_99 rfl (by decide) ?_
  refine g_lconst (pc1 := 101) (v := 0) d_Mod_sign_100 rfl (by decide) ?_
  refine g_callV0 (pc1 := 104) (As := [.int v4, .int v1, .int 0, .long 0]) (rest := []) d_Mod_sign_101 rfl mo_Mod_191 mi_Mod_token mv_Mod_token rfl sh_401 (by decide) (by decide) rfl rfl (Nat.le_of_ble_eq_true rfl) ?_
  obtain ⟨M11, L12, hq10, h⟩ := bnd2 h
  refine f_Mod_token hld  hq10 ?_
  dsimp only [psh]
  refine g_iconst (pc1 := 105) (v := 1) d_Mod_sign_104 rfl (by decide) ?_
  refine g_ireturn (Or.inl rfl) d_Mod_sign_105 rfl ?_
  cases h; exact hQ
def J_Mod_sign_85 (v1 : Int32) (v2 : Int32) (v4 : Int32) (M : gM) (L : gL) : Option (Int32 × gM × gL) :=
  (if v2 = 60 then J_Mod_sign_95 v1 13 M L else J_Mod_sign_95 v1 v4 M L)
set_option maxHeartbeats 4000000 in
set_option maxRecDepth 20000 in
theorem j_Mod_sign_85 {l : Launch} {ld : Nat} {Q : Option Value → gM → gL → gR → Prop} (hld : isLa ld)   {q : Int32 × gM × gL} {M : gM} {L : gL} (hQ : Q (some (.int q.1)) q.2.1 q.2.2 (rf ld))  {v1 : Int32} {v2 : Int32} {v4 : Int32}  (h : J_Mod_sign_85 v1 v2 v4 M L = some q) : Wp l y_Mod_sign (0, 0, 447) 447 0 0 85 [(0, .ref 401), (1, .int v1), (2, .int v2), (4, .int v4)] [] M L (rf ld) Q := by
  unfold J_Mod_sign_85 at h
  refine g_iload_n (pc1 := 86) d_Mod_sign_85 rfl 2 rfl ?_
  refine g_bipush (pc1 := 88) (v := 60) d_Mod_sign_86 rfl (by decide) ?_
  refine g_icmp_ne (pc1 := 91) (tgt := 95) d_Mod_sign_88 (by decide) rfl (fun c9 => ?_) (fun c9 => ?_)
  · replace h := itn h c9
    refine Wp.loc (lv' := [(0, .ref 401), (1, .int v1), (4, .int v4)]) [0, 1, 3] rfl ?_
    exact j_Mod_sign_95 hld  hQ  h
  · replace h := itp h c9
    refine g_bipush (pc1 := 93) (v := 13) d_Mod_sign_91 rfl (by decide) ?_
    refine g_istore (pc1 := 95) (lv' := [(0, .ref 401), (1, .int v1), (2, .int v2), (4, .int 13)]) d_Mod_sign_93 rfl (by decide) [1, 2, 3, 0] rfl ?_
    refine Wp.loc (lv' := [(0, .ref 401), (1, .int v1), (4, .int 13)]) [0, 1, 3] rfl ?_
    exact j_Mod_sign_95 hld  hQ  h
def J_Mod_sign_75 (v1 : Int32) (v2 : Int32) (v4 : Int32) (M : gM) (L : gL) : Option (Int32 × gM × gL) :=
  (if v2 = 47 then J_Mod_sign_85 v1 v2 15 M L else J_Mod_sign_85 v1 v2 v4 M L)
set_option maxHeartbeats 4000000 in
set_option maxRecDepth 20000 in
theorem j_Mod_sign_75 {l : Launch} {ld : Nat} {Q : Option Value → gM → gL → gR → Prop} (hld : isLa ld)   {q : Int32 × gM × gL} {M : gM} {L : gL} (hQ : Q (some (.int q.1)) q.2.1 q.2.2 (rf ld))  {v1 : Int32} {v2 : Int32} {v4 : Int32}  (h : J_Mod_sign_75 v1 v2 v4 M L = some q) : Wp l y_Mod_sign (0, 0, 447) 447 0 0 75 [(0, .ref 401), (1, .int v1), (2, .int v2), (4, .int v4)] [] M L (rf ld) Q := by
  unfold J_Mod_sign_75 at h
  refine g_iload_n (pc1 := 76) d_Mod_sign_75 rfl 2 rfl ?_
  refine g_bipush (pc1 := 78) (v := 47) d_Mod_sign_76 rfl (by decide) ?_
  refine g_icmp_ne (pc1 := 81) (tgt := 85) d_Mod_sign_78 (by decide) rfl (fun c8 => ?_) (fun c8 => ?_)
  · replace h := itn h c8
    exact j_Mod_sign_85 hld  hQ  h
  · replace h := itp h c8
    refine g_bipush (pc1 := 83) (v := 15) d_Mod_sign_81 rfl (by decide) ?_
    refine g_istore (pc1 := 85) (lv' := [(0, .ref 401), (1, .int v1), (2, .int v2), (4, .int 15)]) d_Mod_sign_83 rfl (by decide) [1, 2, 3, 0] rfl ?_
    exact j_Mod_sign_85 hld  hQ  h
def J_Mod_sign_65 (v1 : Int32) (v2 : Int32) (v4 : Int32) (M : gM) (L : gL) : Option (Int32 × gM × gL) :=
  (if v2 = 42 then J_Mod_sign_75 v1 v2 10 M L else J_Mod_sign_75 v1 v2 v4 M L)
set_option maxHeartbeats 4000000 in
set_option maxRecDepth 20000 in
theorem j_Mod_sign_65 {l : Launch} {ld : Nat} {Q : Option Value → gM → gL → gR → Prop} (hld : isLa ld)   {q : Int32 × gM × gL} {M : gM} {L : gL} (hQ : Q (some (.int q.1)) q.2.1 q.2.2 (rf ld))  {v1 : Int32} {v2 : Int32} {v4 : Int32}  (h : J_Mod_sign_65 v1 v2 v4 M L = some q) : Wp l y_Mod_sign (0, 0, 447) 447 0 0 65 [(0, .ref 401), (1, .int v1), (2, .int v2), (4, .int v4)] [] M L (rf ld) Q := by
  unfold J_Mod_sign_65 at h
  refine g_iload_n (pc1 := 66) d_Mod_sign_65 rfl 2 rfl ?_
  refine g_bipush (pc1 := 68) (v := 42) d_Mod_sign_66 rfl (by decide) ?_
  refine g_icmp_ne (pc1 := 71) (tgt := 75) d_Mod_sign_68 (by decide) rfl (fun c7 => ?_) (fun c7 => ?_)
  · replace h := itn h c7
    exact j_Mod_sign_75 hld  hQ  h
  · replace h := itp h c7
    refine g_bipush (pc1 := 73) (v := 10) d_Mod_sign_71 rfl (by decide) ?_
    refine g_istore (pc1 := 75) (lv' := [(0, .ref 401), (1, .int v1), (2, .int v2), (4, .int 10)]) d_Mod_sign_73 rfl (by decide) [1, 2, 3, 0] rfl ?_
    exact j_Mod_sign_75 hld  hQ  h
def J_Mod_sign_55 (v1 : Int32) (v2 : Int32) (v4 : Int32) (M : gM) (L : gL) : Option (Int32 × gM × gL) :=
  (if v2 = 45 then J_Mod_sign_65 v1 v2 9 M L else J_Mod_sign_65 v1 v2 v4 M L)
set_option maxHeartbeats 4000000 in
set_option maxRecDepth 20000 in
theorem j_Mod_sign_55 {l : Launch} {ld : Nat} {Q : Option Value → gM → gL → gR → Prop} (hld : isLa ld)   {q : Int32 × gM × gL} {M : gM} {L : gL} (hQ : Q (some (.int q.1)) q.2.1 q.2.2 (rf ld))  {v1 : Int32} {v2 : Int32} {v4 : Int32}  (h : J_Mod_sign_55 v1 v2 v4 M L = some q) : Wp l y_Mod_sign (0, 0, 447) 447 0 0 55 [(0, .ref 401), (1, .int v1), (2, .int v2), (4, .int v4)] [] M L (rf ld) Q := by
  unfold J_Mod_sign_55 at h
  refine g_iload_n (pc1 := 56) d_Mod_sign_55 rfl 2 rfl ?_
  refine g_bipush (pc1 := 58) (v := 45) d_Mod_sign_56 rfl (by decide) ?_
  refine g_icmp_ne (pc1 := 61) (tgt := 65) d_Mod_sign_58 (by decide) rfl (fun c6 => ?_) (fun c6 => ?_)
  · replace h := itn h c6
    exact j_Mod_sign_65 hld  hQ  h
  · replace h := itp h c6
    refine g_bipush (pc1 := 63) (v := 9) d_Mod_sign_61 rfl (by decide) ?_
    refine g_istore (pc1 := 65) (lv' := [(0, .ref 401), (1, .int v1), (2, .int v2), (4, .int 9)]) d_Mod_sign_63 rfl (by decide) [1, 2, 3, 0] rfl ?_
    exact j_Mod_sign_65 hld  hQ  h
def J_Mod_sign_43 (v1 : Int32) (v2 : Int32) (s0 : Int32) (M : gM) (L : gL) : Option (Int32 × gM × gL) :=
  (if v2 = 43 then J_Mod_sign_55 v1 v2 8 M L else J_Mod_sign_55 v1 v2 s0 M L)
set_option maxHeartbeats 4000000 in
set_option maxRecDepth 20000 in
theorem j_Mod_sign_43 {l : Launch} {ld : Nat} {Q : Option Value → gM → gL → gR → Prop} (hld : isLa ld)   {q : Int32 × gM × gL} {M : gM} {L : gL} (hQ : Q (some (.int q.1)) q.2.1 q.2.2 (rf ld))  {v1 : Int32} {v2 : Int32} {s0 : Int32}  (h : J_Mod_sign_43 v1 v2 s0 M L = some q) : Wp l y_Mod_sign (0, 0, 447) 447 0 0 43 [(0, .ref 401), (1, .int v1), (2, .int v2)] [.int s0] M L (rf ld) Q := by
  unfold J_Mod_sign_43 at h
  refine g_istore (pc1 := 45) (lv' := [(0, .ref 401), (1, .int v1), (2, .int v2), (4, .int s0)]) d_Mod_sign_43 rfl (by decide) [1, 2, 3, 0] rfl ?_
  refine g_iload_n (pc1 := 46) d_Mod_sign_45 rfl 2 rfl ?_
  refine g_bipush (pc1 := 48) (v := 43) d_Mod_sign_46 rfl (by decide) ?_
  refine g_icmp_ne (pc1 := 51) (tgt := 55) d_Mod_sign_48 (by decide) rfl (fun c5 => ?_) (fun c5 => ?_)
  · replace h := itn h c5
    exact j_Mod_sign_55 hld  hQ  h
  · replace h := itp h c5
    refine g_bipush (pc1 := 53) (v := 8) d_Mod_sign_51 rfl (by decide) ?_
    refine g_istore (pc1 := 55) (lv' := [(0, .ref 401), (1, .int v1), (2, .int v2), (4, .int 8)]) d_Mod_sign_53 rfl (by decide) [1, 2, 3, 0] rfl ?_
    exact j_Mod_sign_55 hld  hQ  h
def F_Mod_sign (p1 : Int32) (p2 : Int32) (p3 : Int32) (M : gM) (L : gL) : Option (Int32 × gM × gL) :=
  (if p2 = 59 then J_Mod_sign_43 p1 p2 4 M L else (if p2 = 61 then J_Mod_sign_43 p1 p2 5 M L else (if p2 = 40 then J_Mod_sign_43 p1 p2 6 M L else (if p2 = 41 then J_Mod_sign_43 p1 p2 7 M L else J_Mod_sign_43 p1 p2 3 M L))))
set_option maxHeartbeats 4000000 in
set_option maxRecDepth 20000 in
theorem f_Mod_sign {l : Launch} {ld : Nat} {M : gM} {L : gL} {Q : Option Value → gM → gL → gR → Prop} (hld : isLa ld) {p1 : Int32} {p2 : Int32} {p3 : Int32}  {q : Int32 × gM × gL} (h : F_Mod_sign p1 p2 p3 M L = some q) (hQ : Q (some (.int q.1)) q.2.1 q.2.2 (rf ld)) : Tm l y_Mod_sign (0, 0, 447) 447 [.ref 401, .int p1, .int p2, .int p3] M L (rf ld) Q := by
  refine Tm.of (by decide) (Nat.le_of_ble_eq_true rfl) ?_
  show Wp l y_Mod_sign (0, 0, 447) 447 0 0 0 [(0, .ref 401), (1, .int p1), (2, .int p2), (3, .int p3)] [] M L (rf ld) Q
  unfold F_Mod_sign at h
  refine g_iload_n (pc1 := 1) d_Mod_sign_0 rfl 2 rfl ?_
  refine g_bipush (pc1 := 3) (v := 59) d_Mod_sign_1 rfl (by decide) ?_
  refine g_icmp_ne (pc1 := 6) (tgt := 10) d_Mod_sign_3 (by decide) rfl (fun c1 => ?_) (fun c1 => ?_)
  · replace h := itn h c1
    refine g_iload_n (pc1 := 11) d_Mod_sign_10 rfl 2 rfl ?_
    refine g_bipush (pc1 := 13) (v := 61) d_Mod_sign_11 rfl (by decide) ?_
    refine g_icmp_ne (pc1 := 16) (tgt := 20) d_Mod_sign_13 (by decide) rfl (fun c2 => ?_) (fun c2 => ?_)
    · replace h := itn h c2
      refine g_iload_n (pc1 := 21) d_Mod_sign_20 rfl 2 rfl ?_
      refine g_bipush (pc1 := 23) (v := 40) d_Mod_sign_21 rfl (by decide) ?_
      refine g_icmp_ne (pc1 := 26) (tgt := 31) d_Mod_sign_23 (by decide) rfl (fun c3 => ?_) (fun c3 => ?_)
      · replace h := itn h c3
        refine g_iload_n (pc1 := 32) d_Mod_sign_31 rfl 2 rfl ?_
        refine g_bipush (pc1 := 34) (v := 41) d_Mod_sign_32 rfl (by decide) ?_
        refine g_icmp_ne (pc1 := 37) (tgt := 42) d_Mod_sign_34 (by decide) rfl (fun c4 => ?_) (fun c4 => ?_)
        · replace h := itn h c4
          refine g_iconst (pc1 := 43) (v := 3) d_Mod_sign_42 rfl (by decide) ?_
          refine Wp.loc (lv' := [(0, .ref 401), (1, .int p1), (2, .int p2)]) [0, 1, 2] rfl ?_
          exact j_Mod_sign_43 hld  hQ  h
        · replace h := itp h c4
          refine g_bipush (pc1 := 39) (v := 7) d_Mod_sign_37 rfl (by decide) ?_
          refine g_goto (tgt := 43) d_Mod_sign_39 (by decide) ?_
          refine Wp.loc (lv' := [(0, .ref 401), (1, .int p1), (2, .int p2)]) [0, 1, 2] rfl ?_
          exact j_Mod_sign_43 hld  hQ  h
      · replace h := itp h c3
        refine g_bipush (pc1 := 28) (v := 6) d_Mod_sign_26 rfl (by decide) ?_
        refine g_goto (tgt := 43) d_Mod_sign_28 (by decide) ?_
        refine Wp.loc (lv' := [(0, .ref 401), (1, .int p1), (2, .int p2)]) [0, 1, 2] rfl ?_
        exact j_Mod_sign_43 hld  hQ  h
    · replace h := itp h c2
      refine g_iconst (pc1 := 17) (v := 5) d_Mod_sign_16 rfl (by decide) ?_
      refine g_goto (tgt := 43) d_Mod_sign_17 (by decide) ?_
      refine Wp.loc (lv' := [(0, .ref 401), (1, .int p1), (2, .int p2)]) [0, 1, 2] rfl ?_
      exact j_Mod_sign_43 hld  hQ  h
  · replace h := itp h c1
    refine g_iconst (pc1 := 7) (v := 4) d_Mod_sign_6 rfl (by decide) ?_
    refine g_goto (tgt := 43) d_Mod_sign_7 (by decide) ?_
    refine Wp.loc (lv' := [(0, .ref 401), (1, .int p1), (2, .int p2)]) [0, 1, 2] rfl ?_
    exact j_Mod_sign_43 hld  hQ  h

def F_Mod_tell (p1 : Int32) (p2 : Int32) (p3 : Int32) (M : gM) : Option (Int32 × gM) :=
  (if (M 401 64) = 20 then some ((-1), M) else bI (F_Mod_in p1 0 2) (fun r3 => (if r3 = 0 then some ((-1), M) else bI (F_Mod_in p2 0 9) (fun r6 => (if r6 = 0 then some ((-1), M) else bI (F_Mod_in p3 0 99) (fun r9 => (if r9 = 0 then some ((-1), M) else (if ((M 401 64) : Int32) < 0 ∨ 20 ≤ ((M 401 64) : Int32).toNatClampNeg then none else nmM (uM M 441 ((M 401 64) : Int32).toNatClampNeg p1) (fun M12 => (if ((M12 401 64) : Int32) < 0 ∨ 20 ≤ ((M12 401 64) : Int32).toNatClampNeg then none else nmM (uM M12 442 ((M12 401 64) : Int32).toNatClampNeg p2) (fun M14 => (if ((M14 401 64) : Int32) < 0 ∨ 20 ≤ ((M14 401 64) : Int32).toNatClampNeg then none else nmM (uM M14 443 ((M14 401 64) : Int32).toNatClampNeg p3) (fun M16 => nmM (uM M16 401 64 ((M16 401 64) + 1)) (fun M17 => some (((M17 401 64) - 1), M17)))))))))))))))
set_option maxHeartbeats 4000000 in
set_option maxRecDepth 20000 in
theorem f_Mod_tell {l : Launch} {ld : Nat} {M : gM} {L : gL} {Q : Option Value → gM → gL → gR → Prop} (hld : isLa ld) {p1 : Int32} {p2 : Int32} {p3 : Int32}  {q : Int32 × gM} (h : F_Mod_tell p1 p2 p3 M = some q) (hQ : Q (some (.int q.1)) q.2 L (rf ld)) : Tm l y_Mod_tell (0, 0, 447) 447 [.ref 401, .int p1, .int p2, .int p3] M L (rf ld) Q := by
  refine Tm.of (by decide) (Nat.le_of_ble_eq_true rfl) ?_
  show Wp l y_Mod_tell (0, 0, 447) 447 0 0 0 [(0, .ref 401), (1, .int p1), (2, .int p2), (3, .int p3)] [] M L (rf ld) Q
  unfold F_Mod_tell at h
  refine g_aload_n (pc1 := 1) d_Mod_tell_0 rfl 0 rfl ?_
  refine g_geti (pc1 := 4) d_Mod_tell_1 rfl ⟨_, fo_Mod_257⟩ sh_401 (by decide) ?_
  refine g_bipush (pc1 := 6) (v := 20) d_Mod_tell_4 rfl (by decide) ?_
  refine g_icmp_eq (pc1 := 9) (tgt := 38) d_Mod_tell_6 (by decide) rfl (fun c1 => ?_) (fun c1 => ?_)
  · replace h := itp h c1
    refine g_iconst (pc1 := 39) (v := (-1)) d_Mod_tell_38 rfl (by decide) ?_
    refine g_ireturn (Or.inl rfl) d_Mod_tell_39 rfl ?_
    cases h; exact hQ
  · replace h := itn h c1
    refine g_iload_n (pc1 := 10) d_Mod_tell_9 rfl 1 rfl ?_
    refine g_iconst (pc1 := 11) (v := 0) d_Mod_tell_10 rfl (by decide) ?_
    refine g_iconst (pc1 := 12) (v := 2) d_Mod_tell_11 rfl (by decide) ?_
    refine g_callS0 (pc1 := 15) (As := [.int p1, .int 0, .int 2]) (rest := []) d_Mod_tell_12 rfl mo_Mod_316 ms_Mod_in (by decide) rfl rfl (Nat.le_of_ble_eq_true rfl) ?_
    obtain ⟨r3, hq2, h⟩ := bnd h
    refine f_Mod_in hld  hq2 ?_
    dsimp only [psh]
    refine g_if_eq (pc1 := 18) (tgt := 38) d_Mod_tell_15 (by decide) rfl (fun c4 => ?_) (fun c4 => ?_)
    · replace h := itp h c4
      refine g_iconst (pc1 := 39) (v := (-1)) d_Mod_tell_38 rfl (by decide) ?_
      refine g_ireturn (Or.inl rfl) d_Mod_tell_39 rfl ?_
      cases h; exact hQ
    · replace h := itn h c4
      refine g_iload_n (pc1 := 19) d_Mod_tell_18 rfl 2 rfl ?_
      refine g_iconst (pc1 := 20) (v := 0) d_Mod_tell_19 rfl (by decide) ?_
      refine g_bipush (pc1 := 22) (v := 9) d_Mod_tell_20 rfl (by decide) ?_
      refine g_callS0 (pc1 := 25) (As := [.int p2, .int 0, .int 9]) (rest := []) d_Mod_tell_22 rfl mo_Mod_316 ms_Mod_in (by decide) rfl rfl (Nat.le_of_ble_eq_true rfl) ?_
      obtain ⟨r6, hq5, h⟩ := bnd h
      refine f_Mod_in hld  hq5 ?_
      dsimp only [psh]
      refine g_if_eq (pc1 := 28) (tgt := 38) d_Mod_tell_25 (by decide) rfl (fun c7 => ?_) (fun c7 => ?_)
      · replace h := itp h c7
        refine g_iconst (pc1 := 39) (v := (-1)) d_Mod_tell_38 rfl (by decide) ?_
        refine g_ireturn (Or.inl rfl) d_Mod_tell_39 rfl ?_
        cases h; exact hQ
      · replace h := itn h c7
        refine g_iload_n (pc1 := 29) d_Mod_tell_28 rfl 3 rfl ?_
        refine g_iconst (pc1 := 30) (v := 0) d_Mod_tell_29 rfl (by decide) ?_
        refine g_bipush (pc1 := 32) (v := 99) d_Mod_tell_30 rfl (by decide) ?_
        refine g_callS0 (pc1 := 35) (As := [.int p3, .int 0, .int 99]) (rest := []) d_Mod_tell_32 rfl mo_Mod_316 ms_Mod_in (by decide) rfl rfl (Nat.le_of_ble_eq_true rfl) ?_
        obtain ⟨r9, hq8, h⟩ := bnd h
        refine f_Mod_in hld  hq8 ?_
        dsimp only [psh]
        refine g_if_ne (pc1 := 38) (tgt := 40) d_Mod_tell_35 (by decide) rfl (fun c10 => ?_) (fun c10 => ?_)
        · replace h := itn h c10
          refine g_aload_n (pc1 := 41) d_Mod_tell_40 rfl 0 rfl ?_
          refine g_getr (pc1 := 44) d_Mod_tell_41 rfl ⟨_, fo_Mod_137⟩ sh_401 (by decide) (rf_401_65 ld) ?_
          refine g_aload_n (pc1 := 45) d_Mod_tell_44 rfl 0 rfl ?_
          refine g_geti (pc1 := 48) d_Mod_tell_45 rfl ⟨_, fo_Mod_257⟩ sh_401 (by decide) ?_
          refine g_iload_n (pc1 := 49) d_Mod_tell_48 rfl 1 rfl ?_
          obtain ⟨g11, h⟩ := gdn h
          refine g_iast (pc1 := 50) d_Mod_tell_49 rfl sh_441 (by decide) g11 ?_
          refine Wp.lM h (fun M12 h => ?_)
          refine g_aload_n (pc1 := 51) d_Mod_tell_50 rfl 0 rfl ?_
          refine g_getr (pc1 := 54) d_Mod_tell_51 rfl ⟨_, fo_Mod_140⟩ sh_401 (by decide) (rf_401_66 ld) ?_
          refine g_aload_n (pc1 := 55) d_Mod_tell_54 rfl 0 rfl ?_
          refine g_geti (pc1 := 58) d_Mod_tell_55 rfl ⟨_, fo_Mod_257⟩ sh_401 (by decide) ?_
          refine g_iload_n (pc1 := 59) d_Mod_tell_58 rfl 2 rfl ?_
          obtain ⟨g13, h⟩ := gdn h
          refine g_iast (pc1 := 60) d_Mod_tell_59 rfl sh_442 (by decide) g13 ?_
          refine Wp.lM h (fun M14 h => ?_)
          refine g_aload_n (pc1 := 61) d_Mod_tell_60 rfl 0 rfl ?_
          refine g_getr (pc1 := 64) d_Mod_tell_61 rfl ⟨_, fo_Mod_143⟩ sh_401 (by decide) (rf_401_67 ld) ?_
          refine g_aload_n (pc1 := 65) d_Mod_tell_64 rfl 0 rfl ?_
          refine g_geti (pc1 := 68) d_Mod_tell_65 rfl ⟨_, fo_Mod_257⟩ sh_401 (by decide) ?_
          refine g_iload_n (pc1 := 69) d_Mod_tell_68 rfl 3 rfl ?_
          obtain ⟨g15, h⟩ := gdn h
          refine g_iast (pc1 := 70) d_Mod_tell_69 rfl sh_443 (by decide) g15 ?_
          refine Wp.lM h (fun M16 h => ?_)
          refine g_aload_n (pc1 := 71) d_Mod_tell_70 rfl 0 rfl ?_
          refine g_dup (pc1 := 72) d_Mod_tell_71 rfl rfl ?_
          refine g_geti (pc1 := 75) d_Mod_tell_72 rfl ⟨_, fo_Mod_257⟩ sh_401 (by decide) ?_
          refine g_iconst (pc1 := 76) (v := 1) d_Mod_tell_75 rfl (by decide) ?_
          refine g_iadd (pc1 := 77) d_Mod_tell_76 rfl ?_
          refine g_puti (pc1 := 80) d_Mod_tell_77 rfl fo_Mod_257 (po_12_64 _) sh_401 (by decide) ?_
          refine Wp.lM h (fun M17 h => ?_)
          refine g_aload_n (pc1 := 81) d_Mod_tell_80 rfl 0 rfl ?_
          refine g_geti (pc1 := 84) d_Mod_tell_81 rfl ⟨_, fo_Mod_257⟩ sh_401 (by decide) ?_
          refine g_iconst (pc1 := 85) (v := 1) d_Mod_tell_84 rfl (by decide) ?_
          refine g_isub (pc1 := 86) d_Mod_tell_85 rfl ?_
          refine g_ireturn (Or.inl rfl) d_Mod_tell_86 rfl ?_
          cases h; exact hQ
        · replace h := itp h c10
          refine g_iconst (pc1 := 39) (v := (-1)) d_Mod_tell_38 rfl (by decide) ?_
          refine g_ireturn (Or.inl rfl) d_Mod_tell_39 rfl ?_
          cases h; exact hQ

def F_Mod_word (p1 : Int32) (p2 : Int32) (p3 : Int32) (p4 : Int32) (p5 : Int32) (p6 : Int32) (p7 : Int32) : Option (Int64) :=
  bI (F_Mod_appends 0 p1) (fun r2 => bI (F_Mod_appends r2 p2) (fun r4 => bI (F_Mod_appends r4 p3) (fun r6 => bI (F_Mod_appends r6 p4) (fun r8 => bI (F_Mod_appends r8 p5) (fun r10 => bI (F_Mod_appends r10 p6) (fun r12 => bI (F_Mod_appends r12 p7) (fun r14 => some r14)))))))
set_option maxHeartbeats 4000000 in
set_option maxRecDepth 20000 in
theorem f_Mod_word {l : Launch} {ld : Nat} {M : gM} {L : gL} {Q : Option Value → gM → gL → gR → Prop} (hld : isLa ld) {p1 : Int32} {p2 : Int32} {p3 : Int32} {p4 : Int32} {p5 : Int32} {p6 : Int32} {p7 : Int32}  {q : Int64} (h : F_Mod_word p1 p2 p3 p4 p5 p6 p7 = some q) (hQ : Q (some (.long q)) M L (rf ld)) : Tm l y_Mod_word (0, 0, 447) 447 [.int p1, .int p2, .int p3, .int p4, .int p5, .int p6, .int p7] M L (rf ld) Q := by
  refine Tm.of (by decide) (Nat.le_of_ble_eq_true rfl) ?_
  show Wp l y_Mod_word (0, 0, 447) 447 0 0 0 [(0, .int p1), (1, .int p2), (2, .int p3), (3, .int p4), (4, .int p5), (5, .int p6), (6, .int p7)] [] M L (rf ld) Q
  unfold F_Mod_word at h
  refine g_lconst (pc1 := 1) (v := 0) d_Mod_word_0 rfl (by decide) ?_
  refine g_iload_n (pc1 := 2) d_Mod_word_1 rfl 0 rfl ?_
  refine g_callS0 (pc1 := 5) (As := [.long 0, .int p1]) (rest := []) d_Mod_word_2 rfl mo_Mod_180 ms_Mod_appends (by decide) rfl rfl (Nat.le_of_ble_eq_true rfl) ?_
  obtain ⟨r2, hq1, h⟩ := bnd h
  refine f_Mod_appends hld  hq1 ?_
  dsimp only [psh]
  refine g_iload_n (pc1 := 6) d_Mod_word_5 rfl 1 rfl ?_
  refine g_callS0 (pc1 := 9) (As := [.long r2, .int p2]) (rest := []) d_Mod_word_6 rfl mo_Mod_180 ms_Mod_appends (by decide) rfl rfl (Nat.le_of_ble_eq_true rfl) ?_
  obtain ⟨r4, hq3, h⟩ := bnd h
  refine f_Mod_appends hld  hq3 ?_
  dsimp only [psh]
  refine g_iload_n (pc1 := 10) d_Mod_word_9 rfl 2 rfl ?_
  refine g_callS0 (pc1 := 13) (As := [.long r4, .int p3]) (rest := []) d_Mod_word_10 rfl mo_Mod_180 ms_Mod_appends (by decide) rfl rfl (Nat.le_of_ble_eq_true rfl) ?_
  obtain ⟨r6, hq5, h⟩ := bnd h
  refine f_Mod_appends hld  hq5 ?_
  dsimp only [psh]
  refine g_iload_n (pc1 := 14) d_Mod_word_13 rfl 3 rfl ?_
  refine g_callS0 (pc1 := 17) (As := [.long r6, .int p4]) (rest := []) d_Mod_word_14 rfl mo_Mod_180 ms_Mod_appends (by decide) rfl rfl (Nat.le_of_ble_eq_true rfl) ?_
  obtain ⟨r8, hq7, h⟩ := bnd h
  refine f_Mod_appends hld  hq7 ?_
  dsimp only [psh]
  refine g_iload (pc1 := 19) d_Mod_word_17 rfl 4 rfl ?_
  refine g_callS0 (pc1 := 22) (As := [.long r8, .int p5]) (rest := []) d_Mod_word_19 rfl mo_Mod_180 ms_Mod_appends (by decide) rfl rfl (Nat.le_of_ble_eq_true rfl) ?_
  obtain ⟨r10, hq9, h⟩ := bnd h
  refine f_Mod_appends hld  hq9 ?_
  dsimp only [psh]
  refine g_iload (pc1 := 24) d_Mod_word_22 rfl 5 rfl ?_
  refine g_callS0 (pc1 := 27) (As := [.long r10, .int p6]) (rest := []) d_Mod_word_24 rfl mo_Mod_180 ms_Mod_appends (by decide) rfl rfl (Nat.le_of_ble_eq_true rfl) ?_
  obtain ⟨r12, hq11, h⟩ := bnd h
  refine f_Mod_appends hld  hq11 ?_
  dsimp only [psh]
  refine g_iload (pc1 := 29) d_Mod_word_27 rfl 6 rfl ?_
  refine g_callS0 (pc1 := 32) (As := [.long r12, .int p7]) (rest := []) d_Mod_word_29 rfl mo_Mod_180 ms_Mod_appends (by decide) rfl rfl (Nat.le_of_ble_eq_true rfl) ?_
  obtain ⟨r14, hq13, h⟩ := bnd h
  refine f_Mod_appends hld  hq13 ?_
  dsimp only [psh]
  refine g_lreturn rfl d_Mod_word_32 rfl ?_
  cases h; exact hQ

def F_Mod_amount (p1 : Int32) (p2 : Int32) (M : gM) : Option (Int32) :=
  bI (F_Mod_isDish p1 M) (fun r2 => (if r2 = 0 then some (-1) else bI (F_Mod_isFood p2 M) (fun r5 => (if r5 = 0 then some (-1) else (if (((6 * ((5 * (M 401 18)) + p1)) + p2) : Int32) < 0 ∨ 60 ≤ (((6 * ((5 * (M 401 18)) + p1)) + p2) : Int32).toNatClampNeg then none else some (M 417 (((6 * ((5 * (M 401 18)) + p1)) + p2) : Int32).toNatClampNeg))))))
set_option maxHeartbeats 4000000 in
set_option maxRecDepth 20000 in
theorem f_Mod_amount {l : Launch} {ld : Nat} {M : gM} {L : gL} {Q : Option Value → gM → gL → gR → Prop} (hld : isLa ld) {p1 : Int32} {p2 : Int32}  {q : Int32} (h : F_Mod_amount p1 p2 M = some q) (hQ : Q (some (.int q)) M L (rf ld)) : Tm l y_Mod_amount (0, 0, 447) 447 [.ref 401, .int p1, .int p2] M L (rf ld) Q := by
  refine Tm.of (by decide) (Nat.le_of_ble_eq_true rfl) ?_
  show Wp l y_Mod_amount (0, 0, 447) 447 0 0 0 [(0, .ref 401), (1, .int p1), (2, .int p2)] [] M L (rf ld) Q
  unfold F_Mod_amount at h
  refine g_aload_n (pc1 := 1) d_Mod_amount_0 rfl 0 rfl ?_
  refine g_iload_n (pc1 := 2) d_Mod_amount_1 rfl 1 rfl ?_
  refine g_callV0 (pc1 := 5) (As := [.int p1]) (rest := []) d_Mod_amount_2 rfl mo_Mod_374 mi_Mod_isDish mv_Mod_isDish rfl sh_401 (by decide) (by decide) rfl rfl (Nat.le_of_ble_eq_true rfl) ?_
  obtain ⟨r2, hq1, h⟩ := bnd h
  refine f_Mod_isDish hld  hq1 ?_
  dsimp only [psh]
  refine g_if_eq (pc1 := 8) (tgt := 37) d_Mod_amount_5 (by decide) rfl (fun c3 => ?_) (fun c3 => ?_)
  · replace h := itp h c3
    refine g_iconst (pc1 := 38) (v := (-1)) d_Mod_amount_37 rfl (by decide) ?_
    refine g_ireturn (Or.inl rfl) d_Mod_amount_38 rfl ?_
    cases h; exact hQ
  · replace h := itn h c3
    refine g_aload_n (pc1 := 9) d_Mod_amount_8 rfl 0 rfl ?_
    refine g_iload_n (pc1 := 10) d_Mod_amount_9 rfl 2 rfl ?_
    refine g_callV0 (pc1 := 13) (As := [.int p2]) (rest := []) d_Mod_amount_10 rfl mo_Mod_371 mi_Mod_isFood mv_Mod_isFood rfl sh_401 (by decide) (by decide) rfl rfl (Nat.le_of_ble_eq_true rfl) ?_
    obtain ⟨r5, hq4, h⟩ := bnd h
    refine f_Mod_isFood hld  hq4 ?_
    dsimp only [psh]
    refine g_if_eq (pc1 := 16) (tgt := 37) d_Mod_amount_13 (by decide) rfl (fun c6 => ?_) (fun c6 => ?_)
    · replace h := itp h c6
      refine g_iconst (pc1 := 38) (v := (-1)) d_Mod_amount_37 rfl (by decide) ?_
      refine g_ireturn (Or.inl rfl) d_Mod_amount_38 rfl ?_
      cases h; exact hQ
    · replace h := itn h c6
      refine g_aload_n (pc1 := 17) d_Mod_amount_16 rfl 0 rfl ?_
      refine g_getr (pc1 := 20) d_Mod_amount_17 rfl ⟨_, fo_Mod_64⟩ sh_401 (by decide) (rf_401_29 ld) ?_
      refine g_bipush (pc1 := 22) (v := 6) d_Mod_amount_20 rfl (by decide) ?_
      refine g_iconst (pc1 := 23) (v := 5) d_Mod_amount_22 rfl (by decide) ?_
      refine g_aload_n (pc1 := 24) d_Mod_amount_23 rfl 0 rfl ?_
      refine g_geti (pc1 := 27) d_Mod_amount_24 rfl ⟨_, fo_Mod_236⟩ sh_401 (by decide) ?_
      refine g_imul (pc1 := 28) d_Mod_amount_27 rfl ?_
      refine g_iload_n (pc1 := 29) d_Mod_amount_28 rfl 1 rfl ?_
      refine g_iadd (pc1 := 30) d_Mod_amount_29 rfl ?_
      refine g_imul (pc1 := 31) d_Mod_amount_30 rfl ?_
      refine g_iload_n (pc1 := 32) d_Mod_amount_31 rfl 2 rfl ?_
      refine g_iadd (pc1 := 33) d_Mod_amount_32 rfl ?_
      obtain ⟨g7, h⟩ := gdn h
      refine g_iald (pc1 := 34) d_Mod_amount_33 rfl sh_417 (by decide) g7 ?_
      refine g_goto (tgt := 38) d_Mod_amount_34 (by decide) ?_
      refine g_ireturn (Or.inl rfl) d_Mod_amount_38 rfl ?_
      cases h; exact hQ

def J_Mod_asks_38 (v3 : Int32) (v4 : Int32) (v6 : Int32) (M : gM) : Option (Int32 × gM) :=
  bI (F_Mod_held v6 v3 v4) (fun r6 => some (r6, M))
set_option maxHeartbeats 4000000 in
set_option maxRecDepth 20000 in
theorem j_Mod_asks_38 {l : Launch} {ld : Nat} {Q : Option Value → gM → gL → gR → Prop} (hld : isLa ld)   {q : Int32 × gM} {M : gM} {L : gL} (hQ : Q (some (.int q.1)) q.2 L (rf ld))  {v3 : Int32} {v4 : Int32} {v6 : Int32}  (h : J_Mod_asks_38 v3 v4 v6 M = some q) : Wp l y_Mod_asks (0, 0, 447) 447 0 0 38 [(3, .int v3), (4, .int v4), (6, .int v6)] [] M L (rf ld) Q := by
  unfold J_Mod_asks_38 at h
  refine g_iload (pc1 := 40) d_Mod_asks_38 rfl 2 rfl ?_
  refine g_iload_n (pc1 := 41) d_Mod_asks_40 rfl 0 rfl ?_
  refine g_iload (pc1 := 43) d_Mod_asks_41 rfl 1 rfl ?_
  refine g_callS0 (pc1 := 46) (As := [.int v6, .int v3, .int v4]) (rest := []) d_Mod_asks_43 rfl mo_Mod_330 ms_Mod_held (by decide) rfl rfl (Nat.le_of_ble_eq_true rfl) ?_
  obtain ⟨r6, hq5, h⟩ := bnd h
  refine f_Mod_held hld  hq5 ?_
  dsimp only [psh]
  refine g_ireturn (Or.inl rfl) d_Mod_asks_46 rfl ?_
  cases h; exact hQ
def F_Mod_asks (p1 : Int32) (p2 : Int32) (p3 : Int32) (p4 : Int32) (M : gM) : Option (Int32 × gM) :=
  nmI ((4 * (M 401 18)) + p1) (fun x1 => (if (x1 : Int32) < 0 ∨ 8 ≤ (x1 : Int32).toNatClampNeg then none else (if (x1 : Int32) < 0 ∨ 8 ≤ (x1 : Int32).toNatClampNeg then none else (if (M 425 (x1 : Int32).toNatClampNeg) ≤ (M 424 (x1 : Int32).toNatClampNeg) then J_Mod_asks_38 p3 p4 p2 M else bI2 (F_Mod_lawTells x1 M) (fun r8 M9 => J_Mod_asks_38 p3 p4 r8 M9)))))
set_option maxHeartbeats 4000000 in
set_option maxRecDepth 20000 in
theorem f_Mod_asks {l : Launch} {ld : Nat} {M : gM} {L : gL} {Q : Option Value → gM → gL → gR → Prop} (hld : isLa ld) {p1 : Int32} {p2 : Int32} {p3 : Int32} {p4 : Int32}  {q : Int32 × gM} (h : F_Mod_asks p1 p2 p3 p4 M = some q) (hQ : Q (some (.int q.1)) q.2 L (rf ld)) : Tm l y_Mod_asks (0, 0, 447) 447 [.ref 401, .int p1, .int p2, .int p3, .int p4] M L (rf ld) Q := by
  refine Tm.of (by decide) (Nat.le_of_ble_eq_true rfl) ?_
  show Wp l y_Mod_asks (0, 0, 447) 447 0 0 0 [(0, .ref 401), (1, .int p1), (2, .int p2), (3, .int p3), (4, .int p4)] [] M L (rf ld) Q
  unfold F_Mod_asks at h
  refine g_iconst (pc1 := 1) (v := 4) d_Mod_asks_0 rfl (by decide) ?_
  refine g_aload_n (pc1 := 2) d_Mod_asks_1 rfl 0 rfl ?_
  refine g_geti (pc1 := 5) d_Mod_asks_2 rfl ⟨_, fo_Mod_236⟩ sh_401 (by decide) ?_
  refine g_imul (pc1 := 6) d_Mod_asks_5 rfl ?_
  refine g_iload_n (pc1 := 7) d_Mod_asks_6 rfl 1 rfl ?_
  refine g_iadd (pc1 := 8) d_Mod_asks_7 rfl ?_
  refine Wp.lI h (fun x1 h => ?_)
  refine g_istore (pc1 := 10) (lv' := [(0, .ref 401), (1, .int p1), (2, .int p2), (3, .int p3), (4, .int p4), (5, .int x1)]) d_Mod_asks_8 rfl (by decide) [1, 2, 3, 4, 5, 0] rfl ?_
  refine g_iload_n (pc1 := 11) d_Mod_asks_10 rfl 2 rfl ?_
  refine g_istore (pc1 := 13) (lv' := [(0, .ref 401), (1, .int p1), (2, .int p2), (3, .int p3), (4, .int p4), (5, .int x1), (6, .int p2)]) d_Mod_asks_11 rfl (by decide) [1, 2, 3, 4, 5, 6, 0] rfl ?_
  refine g_aload_n (pc1 := 14) d_Mod_asks_13 rfl 0 rfl ?_
  refine g_getr (pc1 := 17) d_Mod_asks_14 rfl ⟨_, fo_Mod_85⟩ sh_401 (by decide) (rf_401_36 ld) ?_
  refine g_iload (pc1 := 19) d_Mod_asks_17 rfl 5 rfl ?_
  obtain ⟨g2, h⟩ := gdn h
  refine g_iald (pc1 := 20) d_Mod_asks_19 rfl sh_424 (by decide) g2 ?_
  refine g_aload_n (pc1 := 21) d_Mod_asks_20 rfl 0 rfl ?_
  refine g_getr (pc1 := 24) d_Mod_asks_21 rfl ⟨_, fo_Mod_88⟩ sh_401 (by decide) (rf_401_37 ld) ?_
  refine g_iload (pc1 := 26) d_Mod_asks_24 rfl 5 rfl ?_
  obtain ⟨g3, h⟩ := gdn h
  refine g_iald (pc1 := 27) d_Mod_asks_26 rfl sh_425 (by decide) g3 ?_
  refine g_icmp_ge (pc1 := 30) (tgt := 38) d_Mod_asks_27 (by decide) rfl (fun c4 => ?_) (fun c4 => ?_)
  · replace h := itp h c4
    refine Wp.loc (lv' := [(3, .int p3), (4, .int p4), (6, .int p2)]) [3, 4, 6] rfl ?_
    exact j_Mod_asks_38 hld  hQ  h
  · replace h := itn h c4
    refine g_aload_n (pc1 := 31) d_Mod_asks_30 rfl 0 rfl ?_
    refine g_iload (pc1 := 33) d_Mod_asks_31 rfl 5 rfl ?_
    refine g_callV0 (pc1 := 36) (As := [.int x1]) (rest := []) d_Mod_asks_33 rfl mo_Mod_327 mi_Mod_lawTells mv_Mod_lawTells rfl sh_401 (by decide) (by decide) rfl rfl (Nat.le_of_ble_eq_true rfl) ?_
    obtain ⟨r8, M9, hq7, h⟩ := bnd2 h
    refine f_Mod_lawTells hld  hq7 ?_
    dsimp only [psh]
    refine g_istore (pc1 := 38) (lv' := [(0, .ref 401), (1, .int p1), (2, .int p2), (3, .int p3), (4, .int p4), (5, .int x1), (6, .int r8)]) d_Mod_asks_36 rfl (by decide) [1, 2, 3, 4, 5, 6, 0] rfl ?_
    refine Wp.loc (lv' := [(3, .int p3), (4, .int p4), (6, .int r8)]) [3, 4, 6] rfl ?_
    exact j_Mod_asks_38 hld  hQ  h

def J_Mod_bounded_15 (v1 : Int32) (M : gM) : Option (Int32 × gM) :=
  bI (F_Mod_fail 1 M) (fun M3 => some (v1, M3))
set_option maxHeartbeats 4000000 in
set_option maxRecDepth 20000 in
theorem j_Mod_bounded_15 {l : Launch} {ld : Nat} {Q : Option Value → gM → gL → gR → Prop} (hld : isLa ld)   {q : Int32 × gM} {M : gM} {L : gL} (hQ : Q (some (.int q.1)) q.2 L (rf ld))  {v1 : Int32}  (h : J_Mod_bounded_15 v1 M = some q) : Wp l y_Mod_bounded (0, 0, 447) 447 0 0 15 [(0, .ref 401), (1, .int v1)] [] M L (rf ld) Q := by
  unfold J_Mod_bounded_15 at h
  refine g_aload_n (pc1 := 16) d_Mod_bounded_15 rfl 0 rfl ?_
  refine g_iconst (pc1 := 17) (v := 1) d_Mod_bounded_16 rfl (by decide) ?_
  refine g_callV0 (pc1 := 20) (As := [.int 1]) (rest := []) d_Mod_bounded_17 rfl mo_Mod_221 mi_Mod_fail mv_Mod_fail rfl sh_401 (by decide) (by decide) rfl rfl (Nat.le_of_ble_eq_true rfl) ?_
  obtain ⟨M3, hq2, h⟩ := bnd h
  refine f_Mod_fail hld  hq2 ?_
  dsimp only [psh]
  refine g_iload_n (pc1 := 21) d_Mod_bounded_20 rfl 1 rfl ?_
  refine g_ireturn (Or.inl rfl) d_Mod_bounded_21 rfl ?_
  cases h; exact hQ
def J_Mod_bounded_51 (v3 : Int32) (M : gM) : Option (Int32 × gM) :=
  bI (F_Mod_goesOn M) (fun M13 => some (v3, M13))
set_option maxHeartbeats 4000000 in
set_option maxRecDepth 20000 in
theorem j_Mod_bounded_51 {l : Launch} {ld : Nat} {Q : Option Value → gM → gL → gR → Prop} (hld : isLa ld)   {q : Int32 × gM} {M : gM} {L : gL} (hQ : Q (some (.int q.1)) q.2 L (rf ld))  {v3 : Int32}  (h : J_Mod_bounded_51 v3 M = some q) : Wp l y_Mod_bounded (0, 0, 447) 447 0 0 51 [(0, .ref 401), (3, .int v3)] [] M L (rf ld) Q := by
  unfold J_Mod_bounded_51 at h
  refine g_aload_n (pc1 := 52) d_Mod_bounded_51 rfl 0 rfl ?_
  refine g_callV0 (pc1 := 55) (As := []) (rest := []) d_Mod_bounded_52 rfl mo_Mod_227 mi_Mod_goesOn mv_Mod_goesOn rfl sh_401 (by decide) (by decide) rfl rfl (Nat.le_of_ble_eq_true rfl) ?_
  obtain ⟨M13, hq12, h⟩ := bnd h
  refine f_Mod_goesOn hld  hq12 ?_
  dsimp only [psh]
  refine g_iload_n (pc1 := 56) d_Mod_bounded_55 rfl 1 rfl ?_
  refine g_ireturn (Or.inl rfl) d_Mod_bounded_56 rfl ?_
  cases h; exact hQ
def J_Mod_bounded_42 (v3 : Int32) (M : gM) : Option (Int32 × gM) :=
  bI (F_Mod_wrong 5 (M 401 11) M) (fun M11 => J_Mod_bounded_51 v3 M11)
set_option maxHeartbeats 4000000 in
set_option maxRecDepth 20000 in
theorem j_Mod_bounded_42 {l : Launch} {ld : Nat} {Q : Option Value → gM → gL → gR → Prop} (hld : isLa ld)   {q : Int32 × gM} {M : gM} {L : gL} (hQ : Q (some (.int q.1)) q.2 L (rf ld))  {v3 : Int32}  (h : J_Mod_bounded_42 v3 M = some q) : Wp l y_Mod_bounded (0, 0, 447) 447 0 0 42 [(0, .ref 401), (3, .int v3)] [] M L (rf ld) Q := by
  unfold J_Mod_bounded_42 at h
  refine g_aload_n (pc1 := 43) d_Mod_bounded_42 rfl 0 rfl ?_
  refine g_iconst (pc1 := 44) (v := 5) d_Mod_bounded_43 rfl (by decide) ?_
  refine g_aload_n (pc1 := 45) d_Mod_bounded_44 rfl 0 rfl ?_
  refine g_geti (pc1 := 48) d_Mod_bounded_45 rfl ⟨_, fo_Mod_209⟩ sh_401 (by decide) ?_
  refine g_callV0 (pc1 := 51) (As := [.int 5, .int (M 401 11)]) (rest := []) d_Mod_bounded_48 rfl mo_Mod_287 mi_Mod_wrong mv_Mod_wrong rfl sh_401 (by decide) (by decide) rfl rfl (Nat.le_of_ble_eq_true rfl) ?_
  obtain ⟨M11, hq10, h⟩ := bnd h
  refine f_Mod_wrong hld  hq10 ?_
  dsimp only [psh]
  exact j_Mod_bounded_51 hld  hQ  h
def F_Mod_bounded (p1 : Int32) (p2 : Int32) (M : gM) : Option (Int32 × gM) :=
  (if 0 < (M 401 13) then J_Mod_bounded_15 p1 M else bI (F_Mod_is 2 M) (fun r5 => (if r5 = 0 then J_Mod_bounded_15 p1 M else (if ((M 401 11) : Int32) < 0 ∨ 403 ≤ ((M 401 11) : Int32).toNatClampNeg then none else nmI (M 406 ((M 401 11) : Int32).toNatClampNeg) (fun x8 => (if x8 < p1 then J_Mod_bounded_42 x8 M else (if x8 ≤ p2 then J_Mod_bounded_51 x8 M else J_Mod_bounded_42 x8 M)))))))
set_option maxHeartbeats 4000000 in
set_option maxRecDepth 20000 in
theorem f_Mod_bounded {l : Launch} {ld : Nat} {M : gM} {L : gL} {Q : Option Value → gM → gL → gR → Prop} (hld : isLa ld) {p1 : Int32} {p2 : Int32}  {q : Int32 × gM} (h : F_Mod_bounded p1 p2 M = some q) (hQ : Q (some (.int q.1)) q.2 L (rf ld)) : Tm l y_Mod_bounded (0, 0, 447) 447 [.ref 401, .int p1, .int p2] M L (rf ld) Q := by
  refine Tm.of (by decide) (Nat.le_of_ble_eq_true rfl) ?_
  show Wp l y_Mod_bounded (0, 0, 447) 447 0 0 0 [(0, .ref 401), (1, .int p1), (2, .int p2)] [] M L (rf ld) Q
  unfold F_Mod_bounded at h
  refine g_aload_n (pc1 := 1) d_Mod_bounded_0 rfl 0 rfl ?_
  refine g_geti (pc1 := 4) d_Mod_bounded_1 rfl ⟨_, fo_Mod_206⟩ sh_401 (by decide) ?_
  refine g_if_gt (pc1 := 7) (tgt := 15) d_Mod_bounded_4 (by decide) rfl (fun c1 => ?_) (fun c1 => ?_)
  · replace h := itp h c1
    refine Wp.loc (lv' := [(0, .ref 401), (1, .int p1)]) [0, 1] rfl ?_
    exact j_Mod_bounded_15 hld  hQ  h
  · replace h := itn h c1
    refine g_aload_n (pc1 := 8) d_Mod_bounded_7 rfl 0 rfl ?_
    refine g_iconst (pc1 := 9) (v := 2) d_Mod_bounded_8 rfl (by decide) ?_
    refine g_callV0 (pc1 := 12) (As := [.int 2]) (rest := []) d_Mod_bounded_9 rfl mo_Mod_224 mi_Mod_is mv_Mod_is rfl sh_401 (by decide) (by decide) rfl rfl (Nat.le_of_ble_eq_true rfl) ?_
    obtain ⟨r5, hq4, h⟩ := bnd h
    refine f_Mod_is hld  hq4 ?_
    dsimp only [psh]
    refine g_if_ne (pc1 := 15) (tgt := 22) d_Mod_bounded_12 (by decide) rfl (fun c6 => ?_) (fun c6 => ?_)
    · replace h := itn h c6
      refine g_aload_n (pc1 := 23) d_Mod_bounded_22 rfl 0 rfl ?_
      refine g_getr (pc1 := 26) d_Mod_bounded_23 rfl ⟨_, fo_Mod_27⟩ sh_401 (by decide) (rf_401_7 ld) ?_
      refine g_aload_n (pc1 := 27) d_Mod_bounded_26 rfl 0 rfl ?_
      refine g_geti (pc1 := 30) d_Mod_bounded_27 rfl ⟨_, fo_Mod_209⟩ sh_401 (by decide) ?_
      obtain ⟨g7, h⟩ := gdn h
      refine g_iald (pc1 := 31) d_Mod_bounded_30 rfl sh_406 (by decide) g7 ?_
      refine Wp.lI h (fun x8 h => ?_)
      refine g_istore_n (pc1 := 32) (lv' := [(0, .ref 401), (1, .int p1), (2, .int p2), (3, .int x8)]) d_Mod_bounded_31 rfl rfl (by decide) [1, 2, 3, 0] rfl ?_
      refine g_iload_n (pc1 := 33) d_Mod_bounded_32 rfl 3 rfl ?_
      refine g_iload_n (pc1 := 34) d_Mod_bounded_33 rfl 1 rfl ?_
      refine g_icmp_lt (pc1 := 37) (tgt := 42) d_Mod_bounded_34 (by decide) rfl (fun c9 => ?_) (fun c9 => ?_)
      · replace h := itp h c9
        refine Wp.loc (lv' := [(0, .ref 401), (3, .int x8)]) [0, 3] rfl ?_
        exact j_Mod_bounded_42 hld  hQ  h
      · replace h := itn h c9
        refine g_iload_n (pc1 := 38) d_Mod_bounded_37 rfl 3 rfl ?_
        refine g_iload_n (pc1 := 39) d_Mod_bounded_38 rfl 2 rfl ?_
        refine g_icmp_le (pc1 := 42) (tgt := 51) d_Mod_bounded_39 (by decide) rfl (fun c14 => ?_) (fun c14 => ?_)
        · replace h := itp h c14
          refine Wp.loc (lv' := [(0, .ref 401), (3, .int x8)]) [0, 3] rfl ?_
          exact j_Mod_bounded_51 hld  hQ  h
        · replace h := itn h c14
          refine Wp.loc (lv' := [(0, .ref 401), (3, .int x8)]) [0, 3] rfl ?_
          exact j_Mod_bounded_42 hld  hQ  h
    · replace h := itp h c6
      refine Wp.loc (lv' := [(0, .ref 401), (1, .int p1)]) [0, 1] rfl ?_
      exact j_Mod_bounded_15 hld  hQ  h

def J_Mod_cut_291 (K7 : Int32 → gM → gL → Option (gM × gL)) (v1 : Int32) (M : gM) (L : gL) : Option (gM × gL) :=
  K7 v1 M L
set_option maxHeartbeats 4000000 in
set_option maxRecDepth 20000 in
theorem j_Mod_cut_291 {l : Launch} {ld : Nat} {Q : Option Value → gM → gL → gR → Prop} (hld : isLa ld)   {q : gM × gL} {M : gM} {L : gL} (hQ : Q none q.1 q.2 (rf ld)) {K7 : Int32 → gM → gL → Option (gM × gL)} {v1 : Int32} (hK7 : ∀ (w1 : Int32) (M : gM) (L : gL), K7 w1 M L = some q → Wp l y_Mod_cut (0, 0, 447) 447 0 0 7 [(0, .ref 401), (1, .int w1)] [] M L (rf ld) Q) (h : J_Mod_cut_291 K7 v1 M L = some q) : Wp l y_Mod_cut (0, 0, 447) 447 0 0 291 [(0, .ref 401), (1, .int v1)] [] M L (rf ld) Q := by
  unfold J_Mod_cut_291 at h
  refine g_goto (tgt := 7) d_Mod_cut_291 (by decide) ?_
  exact hK7 v1 M L h
def J_Mod_cut_67 (K7 : Int32 → gM → gL → Option (gM × gL)) (v1 : Int32) (M : gM) (L : gL) : Option (gM × gL) :=
  nmI (v1 + 1) (fun x7 => J_Mod_cut_291 K7 x7 M L)
set_option maxHeartbeats 4000000 in
set_option maxRecDepth 20000 in
theorem j_Mod_cut_67 {l : Launch} {ld : Nat} {Q : Option Value → gM → gL → gR → Prop} (hld : isLa ld)   {q : gM × gL} {M : gM} {L : gL} (hQ : Q none q.1 q.2 (rf ld)) {K7 : Int32 → gM → gL → Option (gM × gL)} {v1 : Int32} (hK7 : ∀ (w1 : Int32) (M : gM) (L : gL), K7 w1 M L = some q → Wp l y_Mod_cut (0, 0, 447) 447 0 0 7 [(0, .ref 401), (1, .int w1)] [] M L (rf ld) Q) (h : J_Mod_cut_67 K7 v1 M L = some q) : Wp l y_Mod_cut (0, 0, 447) 447 0 0 67 [(0, .ref 401), (1, .int v1)] [] M L (rf ld) Q := by
  unfold J_Mod_cut_67 at h
  obtain ⟨x7, ex7, h⟩ := ltI h
  refine g_iinc (pc1 := 70) (v := x7) (lv' := [(0, .ref 401), (1, .int x7)]) d_Mod_cut_67 rfl 1 rfl (by rw [ex7]; rfl) (by decide) [1, 0] rfl ?_
  refine g_goto (tgt := 291) d_Mod_cut_70 (by decide) ?_
  exact j_Mod_cut_291 hld  hQ hK7 h
def J_Mod_cut_261 (K7 : Int32 → gM → gL → Option (gM × gL)) (v1 : Int32) (v3 : Int32) (v4 : Int32) (s1 : Int32) (M : gM) (L : gL) : Option (gM × gL) :=
  bI2 (F_Mod_token s1 v1 v4 0 M L) (fun M31 L32 => nmI (v1 + v3) (fun x33 => J_Mod_cut_291 K7 x33 M31 L32))
set_option maxHeartbeats 4000000 in
set_option maxRecDepth 20000 in
theorem j_Mod_cut_261 {l : Launch} {ld : Nat} {Q : Option Value → gM → gL → gR → Prop} (hld : isLa ld)   {q : gM × gL} {M : gM} {L : gL} (hQ : Q none q.1 q.2 (rf ld)) {K7 : Int32 → gM → gL → Option (gM × gL)} {v1 : Int32} {v3 : Int32} {v4 : Int32} {s1 : Int32} (hK7 : ∀ (w1 : Int32) (M : gM) (L : gL), K7 w1 M L = some q → Wp l y_Mod_cut (0, 0, 447) 447 0 0 7 [(0, .ref 401), (1, .int w1)] [] M L (rf ld) Q) (h : J_Mod_cut_261 K7 v1 v3 v4 s1 M L = some q) : Wp l y_Mod_cut (0, 0, 447) 447 0 0 261 [(0, .ref 401), (1, .int v1), (3, .int v3), (4, .int v4)] [.int s1, .ref 401] M L (rf ld) Q := by
  unfold J_Mod_cut_261 at h
  refine g_iload_n (pc1 := 262) d_Mod_cut_261 rfl 1 rfl ?_
  refine g_iload (pc1 := 264) d_Mod_cut_262 rfl 3 rfl ?_
  refine g_lconst (pc1 := 265) (v := 0) d_Mod_cut_264 rfl (by decide) ?_
  refine g_callV0 (pc1 := 268) (As := [.int s1, .int v1, .int v4, .long 0]) (rest := []) d_Mod_cut_265 rfl mo_Mod_191 mi_Mod_token mv_Mod_token rfl sh_401 (by decide) (by decide) rfl rfl (Nat.le_of_ble_eq_true rfl) ?_
  obtain ⟨M31, L32, hq30, h⟩ := bnd2 h
  refine f_Mod_token hld  hq30 ?_
  dsimp only [psh]
  refine g_iload_n (pc1 := 269) d_Mod_cut_268 rfl 1 rfl ?_
  refine g_iload_n (pc1 := 270) d_Mod_cut_269 rfl 2 rfl ?_
  refine g_iadd (pc1 := 271) d_Mod_cut_270 rfl ?_
  refine Wp.lI h (fun x33 h => ?_)
  refine g_istore_n (pc1 := 272) (lv' := [(0, .ref 401), (1, .int x33), (3, .int v3), (4, .int v4)]) d_Mod_cut_271 rfl rfl (by decide) [1, 0, 2, 3] rfl ?_
  refine g_goto (tgt := 291) d_Mod_cut_272 (by decide) ?_
  refine Wp.loc (lv' := [(0, .ref 401), (1, .int x33)]) [0, 1] rfl ?_
  exact j_Mod_cut_291 hld  hQ hK7 h
def J_Mod_cut_250 (K7 : Int32 → gM → gL → Option (gM × gL)) (v1 : Int32) (v3 : Int32) (v4 : Int32) (M : gM) (L : gL) : Option (gM × gL) :=
  (if v3 ≤ 4 then J_Mod_cut_261 K7 v1 v3 v4 2 M L else J_Mod_cut_261 K7 v1 v3 v4 3 M L)
set_option maxHeartbeats 4000000 in
set_option maxRecDepth 20000 in
theorem j_Mod_cut_250 {l : Launch} {ld : Nat} {Q : Option Value → gM → gL → gR → Prop} (hld : isLa ld)   {q : gM × gL} {M : gM} {L : gL} (hQ : Q none q.1 q.2 (rf ld)) {K7 : Int32 → gM → gL → Option (gM × gL)} {v1 : Int32} {v3 : Int32} {v4 : Int32} (hK7 : ∀ (w1 : Int32) (M : gM) (L : gL), K7 w1 M L = some q → Wp l y_Mod_cut (0, 0, 447) 447 0 0 7 [(0, .ref 401), (1, .int w1)] [] M L (rf ld) Q) (h : J_Mod_cut_250 K7 v1 v3 v4 M L = some q) : Wp l y_Mod_cut (0, 0, 447) 447 0 0 250 [(0, .ref 401), (1, .int v1), (3, .int v3), (4, .int v4)] [] M L (rf ld) Q := by
  unfold J_Mod_cut_250 at h
  refine g_aload_n (pc1 := 251) d_Mod_cut_250 rfl 0 rfl ?_
  refine g_iload_n (pc1 := 252) d_Mod_cut_251 rfl 2 rfl ?_
  refine g_iconst (pc1 := 253) (v := 4) d_Mod_cut_252 rfl (by decide) ?_
  refine g_icmp_le (pc1 := 256) (tgt := 260) d_Mod_cut_253 (by decide) rfl (fun c29 => ?_) (fun c29 => ?_)
  · replace h := itp h c29
    refine g_iconst (pc1 := 261) (v := 2) d_Mod_cut_260 rfl (by decide) ?_
    exact j_Mod_cut_261 hld  hQ hK7 h
  · replace h := itn h c29
    refine g_iconst (pc1 := 257) (v := 3) d_Mod_cut_256 rfl (by decide) ?_
    refine g_goto (tgt := 261) d_Mod_cut_257 (by decide) ?_
    exact j_Mod_cut_261 hld  hQ hK7 h
def J_Mod_cut_244 (K7 : Int32 → gM → gL → Option (gM × gL)) (K208 : Int32 → Int32 → Option (gM × gL)) (v1 : Int32) (v3 : Int32) (v4 : Int32) (M : gM) (L : gL) : Option (gM × gL) :=
  nmI (v3 + 1) (fun x35 => K208 x35 v4)
set_option maxHeartbeats 4000000 in
set_option maxRecDepth 20000 in
theorem j_Mod_cut_244 {l : Launch} {ld : Nat} {Q : Option Value → gM → gL → gR → Prop} (hld : isLa ld)   {q : gM × gL} {M : gM} {L : gL} (hQ : Q none q.1 q.2 (rf ld)) {K7 : Int32 → gM → gL → Option (gM × gL)} {K208 : Int32 → Int32 → Option (gM × gL)} {v1 : Int32} {v3 : Int32} {v4 : Int32} (hK7 : ∀ (w1 : Int32) (M : gM) (L : gL), K7 w1 M L = some q → Wp l y_Mod_cut (0, 0, 447) 447 0 0 7 [(0, .ref 401), (1, .int w1)] [] M L (rf ld) Q) (hK208 : ∀ (w3 : Int32) (w4 : Int32), K208 w3 w4 = some q → Wp l y_Mod_cut (0, 0, 447) 447 0 0 208 [(0, .ref 401), (1, .int v1), (3, .int w3), (4, .int w4)] [] M L (rf ld) Q) (h : J_Mod_cut_244 K7 K208 v1 v3 v4 M L = some q) : Wp l y_Mod_cut (0, 0, 447) 447 0 0 244 [(0, .ref 401), (1, .int v1), (3, .int v3), (4, .int v4)] [] M L (rf ld) Q := by
  unfold J_Mod_cut_244 at h
  obtain ⟨x35, ex35, h⟩ := ltI h
  refine g_iinc (pc1 := 247) (v := x35) (lv' := [(0, .ref 401), (1, .int v1), (3, .int x35), (4, .int v4)]) d_Mod_cut_244 rfl 2 rfl (by rw [ex35]; rfl) (by decide) [1, 2, 0, 3] rfl ?_
  refine g_goto (tgt := 208) d_Mod_cut_247 (by decide) ?_
  exact hK208 x35 v4 h
def B_Mod_cut_208 (K7 : Int32 → gM → gL → Option (gM × gL)) (v1 : Int32) (M : gM) (L : gL) (K208 : Int32 → Int32 → Option (gM × gL)) : Int32 → Int32 → Option (gM × gL) := fun v3 v4 =>
  bI (F_Mod_byteAt (v1 + v3) M) (fun r25 => bI (F_Mod_isDigit r25) (fun r27 => (if r27 = 0 then J_Mod_cut_250 K7 v1 v3 v4 M L else (if 4 ≤ v3 then J_Mod_cut_244 K7 K208 v1 v3 v4 M L else bI (F_Mod_byteAt (v1 + v3) M) (fun r37 => nmI (((10 * v4) + r37) - 48) (fun x38 => J_Mod_cut_244 K7 K208 v1 v3 x38 M L))))))
def H_Mod_cut_208 (K7 : Int32 → gM → gL → Option (gM × gL)) (v1 : Int32) (M : gM) (L : gL) : Nat → Int32 → Int32 → Option (gM × gL) := lpK (B_Mod_cut_208 K7 v1 M L) (fun _ _ => none)
set_option maxHeartbeats 4000000 in
set_option maxRecDepth 20000 in
theorem h_Mod_cut_208 {l : Launch} {ld : Nat} {Q : Option Value → gM → gL → gR → Prop} (hld : isLa ld)   {q : gM × gL} {M : gM} {L : gL} (hQ : Q none q.1 q.2 (rf ld)) {K7 : Int32 → gM → gL → Option (gM × gL)} {v1 : Int32} (hK7 : ∀ (w1 : Int32) (M : gM) (L : gL), K7 w1 M L = some q → Wp l y_Mod_cut (0, 0, 447) 447 0 0 7 [(0, .ref 401), (1, .int w1)] [] M L (rf ld) Q) : ∀ (f : Nat) (v3 : Int32) (v4 : Int32), H_Mod_cut_208 K7 v1 M L f v3 v4 = some q → Wp l y_Mod_cut (0, 0, 447) 447 0 0 208 [(0, .ref 401), (1, .int v1), (3, .int v3), (4, .int v4)] [] M L (rf ld) Q := by
  intro f
  induction f with
  | zero => intro v3 v4 h; cases h
  | succ f hK208 =>
    intro v3 v4 h
    replace h : B_Mod_cut_208 K7 v1 M L (H_Mod_cut_208 K7 v1 M L f) v3 v4 = some q := h
    unfold B_Mod_cut_208 at h
    refine g_aload_n (pc1 := 209) d_Mod_cut_208 rfl 0 rfl ?_
    refine g_iload_n (pc1 := 210) d_Mod_cut_209 rfl 1 rfl ?_
    refine g_iload_n (pc1 := 211) d_Mod_cut_210 rfl 2 rfl ?_
    refine g_iadd (pc1 := 212) d_Mod_cut_211 rfl ?_
    refine g_callV0 (pc1 := 215) (As := [.int (v1 + v3)]) (rest := []) d_Mod_cut_212 rfl mo_Mod_187 mi_Mod_byteAt mv_Mod_byteAt rfl sh_401 (by decide) (by decide) rfl rfl (Nat.le_of_ble_eq_true rfl) ?_
    obtain ⟨r25, hq24, h⟩ := bnd h
    refine f_Mod_byteAt hld  hq24 ?_
    dsimp only [psh]
    refine g_callS0 (pc1 := 218) (As := [.int r25]) (rest := []) d_Mod_cut_215 rfl mo_Mod_199 ms_Mod_isDigit (by decide) rfl rfl (Nat.le_of_ble_eq_true rfl) ?_
    obtain ⟨r27, hq26, h⟩ := bnd h
    refine f_Mod_isDigit hld  hq26 ?_
    dsimp only [psh]
    refine g_if_eq (pc1 := 221) (tgt := 250) d_Mod_cut_218 (by decide) rfl (fun c28 => ?_) (fun c28 => ?_)
    · replace h := itp h c28
      exact j_Mod_cut_250 hld  hQ hK7 h
    · replace h := itn h c28
      refine g_iload_n (pc1 := 222) d_Mod_cut_221 rfl 2 rfl ?_
      refine g_iconst (pc1 := 223) (v := 4) d_Mod_cut_222 rfl (by decide) ?_
      refine g_icmp_ge (pc1 := 226) (tgt := 244) d_Mod_cut_223 (by decide) rfl (fun c34 => ?_) (fun c34 => ?_)
      · replace h := itp h c34
        exact j_Mod_cut_244 hld  hQ hK7 hK208 h
      · replace h := itn h c34
        refine g_bipush (pc1 := 228) (v := 10) d_Mod_cut_226 rfl (by decide) ?_
        refine g_iload (pc1 := 230) d_Mod_cut_228 rfl 3 rfl ?_
        refine g_imul (pc1 := 231) d_Mod_cut_230 rfl ?_
        refine g_aload_n (pc1 := 232) d_Mod_cut_231 rfl 0 rfl ?_
        refine g_iload_n (pc1 := 233) d_Mod_cut_232 rfl 1 rfl ?_
        refine g_iload_n (pc1 := 234) d_Mod_cut_233 rfl 2 rfl ?_
        refine g_iadd (pc1 := 235) d_Mod_cut_234 rfl ?_
        refine g_callV0 (pc1 := 238) (As := [.int (v1 + v3)]) (rest := [.int (10 * v4)]) d_Mod_cut_235 rfl mo_Mod_187 mi_Mod_byteAt mv_Mod_byteAt rfl sh_401 (by decide) (by decide) rfl rfl (Nat.le_of_ble_eq_true rfl) ?_
        obtain ⟨r37, hq36, h⟩ := bnd h
        refine f_Mod_byteAt hld  hq36 ?_
        dsimp only [psh]
        refine g_iadd (pc1 := 239) d_Mod_cut_238 rfl ?_
        refine g_bipush (pc1 := 241) (v := 48) d_Mod_cut_239 rfl (by decide) ?_
        refine g_isub (pc1 := 242) d_Mod_cut_241 rfl ?_
        refine Wp.lI h (fun x38 h => ?_)
        refine g_istore (pc1 := 244) (lv' := [(0, .ref 401), (1, .int v1), (3, .int v3), (4, .int x38)]) d_Mod_cut_242 rfl (by decide) [1, 2, 3, 0] rfl ?_
        exact j_Mod_cut_244 hld  hQ hK7 hK208 h
def J_Mod_cut_179 (K7 : Int32 → gM → gL → Option (gM × gL)) (v1 : Int32) (v3 : Int32) (v4 : Int64) (v6 : Int32) (M : gM) (L : gL) : Option (gM × gL) :=
  bI2 (F_Mod_token v6 v1 0 v4 M L) (fun M47 L48 => nmI (v1 + v3) (fun x49 => J_Mod_cut_291 K7 x49 M47 L48))
set_option maxHeartbeats 4000000 in
set_option maxRecDepth 20000 in
theorem j_Mod_cut_179 {l : Launch} {ld : Nat} {Q : Option Value → gM → gL → gR → Prop} (hld : isLa ld)   {q : gM × gL} {M : gM} {L : gL} (hQ : Q none q.1 q.2 (rf ld)) {K7 : Int32 → gM → gL → Option (gM × gL)} {v1 : Int32} {v3 : Int32} {v4 : Int64} {v6 : Int32} (hK7 : ∀ (w1 : Int32) (M : gM) (L : gL), K7 w1 M L = some q → Wp l y_Mod_cut (0, 0, 447) 447 0 0 7 [(0, .ref 401), (1, .int w1)] [] M L (rf ld) Q) (h : J_Mod_cut_179 K7 v1 v3 v4 v6 M L = some q) : Wp l y_Mod_cut (0, 0, 447) 447 0 0 179 [(0, .ref 401), (1, .int v1), (3, .int v3), (4, .long v4), (6, .int v6)] [] M L (rf ld) Q := by
  unfold J_Mod_cut_179 at h
  refine g_aload_n (pc1 := 180) d_Mod_cut_179 rfl 0 rfl ?_
  refine g_iload (pc1 := 182) d_Mod_cut_180 rfl 4 rfl ?_
  refine g_iload_n (pc1 := 183) d_Mod_cut_182 rfl 1 rfl ?_
  refine g_iconst (pc1 := 184) (v := 0) d_Mod_cut_183 rfl (by decide) ?_
  refine g_lload (pc1 := 186) d_Mod_cut_184 rfl 3 rfl ?_
  refine g_callV0 (pc1 := 189) (As := [.int v6, .int v1, .int 0, .long v4]) (rest := []) d_Mod_cut_186 rfl mo_Mod_191 mi_Mod_token mv_Mod_token rfl sh_401 (by decide) (by decide) rfl rfl (Nat.le_of_ble_eq_true rfl) ?_
  obtain ⟨M47, L48, hq46, h⟩ := bnd2 h
  refine f_Mod_token hld  hq46 ?_
  dsimp only [psh]
  refine g_iload_n (pc1 := 190) d_Mod_cut_189 rfl 1 rfl ?_
  refine g_iload_n (pc1 := 191) d_Mod_cut_190 rfl 2 rfl ?_
  refine g_iadd (pc1 := 192) d_Mod_cut_191 rfl ?_
  refine Wp.lI h (fun x49 h => ?_)
  refine g_istore_n (pc1 := 193) (lv' := [(0, .ref 401), (1, .int x49), (3, .int v3), (4, .long v4), (6, .int v6)]) d_Mod_cut_192 rfl rfl (by decide) [1, 0, 2, 3, 4] rfl ?_
  refine g_goto (tgt := 291) d_Mod_cut_193 (by decide) ?_
  refine Wp.loc (lv' := [(0, .ref 401), (1, .int x49)]) [0, 1] rfl ?_
  exact j_Mod_cut_291 hld  hQ hK7 h
def J_Mod_cut_173 (K7 : Int32 → gM → gL → Option (gM × gL)) (K146 : Int32 → Int32 → Option (gM × gL)) (v1 : Int32) (v3 : Int32) (v4 : Int64) (v6 : Int32) (v7 : Int32) (M : gM) (L : gL) : Option (gM × gL) :=
  nmI (v7 + 1) (fun x53 => K146 v6 x53)
set_option maxHeartbeats 4000000 in
set_option maxRecDepth 20000 in
theorem j_Mod_cut_173 {l : Launch} {ld : Nat} {Q : Option Value → gM → gL → gR → Prop} (hld : isLa ld)   {q : gM × gL} {M : gM} {L : gL} (hQ : Q none q.1 q.2 (rf ld)) {K7 : Int32 → gM → gL → Option (gM × gL)} {K146 : Int32 → Int32 → Option (gM × gL)} {v1 : Int32} {v3 : Int32} {v4 : Int64} {v6 : Int32} {v7 : Int32} (hK7 : ∀ (w1 : Int32) (M : gM) (L : gL), K7 w1 M L = some q → Wp l y_Mod_cut (0, 0, 447) 447 0 0 7 [(0, .ref 401), (1, .int w1)] [] M L (rf ld) Q) (hK146 : ∀ (w6 : Int32) (w7 : Int32), K146 w6 w7 = some q → Wp l y_Mod_cut (0, 0, 447) 447 0 0 146 [(0, .ref 401), (1, .int v1), (3, .int v3), (4, .long v4), (6, .int w6), (7, .int w7)] [] M L (rf ld) Q) (h : J_Mod_cut_173 K7 K146 v1 v3 v4 v6 v7 M L = some q) : Wp l y_Mod_cut (0, 0, 447) 447 0 0 173 [(0, .ref 401), (1, .int v1), (3, .int v3), (4, .long v4), (6, .int v6), (7, .int v7)] [] M L (rf ld) Q := by
  unfold J_Mod_cut_173 at h
  obtain ⟨x53, ex53, h⟩ := ltI h
  refine g_iinc (pc1 := 176) (v := x53) (lv' := [(0, .ref 401), (1, .int v1), (3, .int v3), (4, .long v4), (6, .int v6), (7, .int x53)]) d_Mod_cut_173 rfl 5 rfl (by rw [ex53]; rfl) (by decide) [1, 2, 3, 4, 5, 0] rfl ?_
  refine g_goto (tgt := 146) d_Mod_cut_176 (by decide) ?_
  exact hK146 v6 x53 h
def B_Mod_cut_146 (K7 : Int32 → gM → gL → Option (gM × gL)) (v1 : Int32) (v3 : Int32) (v4 : Int64) (M : gM) (L : gL) (K146 : Int32 → Int32 → Option (gM × gL)) : Int32 → Int32 → Option (gM × gL) := fun v6 v7 =>
  (if 21 ≤ v7 then J_Mod_cut_179 K7 v1 v3 v4 v6 M L else (if (v7 : Int32) < 0 ∨ 21 ≤ (v7 : Int32).toNatClampNeg then none else (if (lg_cmp (L 408 (v7 : Int32).toNatClampNeg) v4) = 0 then nmI (20 + v7) (fun x54 => J_Mod_cut_173 K7 K146 v1 v3 v4 x54 v7 M L) else J_Mod_cut_173 K7 K146 v1 v3 v4 v6 v7 M L)))
def H_Mod_cut_146 (K7 : Int32 → gM → gL → Option (gM × gL)) (v1 : Int32) (v3 : Int32) (v4 : Int64) (M : gM) (L : gL) : Nat → Int32 → Int32 → Option (gM × gL) := lpK (B_Mod_cut_146 K7 v1 v3 v4 M L) (fun _ _ => none)
set_option maxHeartbeats 4000000 in
set_option maxRecDepth 20000 in
theorem h_Mod_cut_146 {l : Launch} {ld : Nat} {Q : Option Value → gM → gL → gR → Prop} (hld : isLa ld)   {q : gM × gL} {M : gM} {L : gL} (hQ : Q none q.1 q.2 (rf ld)) {K7 : Int32 → gM → gL → Option (gM × gL)} {v1 : Int32} {v3 : Int32} {v4 : Int64} (hK7 : ∀ (w1 : Int32) (M : gM) (L : gL), K7 w1 M L = some q → Wp l y_Mod_cut (0, 0, 447) 447 0 0 7 [(0, .ref 401), (1, .int w1)] [] M L (rf ld) Q) : ∀ (f : Nat) (v6 : Int32) (v7 : Int32), H_Mod_cut_146 K7 v1 v3 v4 M L f v6 v7 = some q → Wp l y_Mod_cut (0, 0, 447) 447 0 0 146 [(0, .ref 401), (1, .int v1), (3, .int v3), (4, .long v4), (6, .int v6), (7, .int v7)] [] M L (rf ld) Q := by
  intro f
  induction f with
  | zero => intro v6 v7 h; cases h
  | succ f hK146 =>
    intro v6 v7 h
    replace h : B_Mod_cut_146 K7 v1 v3 v4 M L (H_Mod_cut_146 K7 v1 v3 v4 M L f) v6 v7 = some q := h
    unfold B_Mod_cut_146 at h
    refine g_iload (pc1 := 148) d_Mod_cut_146 rfl 5 rfl ?_
    refine g_bipush (pc1 := 150) (v := 21) d_Mod_cut_148 rfl (by decide) ?_
    refine g_icmp_ge (pc1 := 153) (tgt := 179) d_Mod_cut_150 (by decide) rfl (fun c50 => ?_) (fun c50 => ?_)
    · replace h := itp h c50
      refine Wp.loc (lv' := [(0, .ref 401), (1, .int v1), (3, .int v3), (4, .long v4), (6, .int v6)]) [0, 1, 2, 3, 4] rfl ?_
      exact j_Mod_cut_179 hld  hQ hK7 h
    · replace h := itn h c50
      refine g_aload_n (pc1 := 154) d_Mod_cut_153 rfl 0 rfl ?_
      refine g_getr (pc1 := 157) d_Mod_cut_154 rfl ⟨_, fo_Mod_34⟩ sh_401 (by decide) (rf_401_9 ld) ?_
      refine g_iload (pc1 := 159) d_Mod_cut_157 rfl 5 rfl ?_
      obtain ⟨g51, h⟩ := gdn h
      refine g_lald (pc1 := 160) d_Mod_cut_159 rfl sh_408 (by decide) g51 ?_
      refine g_lload (pc1 := 162) d_Mod_cut_160 rfl 3 rfl ?_
      refine g_lcmp (pc1 := 163) d_Mod_cut_162 rfl ?_
      refine g_if_ne (pc1 := 166) (tgt := 173) d_Mod_cut_163 (by decide) rfl (fun c52 => ?_) (fun c52 => ?_)
      · replace h := itn h c52
        exact j_Mod_cut_173 hld  hQ hK7 hK146 h
      · replace h := itp h c52
        refine g_bipush (pc1 := 168) (v := 20) d_Mod_cut_166 rfl (by decide) ?_
        refine g_iload (pc1 := 170) d_Mod_cut_168 rfl 5 rfl ?_
        refine g_iadd (pc1 := 171) d_Mod_cut_170 rfl ?_
        refine Wp.lI h (fun x54 h => ?_)
        refine g_istore (pc1 := 173) (lv' := [(0, .ref 401), (1, .int v1), (3, .int v3), (4, .long v4), (6, .int x54), (7, .int v7)]) d_Mod_cut_171 rfl (by decide) [1, 2, 3, 4, 0, 5] rfl ?_
        exact j_Mod_cut_173 hld  hQ hK7 hK146 h
def J_Mod_cut_135 (K7 : Int32 → gM → gL → Option (gM × gL)) (v1 : Int32) (v3 : Int32) (v4 : Int64) (s0 : Int32) (M : gM) (L : gL) : Option (gM × gL) :=
  (if 8 < v3 then J_Mod_cut_179 K7 v1 v3 v4 s0 M L else H_Mod_cut_146 K7 v1 v3 v4 M L FU s0 0)
set_option maxHeartbeats 4000000 in
set_option maxRecDepth 20000 in
theorem j_Mod_cut_135 {l : Launch} {ld : Nat} {Q : Option Value → gM → gL → gR → Prop} (hld : isLa ld)   {q : gM × gL} {M : gM} {L : gL} (hQ : Q none q.1 q.2 (rf ld)) {K7 : Int32 → gM → gL → Option (gM × gL)} {v1 : Int32} {v3 : Int32} {v4 : Int64} {s0 : Int32} (hK7 : ∀ (w1 : Int32) (M : gM) (L : gL), K7 w1 M L = some q → Wp l y_Mod_cut (0, 0, 447) 447 0 0 7 [(0, .ref 401), (1, .int w1)] [] M L (rf ld) Q) (h : J_Mod_cut_135 K7 v1 v3 v4 s0 M L = some q) : Wp l y_Mod_cut (0, 0, 447) 447 0 0 135 [(0, .ref 401), (1, .int v1), (3, .int v3), (4, .long v4)] [.int s0] M L (rf ld) Q := by
  unfold J_Mod_cut_135 at h
  refine g_istore (pc1 := 137) (lv' := [(0, .ref 401), (1, .int v1), (3, .int v3), (4, .long v4), (6, .int s0)]) d_Mod_cut_135 rfl (by decide) [1, 2, 3, 4, 0] rfl ?_
  refine g_iload_n (pc1 := 138) d_Mod_cut_137 rfl 2 rfl ?_
  refine g_bipush (pc1 := 140) (v := 8) d_Mod_cut_138 rfl (by decide) ?_
  refine g_icmp_gt (pc1 := 143) (tgt := 179) d_Mod_cut_140 (by decide) rfl (fun c45 => ?_) (fun c45 => ?_)
  · replace h := itp h c45
    exact j_Mod_cut_179 hld  hQ hK7 h
  · replace h := itn h c45
    refine g_iconst (pc1 := 144) (v := 0) d_Mod_cut_143 rfl (by decide) ?_
    refine g_istore (pc1 := 146) (lv' := [(0, .ref 401), (1, .int v1), (3, .int v3), (4, .long v4), (6, .int s0), (7, .int 0)]) d_Mod_cut_144 rfl (by decide) [1, 2, 3, 4, 5, 0] rfl ?_
    exact h_Mod_cut_146 hld  hQ hK7 _ s0 0 h
def J_Mod_cut_124 (K7 : Int32 → gM → gL → Option (gM × gL)) (v1 : Int32) (v3 : Int32) (v4 : Int64) (M : gM) (L : gL) : Option (gM × gL) :=
  (if v3 ≤ 8 then J_Mod_cut_135 K7 v1 v3 v4 1 M L else J_Mod_cut_135 K7 v1 v3 v4 3 M L)
set_option maxHeartbeats 4000000 in
set_option maxRecDepth 20000 in
theorem j_Mod_cut_124 {l : Launch} {ld : Nat} {Q : Option Value → gM → gL → gR → Prop} (hld : isLa ld)   {q : gM × gL} {M : gM} {L : gL} (hQ : Q none q.1 q.2 (rf ld)) {K7 : Int32 → gM → gL → Option (gM × gL)} {v1 : Int32} {v3 : Int32} {v4 : Int64} (hK7 : ∀ (w1 : Int32) (M : gM) (L : gL), K7 w1 M L = some q → Wp l y_Mod_cut (0, 0, 447) 447 0 0 7 [(0, .ref 401), (1, .int w1)] [] M L (rf ld) Q) (h : J_Mod_cut_124 K7 v1 v3 v4 M L = some q) : Wp l y_Mod_cut (0, 0, 447) 447 0 0 124 [(0, .ref 401), (1, .int v1), (3, .int v3), (4, .long v4)] [] M L (rf ld) Q := by
  unfold J_Mod_cut_124 at h
  refine g_iload_n (pc1 := 125) d_Mod_cut_124 rfl 2 rfl ?_
  refine g_bipush (pc1 := 127) (v := 8) d_Mod_cut_125 rfl (by decide) ?_
  refine g_icmp_le (pc1 := 130) (tgt := 134) d_Mod_cut_127 (by decide) rfl (fun c44 => ?_) (fun c44 => ?_)
  · replace h := itp h c44
    refine g_iconst (pc1 := 135) (v := 1) d_Mod_cut_134 rfl (by decide) ?_
    exact j_Mod_cut_135 hld  hQ hK7 h
  · replace h := itn h c44
    refine g_iconst (pc1 := 131) (v := 3) d_Mod_cut_130 rfl (by decide) ?_
    refine g_goto (tgt := 135) d_Mod_cut_131 (by decide) ?_
    exact j_Mod_cut_135 hld  hQ hK7 h
def J_Mod_cut_118 (K7 : Int32 → gM → gL → Option (gM × gL)) (K85 : Int32 → Int64 → Option (gM × gL)) (v1 : Int32) (v3 : Int32) (v4 : Int64) (M : gM) (L : gL) : Option (gM × gL) :=
  nmI (v3 + 1) (fun x56 => K85 x56 v4)
set_option maxHeartbeats 4000000 in
set_option maxRecDepth 20000 in
theorem j_Mod_cut_118 {l : Launch} {ld : Nat} {Q : Option Value → gM → gL → gR → Prop} (hld : isLa ld)   {q : gM × gL} {M : gM} {L : gL} (hQ : Q none q.1 q.2 (rf ld)) {K7 : Int32 → gM → gL → Option (gM × gL)} {K85 : Int32 → Int64 → Option (gM × gL)} {v1 : Int32} {v3 : Int32} {v4 : Int64} (hK7 : ∀ (w1 : Int32) (M : gM) (L : gL), K7 w1 M L = some q → Wp l y_Mod_cut (0, 0, 447) 447 0 0 7 [(0, .ref 401), (1, .int w1)] [] M L (rf ld) Q) (hK85 : ∀ (w3 : Int32) (w4 : Int64), K85 w3 w4 = some q → Wp l y_Mod_cut (0, 0, 447) 447 0 0 85 [(0, .ref 401), (1, .int v1), (3, .int w3), (4, .long w4)] [] M L (rf ld) Q) (h : J_Mod_cut_118 K7 K85 v1 v3 v4 M L = some q) : Wp l y_Mod_cut (0, 0, 447) 447 0 0 118 [(0, .ref 401), (1, .int v1), (3, .int v3), (4, .long v4)] [] M L (rf ld) Q := by
  unfold J_Mod_cut_118 at h
  obtain ⟨x56, ex56, h⟩ := ltI h
  refine g_iinc (pc1 := 121) (v := x56) (lv' := [(0, .ref 401), (1, .int v1), (3, .int x56), (4, .long v4)]) d_Mod_cut_118 rfl 2 rfl (by rw [ex56]; rfl) (by decide) [1, 2, 0, 3] rfl ?_
  refine g_goto (tgt := 85) d_Mod_cut_121 (by decide) ?_
  exact hK85 x56 v4 h
def B_Mod_cut_85 (K7 : Int32 → gM → gL → Option (gM × gL)) (v1 : Int32) (M : gM) (L : gL) (K85 : Int32 → Int64 → Option (gM × gL)) : Int32 → Int64 → Option (gM × gL) := fun v3 v4 =>
  bI (F_Mod_byteAt (v1 + v3) M) (fun r40 => bI (F_Mod_isLetter r40) (fun r42 => (if r42 = 0 then J_Mod_cut_124 K7 v1 v3 v4 M L else (if 8 ≤ v3 then J_Mod_cut_118 K7 K85 v1 v3 v4 M L else bI (F_Mod_byteAt (v1 + v3) M) (fun r58 => bI (F_Mod_appends v4 r58) (fun r60 => J_Mod_cut_118 K7 K85 v1 v3 r60 M L))))))
def H_Mod_cut_85 (K7 : Int32 → gM → gL → Option (gM × gL)) (v1 : Int32) (M : gM) (L : gL) : Nat → Int32 → Int64 → Option (gM × gL) := lpK (B_Mod_cut_85 K7 v1 M L) (fun _ _ => none)
set_option maxHeartbeats 4000000 in
set_option maxRecDepth 20000 in
theorem h_Mod_cut_85 {l : Launch} {ld : Nat} {Q : Option Value → gM → gL → gR → Prop} (hld : isLa ld)   {q : gM × gL} {M : gM} {L : gL} (hQ : Q none q.1 q.2 (rf ld)) {K7 : Int32 → gM → gL → Option (gM × gL)} {v1 : Int32} (hK7 : ∀ (w1 : Int32) (M : gM) (L : gL), K7 w1 M L = some q → Wp l y_Mod_cut (0, 0, 447) 447 0 0 7 [(0, .ref 401), (1, .int w1)] [] M L (rf ld) Q) : ∀ (f : Nat) (v3 : Int32) (v4 : Int64), H_Mod_cut_85 K7 v1 M L f v3 v4 = some q → Wp l y_Mod_cut (0, 0, 447) 447 0 0 85 [(0, .ref 401), (1, .int v1), (3, .int v3), (4, .long v4)] [] M L (rf ld) Q := by
  intro f
  induction f with
  | zero => intro v3 v4 h; cases h
  | succ f hK85 =>
    intro v3 v4 h
    replace h : B_Mod_cut_85 K7 v1 M L (H_Mod_cut_85 K7 v1 M L f) v3 v4 = some q := h
    unfold B_Mod_cut_85 at h
    refine g_aload_n (pc1 := 86) d_Mod_cut_85 rfl 0 rfl ?_
    refine g_iload_n (pc1 := 87) d_Mod_cut_86 rfl 1 rfl ?_
    refine g_iload_n (pc1 := 88) d_Mod_cut_87 rfl 2 rfl ?_
    refine g_iadd (pc1 := 89) d_Mod_cut_88 rfl ?_
    refine g_callV0 (pc1 := 92) (As := [.int (v1 + v3)]) (rest := []) d_Mod_cut_89 rfl mo_Mod_187 mi_Mod_byteAt mv_Mod_byteAt rfl sh_401 (by decide) (by decide) rfl rfl (Nat.le_of_ble_eq_true rfl) ?_
    obtain ⟨r40, hq39, h⟩ := bnd h
    refine f_Mod_byteAt hld  hq39 ?_
    dsimp only [psh]
    refine g_callS0 (pc1 := 95) (As := [.int r40]) (rest := []) d_Mod_cut_92 rfl mo_Mod_195 ms_Mod_isLetter (by decide) rfl rfl (Nat.le_of_ble_eq_true rfl) ?_
    obtain ⟨r42, hq41, h⟩ := bnd h
    refine f_Mod_isLetter hld  hq41 ?_
    dsimp only [psh]
    refine g_if_eq (pc1 := 98) (tgt := 124) d_Mod_cut_95 (by decide) rfl (fun c43 => ?_) (fun c43 => ?_)
    · replace h := itp h c43
      exact j_Mod_cut_124 hld  hQ hK7 h
    · replace h := itn h c43
      refine g_iload_n (pc1 := 99) d_Mod_cut_98 rfl 2 rfl ?_
      refine g_bipush (pc1 := 101) (v := 8) d_Mod_cut_99 rfl (by decide) ?_
      refine g_icmp_ge (pc1 := 104) (tgt := 118) d_Mod_cut_101 (by decide) rfl (fun c55 => ?_) (fun c55 => ?_)
      · replace h := itp h c55
        exact j_Mod_cut_118 hld  hQ hK7 hK85 h
      · replace h := itn h c55
        refine g_lload (pc1 := 106) d_Mod_cut_104 rfl 3 rfl ?_
        refine g_aload_n (pc1 := 107) d_Mod_cut_106 rfl 0 rfl ?_
        refine g_iload_n (pc1 := 108) d_Mod_cut_107 rfl 1 rfl ?_
        refine g_iload_n (pc1 := 109) d_Mod_cut_108 rfl 2 rfl ?_
        refine g_iadd (pc1 := 110) d_Mod_cut_109 rfl ?_
        refine g_callV0 (pc1 := 113) (As := [.int (v1 + v3)]) (rest := [.long v4]) d_Mod_cut_110 rfl mo_Mod_187 mi_Mod_byteAt mv_Mod_byteAt rfl sh_401 (by decide) (by decide) rfl rfl (Nat.le_of_ble_eq_true rfl) ?_
        obtain ⟨r58, hq57, h⟩ := bnd h
        refine f_Mod_byteAt hld  hq57 ?_
        dsimp only [psh]
        refine g_callS0 (pc1 := 116) (As := [.long v4, .int r58]) (rest := []) d_Mod_cut_113 rfl mo_Mod_180 ms_Mod_appends (by decide) rfl rfl (Nat.le_of_ble_eq_true rfl) ?_
        obtain ⟨r60, hq59, h⟩ := bnd h
        refine f_Mod_appends hld  hq59 ?_
        dsimp only [psh]
        refine g_lstore (pc1 := 118) (lv' := [(0, .ref 401), (1, .int v1), (3, .int v3), (4, .long r60)]) d_Mod_cut_116 rfl (by decide) [1, 2, 3, 0] rfl ?_
        exact j_Mod_cut_118 hld  hQ hK7 hK85 h
def J_Mod_cut_31 (M : gM) (L : gL) : Option (gM × gL) :=
  bI2 (F_Mod_token 0 (M 401 4) 0 0 M L) (fun M62 L63 => some (M62, L63))
set_option maxHeartbeats 4000000 in
set_option maxRecDepth 20000 in
theorem j_Mod_cut_31 {l : Launch} {ld : Nat} {Q : Option Value → gM → gL → gR → Prop} (hld : isLa ld)   {q : gM × gL} {M : gM} {L : gL} (hQ : Q none q.1 q.2 (rf ld))    (h : J_Mod_cut_31 M L = some q) : Wp l y_Mod_cut (0, 0, 447) 447 0 0 31 [(0, .ref 401)] [] M L (rf ld) Q := by
  unfold J_Mod_cut_31 at h
  refine g_aload_n (pc1 := 32) d_Mod_cut_31 rfl 0 rfl ?_
  refine g_iconst (pc1 := 33) (v := 0) d_Mod_cut_32 rfl (by decide) ?_
  refine g_aload_n (pc1 := 34) d_Mod_cut_33 rfl 0 rfl ?_
  refine g_geti (pc1 := 37) d_Mod_cut_34 rfl ⟨_, fo_Mod_175⟩ sh_401 (by decide) ?_
  refine g_iconst (pc1 := 38) (v := 0) d_Mod_cut_37 rfl (by decide) ?_
  refine g_lconst (pc1 := 39) (v := 0) d_Mod_cut_38 rfl (by decide) ?_
  refine g_callV0 (pc1 := 42) (As := [.int 0, .int (M 401 4), .int 0, .long 0]) (rest := []) d_Mod_cut_39 rfl mo_Mod_191 mi_Mod_token mv_Mod_token rfl sh_401 (by decide) (by decide) rfl rfl (Nat.le_of_ble_eq_true rfl) ?_
  obtain ⟨M62, L63, hq61, h⟩ := bnd2 h
  refine f_Mod_token hld  hq61 ?_
  dsimp only [psh]
  refine g_return rfl d_Mod_cut_42 rfl ?_
  cases h; exact hQ
def B_Mod_cut_7  (K7 : Int32 → gM → gL → Option (gM × gL)) : Int32 → gM → gL → Option (gM × gL) := fun v1 M L =>
  (if 400 < (M 401 10) then some (M, L) else bI (F_Mod_byteAt v1 M) (fun r4 => (if v1 < (M 401 4) then (if r4 = 9 then J_Mod_cut_67 K7 v1 M L else (if r4 = 10 then J_Mod_cut_67 K7 v1 M L else (if r4 = 13 then J_Mod_cut_67 K7 v1 M L else (if r4 = 32 then J_Mod_cut_67 K7 v1 M L else bI (F_Mod_isLetter r4) (fun r12 => (if r12 = 0 then bI (F_Mod_isDigit r4) (fun r15 => (if r15 = 0 then bI (F_Mod_byteAt (v1 + 1) M) (fun r18 => bI3 (F_Mod_sign v1 r4 r18 M L) (fun r20 M21 L22 => nmI (v1 + r20) (fun x23 => J_Mod_cut_291 K7 x23 M21 L22))) else H_Mod_cut_208 K7 v1 M L FU 0 0)) else H_Mod_cut_85 K7 v1 M L FU 0 0)))))) else J_Mod_cut_31 M L)))
def H_Mod_cut_7  : Nat → Int32 → gM → gL → Option (gM × gL) := lpK (B_Mod_cut_7 ) (fun _ _ _ => none)
set_option maxHeartbeats 4000000 in
set_option maxRecDepth 20000 in
theorem h_Mod_cut_7 {l : Launch} {ld : Nat} {Q : Option Value → gM → gL → gR → Prop} (hld : isLa ld)   {q : gM × gL} (hQ : Q none q.1 q.2 (rf ld))    : ∀ (f : Nat) (v1 : Int32) (M : gM) (L : gL), H_Mod_cut_7  f v1 M L = some q → Wp l y_Mod_cut (0, 0, 447) 447 0 0 7 [(0, .ref 401), (1, .int v1)] [] M L (rf ld) Q := by
  intro f
  induction f with
  | zero => intro v1 M L h; cases h
  | succ f hK7 =>
    intro v1 M L h
    replace h : B_Mod_cut_7  (H_Mod_cut_7  f) v1 M L = some q := h
    unfold B_Mod_cut_7 at h
    refine g_aload_n (pc1 := 8) d_Mod_cut_7 rfl 0 rfl ?_
    refine g_geti (pc1 := 11) d_Mod_cut_8 rfl ⟨_, fo_Mod_184⟩ sh_401 (by decide) ?_
    refine g_sipush (pc1 := 14) (v := 400) d_Mod_cut_11 rfl (by decide) ?_
    refine g_icmp_gt (pc1 := 17) (tgt := 294) d_Mod_cut_14 (by decide) rfl (fun c2 => ?_) (fun c2 => ?_)
    · replace h := itp h c2
      refine g_return rfl d_Mod_cut_294 rfl ?_
      cases h; exact hQ
    · replace h := itn h c2
      refine g_aload_n (pc1 := 18) d_Mod_cut_17 rfl 0 rfl ?_
      refine g_iload_n (pc1 := 19) d_Mod_cut_18 rfl 1 rfl ?_
      refine g_callV0 (pc1 := 22) (As := [.int v1]) (rest := []) d_Mod_cut_19 rfl mo_Mod_187 mi_Mod_byteAt mv_Mod_byteAt rfl sh_401 (by decide) (by decide) rfl rfl (Nat.le_of_ble_eq_true rfl) ?_
      obtain ⟨r4, hq3, h⟩ := bnd h
      refine f_Mod_byteAt hld  hq3 ?_
      dsimp only [psh]
      refine g_istore_n (pc1 := 23) (lv' := [(0, .ref 401), (1, .int v1), (2, .int r4)]) d_Mod_cut_22 rfl rfl (by decide) [1, 2, 0] rfl ?_
      refine g_iload_n (pc1 := 24) d_Mod_cut_23 rfl 1 rfl ?_
      refine g_aload_n (pc1 := 25) d_Mod_cut_24 rfl 0 rfl ?_
      refine g_geti (pc1 := 28) d_Mod_cut_25 rfl ⟨_, fo_Mod_175⟩ sh_401 (by decide) ?_
      refine g_icmp_lt (pc1 := 31) (tgt := 43) d_Mod_cut_28 (by decide) rfl (fun c5 => ?_) (fun c5 => ?_)
      · replace h := itp h c5
        refine g_iload_n (pc1 := 44) d_Mod_cut_43 rfl 2 rfl ?_
        refine g_bipush (pc1 := 46) (v := 9) d_Mod_cut_44 rfl (by decide) ?_
        refine g_icmp_eq (pc1 := 49) (tgt := 67) d_Mod_cut_46 (by decide) rfl (fun c6 => ?_) (fun c6 => ?_)
        · replace h := itp h c6
          refine Wp.loc (lv' := [(0, .ref 401), (1, .int v1)]) [0, 1] rfl ?_
          exact j_Mod_cut_67 hld  hQ hK7 h
        · replace h := itn h c6
          refine g_iload_n (pc1 := 50) d_Mod_cut_49 rfl 2 rfl ?_
          refine g_bipush (pc1 := 52) (v := 10) d_Mod_cut_50 rfl (by decide) ?_
          refine g_icmp_eq (pc1 := 55) (tgt := 67) d_Mod_cut_52 (by decide) rfl (fun c8 => ?_) (fun c8 => ?_)
          · replace h := itp h c8
            refine Wp.loc (lv' := [(0, .ref 401), (1, .int v1)]) [0, 1] rfl ?_
            exact j_Mod_cut_67 hld  hQ hK7 h
          · replace h := itn h c8
            refine g_iload_n (pc1 := 56) d_Mod_cut_55 rfl 2 rfl ?_
            refine g_bipush (pc1 := 58) (v := 13) d_Mod_cut_56 rfl (by decide) ?_
            refine g_icmp_eq (pc1 := 61) (tgt := 67) d_Mod_cut_58 (by decide) rfl (fun c9 => ?_) (fun c9 => ?_)
            · replace h := itp h c9
              refine Wp.loc (lv' := [(0, .ref 401), (1, .int v1)]) [0, 1] rfl ?_
              exact j_Mod_cut_67 hld  hQ hK7 h
            · replace h := itn h c9
              refine g_iload_n (pc1 := 62) d_Mod_cut_61 rfl 2 rfl ?_
              refine g_bipush (pc1 := 64) (v := 32) d_Mod_cut_62 rfl (by decide) ?_
              refine g_icmp_ne (pc1 := 67) (tgt := 73) d_Mod_cut_64 (by decide) rfl (fun c10 => ?_) (fun c10 => ?_)
              · replace h := itn h c10
                refine g_iload_n (pc1 := 74) d_Mod_cut_73 rfl 2 rfl ?_
                refine g_callS0 (pc1 := 77) (As := [.int r4]) (rest := []) d_Mod_cut_74 rfl mo_Mod_195 ms_Mod_isLetter (by decide) rfl rfl (Nat.le_of_ble_eq_true rfl) ?_
                obtain ⟨r12, hq11, h⟩ := bnd h
                refine f_Mod_isLetter hld  hq11 ?_
                dsimp only [psh]
                refine g_if_eq (pc1 := 80) (tgt := 196) d_Mod_cut_77 (by decide) rfl (fun c13 => ?_) (fun c13 => ?_)
                · replace h := itp h c13
                  refine g_iload_n (pc1 := 197) d_Mod_cut_196 rfl 2 rfl ?_
                  refine g_callS0 (pc1 := 200) (As := [.int r4]) (rest := []) d_Mod_cut_197 rfl mo_Mod_199 ms_Mod_isDigit (by decide) rfl rfl (Nat.le_of_ble_eq_true rfl) ?_
                  obtain ⟨r15, hq14, h⟩ := bnd h
                  refine f_Mod_isDigit hld  hq14 ?_
                  dsimp only [psh]
                  refine g_if_eq (pc1 := 203) (tgt := 275) d_Mod_cut_200 (by decide) rfl (fun c16 => ?_) (fun c16 => ?_)
                  · replace h := itp h c16
                    refine g_iload_n (pc1 := 276) d_Mod_cut_275 rfl 1 rfl ?_
                    refine g_aload_n (pc1 := 277) d_Mod_cut_276 rfl 0 rfl ?_
                    refine g_iload_n (pc1 := 278) d_Mod_cut_277 rfl 1 rfl ?_
                    refine g_iload_n (pc1 := 279) d_Mod_cut_278 rfl 2 rfl ?_
                    refine g_aload_n (pc1 := 280) d_Mod_cut_279 rfl 0 rfl ?_
                    refine g_iload_n (pc1 := 281) d_Mod_cut_280 rfl 1 rfl ?_
                    refine g_iconst (pc1 := 282) (v := 1) d_Mod_cut_281 rfl (by decide) ?_
                    refine g_iadd (pc1 := 283) d_Mod_cut_282 rfl ?_
                    refine g_callV0 (pc1 := 286) (As := [.int (v1 + 1)]) (rest := [.int r4, .int v1, .ref 401, .int v1]) d_Mod_cut_283 rfl mo_Mod_187 mi_Mod_byteAt mv_Mod_byteAt rfl sh_401 (by decide) (by decide) rfl rfl (Nat.le_of_ble_eq_true rfl) ?_
                    obtain ⟨r18, hq17, h⟩ := bnd h
                    refine f_Mod_byteAt hld  hq17 ?_
                    dsimp only [psh]
                    refine g_callV0 (pc1 := 289) (As := [.int v1, .int r4, .int r18]) (rest := [.int v1]) d_Mod_cut_286 rfl mo_Mod_202 mi_Mod_sign mv_Mod_sign rfl sh_401 (by decide) (by decide) rfl rfl (Nat.le_of_ble_eq_true rfl) ?_
                    obtain ⟨r20, M21, L22, hq19, h⟩ := bnd3 h
                    refine f_Mod_sign hld  hq19 ?_
                    dsimp only [psh]
                    refine g_iadd (pc1 := 290) d_Mod_cut_289 rfl ?_
                    refine Wp.lI h (fun x23 h => ?_)
                    refine g_istore_n (pc1 := 291) (lv' := [(0, .ref 401), (1, .int x23), (2, .int r4)]) d_Mod_cut_290 rfl rfl (by decide) [1, 0, 2] rfl ?_
                    refine Wp.loc (lv' := [(0, .ref 401), (1, .int x23)]) [0, 1] rfl ?_
                    exact j_Mod_cut_291 hld  hQ hK7 h
                  · replace h := itn h c16
                    refine g_iconst (pc1 := 204) (v := 0) d_Mod_cut_203 rfl (by decide) ?_
                    refine g_istore_n (pc1 := 205) (lv' := [(0, .ref 401), (1, .int v1), (2, .int r4), (3, .int 0)]) d_Mod_cut_204 rfl rfl (by decide) [1, 2, 3, 0] rfl ?_
                    refine g_iconst (pc1 := 206) (v := 0) d_Mod_cut_205 rfl (by decide) ?_
                    refine g_istore (pc1 := 208) (lv' := [(0, .ref 401), (1, .int v1), (2, .int r4), (3, .int 0), (4, .int 0)]) d_Mod_cut_206 rfl (by decide) [1, 2, 3, 4, 0] rfl ?_
                    refine Wp.loc (lv' := [(0, .ref 401), (1, .int v1), (3, .int 0), (4, .int 0)]) [0, 1, 3, 4] rfl ?_
                    exact h_Mod_cut_208 hld  hQ hK7 _ 0 0 h
                · replace h := itn h c13
                  refine g_iconst (pc1 := 81) (v := 0) d_Mod_cut_80 rfl (by decide) ?_
                  refine g_istore_n (pc1 := 82) (lv' := [(0, .ref 401), (1, .int v1), (2, .int r4), (3, .int 0)]) d_Mod_cut_81 rfl rfl (by decide) [1, 2, 3, 0] rfl ?_
                  refine g_lconst (pc1 := 83) (v := 0) d_Mod_cut_82 rfl (by decide) ?_
                  refine g_lstore (pc1 := 85) (lv' := [(0, .ref 401), (1, .int v1), (2, .int r4), (3, .int 0), (4, .long 0)]) d_Mod_cut_83 rfl (by decide) [1, 2, 3, 4, 0] rfl ?_
                  refine Wp.loc (lv' := [(0, .ref 401), (1, .int v1), (3, .int 0), (4, .long 0)]) [0, 1, 3, 4] rfl ?_
                  exact h_Mod_cut_85 hld  hQ hK7 _ 0 0 h
              · replace h := itp h c10
                refine Wp.loc (lv' := [(0, .ref 401), (1, .int v1)]) [0, 1] rfl ?_
                exact j_Mod_cut_67 hld  hQ hK7 h
      · replace h := itn h c5
        refine Wp.loc (lv' := [(0, .ref 401)]) [0] rfl ?_
        exact j_Mod_cut_31 hld  hQ  h
def F_Mod_cut (M : gM) (L : gL) : Option (gM × gL) :=
  nmM (uM M 401 10 0) (fun M1 => H_Mod_cut_7 FU 0 M1 L)
set_option maxHeartbeats 4000000 in
set_option maxRecDepth 20000 in
theorem f_Mod_cut {l : Launch} {ld : Nat} {M : gM} {L : gL} {Q : Option Value → gM → gL → gR → Prop} (hld : isLa ld)   {q : gM × gL} (h : F_Mod_cut M L = some q) (hQ : Q none q.1 q.2 (rf ld)) : Tm l y_Mod_cut (0, 0, 447) 447 [.ref 401] M L (rf ld) Q := by
  refine Tm.of (by decide) (Nat.le_of_ble_eq_true rfl) ?_
  show Wp l y_Mod_cut (0, 0, 447) 447 0 0 0 [(0, .ref 401)] [] M L (rf ld) Q
  unfold F_Mod_cut at h
  refine g_aload_n (pc1 := 1) d_Mod_cut_0 rfl 0 rfl ?_
  refine g_iconst (pc1 := 2) (v := 0) d_Mod_cut_1 rfl (by decide) ?_
  refine g_puti (pc1 := 5) d_Mod_cut_2 rfl fo_Mod_184 (po_12_10 _) sh_401 (by decide) ?_
  refine Wp.lM h (fun M1 h => ?_)
  refine g_iconst (pc1 := 6) (v := 0) d_Mod_cut_5 rfl (by decide) ?_
  refine g_istore_n (pc1 := 7) (lv' := [(0, .ref 401), (1, .int 0)]) d_Mod_cut_6 rfl rfl (by decide) [1, 0] rfl ?_
  exact h_Mod_cut_7 hld  hQ  _ 0 M1 L h

def F_Mod_fillsWay (p1 : Int32) (M : gM) : Option (Int32 × gM) :=
  bI (F_Mod_fillsPot (p1 / 13) M) (fun M2 => nmI (p1 - p1 / 13 * 13) (fun x3 => (if x3 = 0 then some (1, M2) else nmI ((x3 - 1) - (x3 - 1) / 6 * 6) (fun x5 => bI (F_Mod_isFood x5 M2) (fun r7 => (if r7 = 0 then some (0, M2) else (if 6 < x3 then (if (x5 : Int32) < 0 ∨ 6 ≤ (x5 : Int32).toNatClampNeg then none else (if (M2 438 (x5 : Int32).toNatClampNeg) = 0 then some (0, M2) else bI (F_Mod_potMany M2) (fun r13 => (if 2 ≤ r13 then (if (x5 : Int32) < 0 ∨ 6 ≤ (x5 : Int32).toNatClampNeg then none else (if (x5 : Int32) < 0 ∨ 6 ≤ (x5 : Int32).toNatClampNeg then none else nmM (uM M2 438 (x5 : Int32).toNatClampNeg ((M2 438 (x5 : Int32).toNatClampNeg) - 1)) (fun M17 => some (1, M17)))) else some (0, M2))))) else (if (x5 : Int32) < 0 ∨ 6 ≤ (x5 : Int32).toNatClampNeg then none else (if (x5 : Int32) < 0 ∨ 6 ≤ (x5 : Int32).toNatClampNeg then none else nmM (uM M2 438 (x5 : Int32).toNatClampNeg ((M2 438 (x5 : Int32).toNatClampNeg) + 1)) (fun M20 => some (1, M20)))))))))))
set_option maxHeartbeats 4000000 in
set_option maxRecDepth 20000 in
theorem f_Mod_fillsWay {l : Launch} {ld : Nat} {M : gM} {L : gL} {Q : Option Value → gM → gL → gR → Prop} (hld : isLa ld) {p1 : Int32}  {q : Int32 × gM} (h : F_Mod_fillsWay p1 M = some q) (hQ : Q (some (.int q.1)) q.2 L (rf ld)) : Tm l y_Mod_fillsWay (0, 0, 447) 447 [.ref 401, .int p1] M L (rf ld) Q := by
  refine Tm.of (by decide) (Nat.le_of_ble_eq_true rfl) ?_
  show Wp l y_Mod_fillsWay (0, 0, 447) 447 0 0 0 [(0, .ref 401), (1, .int p1)] [] M L (rf ld) Q
  unfold F_Mod_fillsWay at h
  refine g_aload_n (pc1 := 1) d_Mod_fillsWay_0 rfl 0 rfl ?_
  refine g_iload_n (pc1 := 2) d_Mod_fillsWay_1 rfl 1 rfl ?_
  refine g_bipush (pc1 := 4) (v := 13) d_Mod_fillsWay_2 rfl (by decide) ?_
  refine g_idiv (pc1 := 5) d_Mod_fillsWay_4 rfl (by decide) ?_
  refine g_callV0 (pc1 := 8) (As := [.int (p1 / 13)]) (rest := []) d_Mod_fillsWay_5 rfl mo_Mod_356 mi_Mod_fillsPot mv_Mod_fillsPot rfl sh_401 (by decide) (by decide) rfl rfl (Nat.le_of_ble_eq_true rfl) ?_
  obtain ⟨M2, hq1, h⟩ := bnd h
  refine f_Mod_fillsPot hld  hq1 ?_
  dsimp only [psh]
  refine g_iload_n (pc1 := 9) d_Mod_fillsWay_8 rfl 1 rfl ?_
  refine g_bipush (pc1 := 11) (v := 13) d_Mod_fillsWay_9 rfl (by decide) ?_
  refine g_irem (pc1 := 12) d_Mod_fillsWay_11 rfl (by decide) ?_
  refine Wp.lI h (fun x3 h => ?_)
  refine g_istore_n (pc1 := 13) (lv' := [(0, .ref 401), (1, .int p1), (2, .int x3)]) d_Mod_fillsWay_12 rfl rfl (by decide) [1, 2, 0] rfl ?_
  refine g_iload_n (pc1 := 14) d_Mod_fillsWay_13 rfl 2 rfl ?_
  refine g_if_ne (pc1 := 17) (tgt := 19) d_Mod_fillsWay_14 (by decide) rfl (fun c4 => ?_) (fun c4 => ?_)
  · replace h := itn h c4
    refine g_iload_n (pc1 := 20) d_Mod_fillsWay_19 rfl 2 rfl ?_
    refine g_iconst (pc1 := 21) (v := 1) d_Mod_fillsWay_20 rfl (by decide) ?_
    refine g_isub (pc1 := 22) d_Mod_fillsWay_21 rfl ?_
    refine g_bipush (pc1 := 24) (v := 6) d_Mod_fillsWay_22 rfl (by decide) ?_
    refine g_irem (pc1 := 25) d_Mod_fillsWay_24 rfl (by decide) ?_
    refine Wp.lI h (fun x5 h => ?_)
    refine g_istore_n (pc1 := 26) (lv' := [(0, .ref 401), (1, .int p1), (2, .int x3), (3, .int x5)]) d_Mod_fillsWay_25 rfl rfl (by decide) [1, 2, 3, 0] rfl ?_
    refine g_aload_n (pc1 := 27) d_Mod_fillsWay_26 rfl 0 rfl ?_
    refine g_iload_n (pc1 := 28) d_Mod_fillsWay_27 rfl 3 rfl ?_
    refine g_callV0 (pc1 := 31) (As := [.int x5]) (rest := []) d_Mod_fillsWay_28 rfl mo_Mod_371 mi_Mod_isFood mv_Mod_isFood rfl sh_401 (by decide) (by decide) rfl rfl (Nat.le_of_ble_eq_true rfl) ?_
    obtain ⟨r7, hq6, h⟩ := bnd h
    refine f_Mod_isFood hld  hq6 ?_
    dsimp only [psh]
    refine g_if_ne (pc1 := 34) (tgt := 36) d_Mod_fillsWay_31 (by decide) rfl (fun c8 => ?_) (fun c8 => ?_)
    · replace h := itn h c8
      refine g_iload_n (pc1 := 37) d_Mod_fillsWay_36 rfl 2 rfl ?_
      refine g_bipush (pc1 := 39) (v := 6) d_Mod_fillsWay_37 rfl (by decide) ?_
      refine g_icmp_gt (pc1 := 42) (tgt := 54) d_Mod_fillsWay_39 (by decide) rfl (fun c9 => ?_) (fun c9 => ?_)
      · replace h := itp h c9
        refine g_aload_n (pc1 := 55) d_Mod_fillsWay_54 rfl 0 rfl ?_
        refine g_getr (pc1 := 58) d_Mod_fillsWay_55 rfl ⟨_, fo_Mod_128⟩ sh_401 (by decide) (rf_401_55 ld) ?_
        refine g_iload_n (pc1 := 59) d_Mod_fillsWay_58 rfl 3 rfl ?_
        obtain ⟨g10, h⟩ := gdn h
        refine g_iald (pc1 := 60) d_Mod_fillsWay_59 rfl sh_438 (by decide) g10 ?_
        refine g_if_eq (pc1 := 63) (tgt := 71) d_Mod_fillsWay_60 (by decide) rfl (fun c11 => ?_) (fun c11 => ?_)
        · replace h := itp h c11
          refine g_iconst (pc1 := 72) (v := 0) d_Mod_fillsWay_71 rfl (by decide) ?_
          refine g_ireturn (Or.inr ⟨rfl, rfl⟩) d_Mod_fillsWay_72 rfl ?_
          cases h; exact hQ
        · replace h := itn h c11
          refine g_aload_n (pc1 := 64) d_Mod_fillsWay_63 rfl 0 rfl ?_
          refine g_callV0 (pc1 := 67) (As := []) (rest := []) d_Mod_fillsWay_64 rfl mo_Mod_339 mi_Mod_potMany mv_Mod_potMany rfl sh_401 (by decide) (by decide) rfl rfl (Nat.le_of_ble_eq_true rfl) ?_
          obtain ⟨r13, hq12, h⟩ := bnd h
          refine f_Mod_potMany hld  hq12 ?_
          dsimp only [psh]
          refine g_iconst (pc1 := 68) (v := 2) d_Mod_fillsWay_67 rfl (by decide) ?_
          refine g_icmp_ge (pc1 := 71) (tgt := 73) d_Mod_fillsWay_68 (by decide) rfl (fun c14 => ?_) (fun c14 => ?_)
          · replace h := itp h c14
            refine g_aload_n (pc1 := 74) d_Mod_fillsWay_73 rfl 0 rfl ?_
            refine g_getr (pc1 := 77) d_Mod_fillsWay_74 rfl ⟨_, fo_Mod_128⟩ sh_401 (by decide) (rf_401_55 ld) ?_
            refine g_iload_n (pc1 := 78) d_Mod_fillsWay_77 rfl 3 rfl ?_
            refine g_dup2 (pc1 := 79) d_Mod_fillsWay_78 rfl rfl rfl ?_
            obtain ⟨g15, h⟩ := gdn h
            refine g_iald (pc1 := 80) d_Mod_fillsWay_79 rfl sh_438 (by decide) g15 ?_
            refine g_iconst (pc1 := 81) (v := 1) d_Mod_fillsWay_80 rfl (by decide) ?_
            refine g_isub (pc1 := 82) d_Mod_fillsWay_81 rfl ?_
            obtain ⟨g16, h⟩ := gdn h
            refine g_iast (pc1 := 83) d_Mod_fillsWay_82 rfl sh_438 (by decide) g16 ?_
            refine Wp.lM h (fun M17 h => ?_)
            refine g_iconst (pc1 := 84) (v := 1) d_Mod_fillsWay_83 rfl (by decide) ?_
            refine g_ireturn (Or.inr ⟨rfl, rfl⟩) d_Mod_fillsWay_84 rfl ?_
            cases h; exact hQ
          · replace h := itn h c14
            refine g_iconst (pc1 := 72) (v := 0) d_Mod_fillsWay_71 rfl (by decide) ?_
            refine g_ireturn (Or.inr ⟨rfl, rfl⟩) d_Mod_fillsWay_72 rfl ?_
            cases h; exact hQ
      · replace h := itn h c9
        refine g_aload_n (pc1 := 43) d_Mod_fillsWay_42 rfl 0 rfl ?_
        refine g_getr (pc1 := 46) d_Mod_fillsWay_43 rfl ⟨_, fo_Mod_128⟩ sh_401 (by decide) (rf_401_55 ld) ?_
        refine g_iload_n (pc1 := 47) d_Mod_fillsWay_46 rfl 3 rfl ?_
        refine g_dup2 (pc1 := 48) d_Mod_fillsWay_47 rfl rfl rfl ?_
        obtain ⟨g18, h⟩ := gdn h
        refine g_iald (pc1 := 49) d_Mod_fillsWay_48 rfl sh_438 (by decide) g18 ?_
        refine g_iconst (pc1 := 50) (v := 1) d_Mod_fillsWay_49 rfl (by decide) ?_
        refine g_iadd (pc1 := 51) d_Mod_fillsWay_50 rfl ?_
        obtain ⟨g19, h⟩ := gdn h
        refine g_iast (pc1 := 52) d_Mod_fillsWay_51 rfl sh_438 (by decide) g19 ?_
        refine Wp.lM h (fun M20 h => ?_)
        refine g_iconst (pc1 := 53) (v := 1) d_Mod_fillsWay_52 rfl (by decide) ?_
        refine g_ireturn (Or.inr ⟨rfl, rfl⟩) d_Mod_fillsWay_53 rfl ?_
        cases h; exact hQ
    · replace h := itp h c8
      refine g_iconst (pc1 := 35) (v := 0) d_Mod_fillsWay_34 rfl (by decide) ?_
      refine g_ireturn (Or.inr ⟨rfl, rfl⟩) d_Mod_fillsWay_35 rfl ?_
      cases h; exact hQ
  · replace h := itp h c4
    refine g_iconst (pc1 := 18) (v := 1) d_Mod_fillsWay_17 rfl (by decide) ?_
    refine g_ireturn (Or.inr ⟨rfl, rfl⟩) d_Mod_fillsWay_18 rfl ?_
    cases h; exact hQ

def F_Mod_food (p1 : Int32) (p2 : Int32) (M : gM) : Option (Int32) :=
  bI (F_Mod_isFood p1 M) (fun r2 => (if r2 = 0 then some (-1) else (if p2 = 0 then (if (p1 : Int32) < 0 ∨ 38 ≤ (p1 : Int32).toNatClampNeg then none else some (M 436 (p1 : Int32).toNatClampNeg)) else (if p2 = 1 then (if (((6 * (M 401 18)) + p1) : Int32) < 0 ∨ 12 ≤ (((6 * (M 401 18)) + p1) : Int32).toNatClampNeg then none else some (M 413 (((6 * (M 401 18)) + p1) : Int32).toNatClampNeg)) else (if p2 = 2 then (if ((((3 * ((6 * (M 401 18)) + p1)) + p2) - 2) : Int32) < 0 ∨ 36 ≤ ((((3 * ((6 * (M 401 18)) + p1)) + p2) - 2) : Int32).toNatClampNeg then none else some (M 414 ((((3 * ((6 * (M 401 18)) + p1)) + p2) - 2) : Int32).toNatClampNeg)) else (if p2 = 3 then (if ((((3 * ((6 * (M 401 18)) + p1)) + p2) - 2) : Int32) < 0 ∨ 36 ≤ ((((3 * ((6 * (M 401 18)) + p1)) + p2) - 2) : Int32).toNatClampNeg then none else some (M 414 ((((3 * ((6 * (M 401 18)) + p1)) + p2) - 2) : Int32).toNatClampNeg)) else (if p2 = 4 then (if ((((3 * ((6 * (M 401 18)) + p1)) + p2) - 2) : Int32) < 0 ∨ 36 ≤ ((((3 * ((6 * (M 401 18)) + p1)) + p2) - 2) : Int32).toNatClampNeg then none else some (M 414 ((((3 * ((6 * (M 401 18)) + p1)) + p2) - 2) : Int32).toNatClampNeg)) else some (-1))))))))
set_option maxHeartbeats 4000000 in
set_option maxRecDepth 20000 in
theorem f_Mod_food {l : Launch} {ld : Nat} {M : gM} {L : gL} {Q : Option Value → gM → gL → gR → Prop} (hld : isLa ld) {p1 : Int32} {p2 : Int32}  {q : Int32} (h : F_Mod_food p1 p2 M = some q) (hQ : Q (some (.int q)) M L (rf ld)) : Tm l y_Mod_food (0, 0, 447) 447 [.ref 401, .int p1, .int p2] M L (rf ld) Q := by
  refine Tm.of (by decide) (Nat.le_of_ble_eq_true rfl) ?_
  show Wp l y_Mod_food (0, 0, 447) 447 0 0 0 [(0, .ref 401), (1, .int p1), (2, .int p2)] [] M L (rf ld) Q
  unfold F_Mod_food at h
  refine g_aload_n (pc1 := 1) d_Mod_food_0 rfl 0 rfl ?_
  refine g_iload_n (pc1 := 2) d_Mod_food_1 rfl 1 rfl ?_
  refine g_callV0 (pc1 := 5) (As := [.int p1]) (rest := []) d_Mod_food_2 rfl mo_Mod_371 mi_Mod_isFood mv_Mod_isFood rfl sh_401 (by decide) (by decide) rfl rfl (Nat.le_of_ble_eq_true rfl) ?_
  obtain ⟨r2, hq1, h⟩ := bnd h
  refine f_Mod_isFood hld  hq1 ?_
  dsimp only [psh]
  refine g_if_ne (pc1 := 8) (tgt := 10) d_Mod_food_5 (by decide) rfl (fun c3 => ?_) (fun c3 => ?_)
  · replace h := itn h c3
    refine g_iload_n (pc1 := 11) d_Mod_food_10 rfl 2 rfl ?_
    by_cases c4 : p2 = 0
    · replace h := itp h c4
      refine g_tabK (tgt := 44) (off := 33) d_Mod_food_11 c4 (by decide) (by decide) (by decide) (by decide) ?_
      refine g_aload_n (pc1 := 45) d_Mod_food_44 rfl 0 rfl ?_
      refine g_getr (pc1 := 48) d_Mod_food_45 rfl ⟨_, fo_Mod_122⟩ sh_401 (by decide) (rf_401_52 ld) ?_
      refine g_iload_n (pc1 := 49) d_Mod_food_48 rfl 1 rfl ?_
      obtain ⟨g5, h⟩ := gdn h
      refine g_iald (pc1 := 50) d_Mod_food_49 rfl sh_436 (by decide) g5 ?_
      refine g_ireturn (Or.inl rfl) d_Mod_food_50 rfl ?_
      cases h; exact hQ
    replace h := itn h c4
    by_cases c6 : p2 = 1
    · replace h := itp h c6
      refine g_tabK (tgt := 51) (off := 40) d_Mod_food_11 c6 (by decide) (by decide) (by decide) (by decide) ?_
      refine g_aload_n (pc1 := 52) d_Mod_food_51 rfl 0 rfl ?_
      refine g_getr (pc1 := 55) d_Mod_food_52 rfl ⟨_, fo_Mod_52⟩ sh_401 (by decide) (rf_401_25 ld) ?_
      refine g_bipush (pc1 := 57) (v := 6) d_Mod_food_55 rfl (by decide) ?_
      refine g_aload_n (pc1 := 58) d_Mod_food_57 rfl 0 rfl ?_
      refine g_geti (pc1 := 61) d_Mod_food_58 rfl ⟨_, fo_Mod_236⟩ sh_401 (by decide) ?_
      refine g_imul (pc1 := 62) d_Mod_food_61 rfl ?_
      refine g_iload_n (pc1 := 63) d_Mod_food_62 rfl 1 rfl ?_
      refine g_iadd (pc1 := 64) d_Mod_food_63 rfl ?_
      obtain ⟨g7, h⟩ := gdn h
      refine g_iald (pc1 := 65) d_Mod_food_64 rfl sh_413 (by decide) g7 ?_
      refine g_ireturn (Or.inl rfl) d_Mod_food_65 rfl ?_
      cases h; exact hQ
    replace h := itn h c6
    by_cases c8 : p2 = 2
    · replace h := itp h c8
      refine g_tabK (tgt := 66) (off := 55) d_Mod_food_11 c8 (by decide) (by decide) (by decide) (by decide) ?_
      refine g_aload_n (pc1 := 67) d_Mod_food_66 rfl 0 rfl ?_
      refine g_getr (pc1 := 70) d_Mod_food_67 rfl ⟨_, fo_Mod_55⟩ sh_401 (by decide) (rf_401_26 ld) ?_
      refine g_iconst (pc1 := 71) (v := 3) d_Mod_food_70 rfl (by decide) ?_
      refine g_bipush (pc1 := 73) (v := 6) d_Mod_food_71 rfl (by decide) ?_
      refine g_aload_n (pc1 := 74) d_Mod_food_73 rfl 0 rfl ?_
      refine g_geti (pc1 := 77) d_Mod_food_74 rfl ⟨_, fo_Mod_236⟩ sh_401 (by decide) ?_
      refine g_imul (pc1 := 78) d_Mod_food_77 rfl ?_
      refine g_iload_n (pc1 := 79) d_Mod_food_78 rfl 1 rfl ?_
      refine g_iadd (pc1 := 80) d_Mod_food_79 rfl ?_
      refine g_imul (pc1 := 81) d_Mod_food_80 rfl ?_
      refine g_iload_n (pc1 := 82) d_Mod_food_81 rfl 2 rfl ?_
      refine g_iadd (pc1 := 83) d_Mod_food_82 rfl ?_
      refine g_iconst (pc1 := 84) (v := 2) d_Mod_food_83 rfl (by decide) ?_
      refine g_isub (pc1 := 85) d_Mod_food_84 rfl ?_
      obtain ⟨g9, h⟩ := gdn h
      refine g_iald (pc1 := 86) d_Mod_food_85 rfl sh_414 (by decide) g9 ?_
      refine g_ireturn (Or.inl rfl) d_Mod_food_86 rfl ?_
      cases h; exact hQ
    replace h := itn h c8
    by_cases c10 : p2 = 3
    · replace h := itp h c10
      refine g_tabK (tgt := 66) (off := 55) d_Mod_food_11 c10 (by decide) (by decide) (by decide) (by decide) ?_
      refine g_aload_n (pc1 := 67) d_Mod_food_66 rfl 0 rfl ?_
      refine g_getr (pc1 := 70) d_Mod_food_67 rfl ⟨_, fo_Mod_55⟩ sh_401 (by decide) (rf_401_26 ld) ?_
      refine g_iconst (pc1 := 71) (v := 3) d_Mod_food_70 rfl (by decide) ?_
      refine g_bipush (pc1 := 73) (v := 6) d_Mod_food_71 rfl (by decide) ?_
      refine g_aload_n (pc1 := 74) d_Mod_food_73 rfl 0 rfl ?_
      refine g_geti (pc1 := 77) d_Mod_food_74 rfl ⟨_, fo_Mod_236⟩ sh_401 (by decide) ?_
      refine g_imul (pc1 := 78) d_Mod_food_77 rfl ?_
      refine g_iload_n (pc1 := 79) d_Mod_food_78 rfl 1 rfl ?_
      refine g_iadd (pc1 := 80) d_Mod_food_79 rfl ?_
      refine g_imul (pc1 := 81) d_Mod_food_80 rfl ?_
      refine g_iload_n (pc1 := 82) d_Mod_food_81 rfl 2 rfl ?_
      refine g_iadd (pc1 := 83) d_Mod_food_82 rfl ?_
      refine g_iconst (pc1 := 84) (v := 2) d_Mod_food_83 rfl (by decide) ?_
      refine g_isub (pc1 := 85) d_Mod_food_84 rfl ?_
      obtain ⟨g11, h⟩ := gdn h
      refine g_iald (pc1 := 86) d_Mod_food_85 rfl sh_414 (by decide) g11 ?_
      refine g_ireturn (Or.inl rfl) d_Mod_food_86 rfl ?_
      cases h; exact hQ
    replace h := itn h c10
    by_cases c12 : p2 = 4
    · replace h := itp h c12
      refine g_tabK (tgt := 66) (off := 55) d_Mod_food_11 c12 (by decide) (by decide) (by decide) (by decide) ?_
      refine g_aload_n (pc1 := 67) d_Mod_food_66 rfl 0 rfl ?_
      refine g_getr (pc1 := 70) d_Mod_food_67 rfl ⟨_, fo_Mod_55⟩ sh_401 (by decide) (rf_401_26 ld) ?_
      refine g_iconst (pc1 := 71) (v := 3) d_Mod_food_70 rfl (by decide) ?_
      refine g_bipush (pc1 := 73) (v := 6) d_Mod_food_71 rfl (by decide) ?_
      refine g_aload_n (pc1 := 74) d_Mod_food_73 rfl 0 rfl ?_
      refine g_geti (pc1 := 77) d_Mod_food_74 rfl ⟨_, fo_Mod_236⟩ sh_401 (by decide) ?_
      refine g_imul (pc1 := 78) d_Mod_food_77 rfl ?_
      refine g_iload_n (pc1 := 79) d_Mod_food_78 rfl 1 rfl ?_
      refine g_iadd (pc1 := 80) d_Mod_food_79 rfl ?_
      refine g_imul (pc1 := 81) d_Mod_food_80 rfl ?_
      refine g_iload_n (pc1 := 82) d_Mod_food_81 rfl 2 rfl ?_
      refine g_iadd (pc1 := 83) d_Mod_food_82 rfl ?_
      refine g_iconst (pc1 := 84) (v := 2) d_Mod_food_83 rfl (by decide) ?_
      refine g_isub (pc1 := 85) d_Mod_food_84 rfl ?_
      obtain ⟨g13, h⟩ := gdn h
      refine g_iald (pc1 := 86) d_Mod_food_85 rfl sh_414 (by decide) g13 ?_
      refine g_ireturn (Or.inl rfl) d_Mod_food_86 rfl ?_
      cases h; exact hQ
    replace h := itn h c12
    refine g_tabOut (tgt := 87) d_Mod_food_11 (by
      have nc4 := neT (a := 0) c4 (by decide)
      have nc6 := neT (a := 1) c6 (by decide)
      have nc8 := neT (a := 2) c8 (by decide)
      have nc10 := neT (a := 3) c10 (by decide)
      have nc12 := neT (a := 4) c12 (by decide)
      omega) (by decide) ?_
    refine g_iconst (pc1 := 88) (v := (-1)) d_Mod_food_87 rfl (by decide) ?_
    refine g_ireturn (Or.inl rfl) d_Mod_food_88 rfl ?_
    cases h; exact hQ
  · replace h := itp h c3
    refine g_iconst (pc1 := 9) (v := (-1)) d_Mod_food_8 rfl (by decide) ?_
    refine g_ireturn (Or.inl rfl) d_Mod_food_9 rfl ?_
    cases h; exact hQ

def F_Mod_must (p1 : Int32) (M : gM) : Option (gM) :=
  bI (F_Mod_is p1 M) (fun r2 => (if r2 = 0 then bI (F_Mod_fail 1 M) (fun M5 => some M5) else bI (F_Mod_goesOn M) (fun M7 => some M7)))
set_option maxHeartbeats 4000000 in
set_option maxRecDepth 20000 in
theorem f_Mod_must {l : Launch} {ld : Nat} {M : gM} {L : gL} {Q : Option Value → gM → gL → gR → Prop} (hld : isLa ld) {p1 : Int32}  {q : gM} (h : F_Mod_must p1 M = some q) (hQ : Q none q L (rf ld)) : Tm l y_Mod_must (0, 0, 447) 447 [.ref 401, .int p1] M L (rf ld) Q := by
  refine Tm.of (by decide) (Nat.le_of_ble_eq_true rfl) ?_
  show Wp l y_Mod_must (0, 0, 447) 447 0 0 0 [(0, .ref 401), (1, .int p1)] [] M L (rf ld) Q
  unfold F_Mod_must at h
  refine g_aload_n (pc1 := 1) d_Mod_must_0 rfl 0 rfl ?_
  refine g_iload_n (pc1 := 2) d_Mod_must_1 rfl 1 rfl ?_
  refine g_callV0 (pc1 := 5) (As := [.int p1]) (rest := []) d_Mod_must_2 rfl mo_Mod_224 mi_Mod_is mv_Mod_is rfl sh_401 (by decide) (by decide) rfl rfl (Nat.le_of_ble_eq_true rfl) ?_
  obtain ⟨r2, hq1, h⟩ := bnd h
  refine f_Mod_is hld  hq1 ?_
  dsimp only [psh]
  refine g_if_eq (pc1 := 8) (tgt := 15) d_Mod_must_5 (by decide) rfl (fun c3 => ?_) (fun c3 => ?_)
  · replace h := itp h c3
    refine g_aload_n (pc1 := 16) d_Mod_must_15 rfl 0 rfl ?_
    refine g_iconst (pc1 := 17) (v := 1) d_Mod_must_16 rfl (by decide) ?_
    refine g_callV0 (pc1 := 20) (As := [.int 1]) (rest := []) d_Mod_must_17 rfl mo_Mod_221 mi_Mod_fail mv_Mod_fail rfl sh_401 (by decide) (by decide) rfl rfl (Nat.le_of_ble_eq_true rfl) ?_
    obtain ⟨M5, hq4, h⟩ := bnd h
    refine f_Mod_fail hld  hq4 ?_
    dsimp only [psh]
    refine g_return rfl d_Mod_must_20 rfl ?_
    cases h; exact hQ
  · replace h := itn h c3
    refine g_aload_n (pc1 := 9) d_Mod_must_8 rfl 0 rfl ?_
    refine g_callV0 (pc1 := 12) (As := []) (rest := []) d_Mod_must_9 rfl mo_Mod_227 mi_Mod_goesOn mv_Mod_goesOn rfl sh_401 (by decide) (by decide) rfl rfl (Nat.le_of_ble_eq_true rfl) ?_
    obtain ⟨M7, hq6, h⟩ := bnd h
    refine f_Mod_goesOn hld  hq6 ?_
    dsimp only [psh]
    refine g_goto (tgt := 20) d_Mod_must_12 (by decide) ?_
    refine g_return rfl d_Mod_must_20 rfl ?_
    cases h; exact hQ

def J_Mod_often_78 (K25 : Int32 → Int32 → Option (Int32 × gM)) (v2 : Int32) (v3 : Int32) (M : gM) : Option (Int32 × gM) :=
  nmI (v3 + 1) (fun x12 => K25 v2 x12)
set_option maxHeartbeats 4000000 in
set_option maxRecDepth 20000 in
theorem j_Mod_often_78 {l : Launch} {ld : Nat} {Q : Option Value → gM → gL → gR → Prop} (hld : isLa ld)   {q : Int32 × gM} {M : gM} {L : gL} (hQ : Q (some (.int q.1)) q.2 L (rf ld)) {K25 : Int32 → Int32 → Option (Int32 × gM)} {v2 : Int32} {v3 : Int32} (hK25 : ∀ (w2 : Int32) (w3 : Int32), K25 w2 w3 = some q → Wp l y_Mod_often (0, 0, 447) 447 0 0 25 [(0, .ref 401), (2, .int w2), (3, .int w3)] [] M L (rf ld) Q) (h : J_Mod_often_78 K25 v2 v3 M = some q) : Wp l y_Mod_often (0, 0, 447) 447 0 0 78 [(0, .ref 401), (2, .int v2), (3, .int v3)] [] M L (rf ld) Q := by
  unfold J_Mod_often_78 at h
  obtain ⟨x12, ex12, h⟩ := ltI h
  refine g_iinc (pc1 := 81) (v := x12) (lv' := [(0, .ref 401), (2, .int v2), (3, .int x12)]) d_Mod_often_78 rfl 2 rfl (by rw [ex12]; rfl) (by decide) [1, 2, 0] rfl ?_
  refine g_goto (tgt := 25) d_Mod_often_81 (by decide) ?_
  exact hK25 v2 x12 h
def B_Mod_often_25 (M : gM) (K25 : Int32 → Int32 → Option (Int32 × gM)) : Int32 → Int32 → Option (Int32 × gM) := fun v2 v3 =>
  (if ((M 401 18) : Int32) < 0 ∨ 2 ≤ ((M 401 18) : Int32).toNatClampNeg then none else (if (M 411 ((M 401 18) : Int32).toNatClampNeg) ≤ v3 then some (v2, M) else (if (v3 : Int32) < 0 ∨ 6 ≤ (v3 : Int32).toNatClampNeg then none else (if (M 438 (v3 : Int32).toNatClampNeg) ≤ 0 then J_Mod_often_78 K25 v2 v3 M else (if (v3 : Int32) < 0 ∨ 38 ≤ (v3 : Int32).toNatClampNeg then none else (if (v3 : Int32) < 0 ∨ 6 ≤ (v3 : Int32).toNatClampNeg then none else (if (M 438 (v3 : Int32).toNatClampNeg) = 0 then none else (if v2 ≤ ((M 437 (v3 : Int32).toNatClampNeg) / (M 438 (v3 : Int32).toNatClampNeg)) then J_Mod_often_78 K25 v2 v3 M else (if (v3 : Int32) < 0 ∨ 38 ≤ (v3 : Int32).toNatClampNeg then none else (if (v3 : Int32) < 0 ∨ 6 ≤ (v3 : Int32).toNatClampNeg then none else (if (M 438 (v3 : Int32).toNatClampNeg) = 0 then none else nmI ((M 437 (v3 : Int32).toNatClampNeg) / (M 438 (v3 : Int32).toNatClampNeg)) (fun x20 => J_Mod_often_78 K25 x20 v3 M))))))))))))
def H_Mod_often_25 (M : gM) : Nat → Int32 → Int32 → Option (Int32 × gM) := lpK (B_Mod_often_25 M) (fun _ _ => none)
set_option maxHeartbeats 4000000 in
set_option maxRecDepth 20000 in
theorem h_Mod_often_25 {l : Launch} {ld : Nat} {Q : Option Value → gM → gL → gR → Prop} (hld : isLa ld)   {q : Int32 × gM} {M : gM} {L : gL} (hQ : Q (some (.int q.1)) q.2 L (rf ld))    : ∀ (f : Nat) (v2 : Int32) (v3 : Int32), H_Mod_often_25 M f v2 v3 = some q → Wp l y_Mod_often (0, 0, 447) 447 0 0 25 [(0, .ref 401), (2, .int v2), (3, .int v3)] [] M L (rf ld) Q := by
  intro f
  induction f with
  | zero => intro v2 v3 h; cases h
  | succ f hK25 =>
    intro v2 v3 h
    replace h : B_Mod_often_25 M (H_Mod_often_25 M f) v2 v3 = some q := h
    unfold B_Mod_often_25 at h
    refine g_iload_n (pc1 := 26) d_Mod_often_25 rfl 2 rfl ?_
    refine g_aload_n (pc1 := 27) d_Mod_often_26 rfl 0 rfl ?_
    refine g_getr (pc1 := 30) d_Mod_often_27 rfl ⟨_, fo_Mod_46⟩ sh_401 (by decide) (rf_401_23 ld) ?_
    refine g_aload_n (pc1 := 31) d_Mod_often_30 rfl 0 rfl ?_
    refine g_geti (pc1 := 34) d_Mod_often_31 rfl ⟨_, fo_Mod_236⟩ sh_401 (by decide) ?_
    obtain ⟨g8, h⟩ := gdn h
    refine g_iald (pc1 := 35) d_Mod_often_34 rfl sh_411 (by decide) g8 ?_
    refine g_icmp_ge (pc1 := 38) (tgt := 84) d_Mod_often_35 (by decide) rfl (fun c9 => ?_) (fun c9 => ?_)
    · replace h := itp h c9
      refine g_iload_n (pc1 := 85) d_Mod_often_84 rfl 1 rfl ?_
      refine g_ireturn (Or.inl rfl) d_Mod_often_85 rfl ?_
      cases h; exact hQ
    · replace h := itn h c9
      refine g_aload_n (pc1 := 39) d_Mod_often_38 rfl 0 rfl ?_
      refine g_getr (pc1 := 42) d_Mod_often_39 rfl ⟨_, fo_Mod_128⟩ sh_401 (by decide) (rf_401_55 ld) ?_
      refine g_iload_n (pc1 := 43) d_Mod_often_42 rfl 2 rfl ?_
      obtain ⟨g10, h⟩ := gdn h
      refine g_iald (pc1 := 44) d_Mod_often_43 rfl sh_438 (by decide) g10 ?_
      refine g_if_le (pc1 := 47) (tgt := 78) d_Mod_often_44 (by decide) rfl (fun c11 => ?_) (fun c11 => ?_)
      · replace h := itp h c11
        exact j_Mod_often_78 hld  hQ hK25 h
      · replace h := itn h c11
        refine g_aload_n (pc1 := 48) d_Mod_often_47 rfl 0 rfl ?_
        refine g_getr (pc1 := 51) d_Mod_often_48 rfl ⟨_, fo_Mod_125⟩ sh_401 (by decide) (rf_401_53 ld) ?_
        refine g_iload_n (pc1 := 52) d_Mod_often_51 rfl 2 rfl ?_
        obtain ⟨g13, h⟩ := gdn h
        refine g_iald (pc1 := 53) d_Mod_often_52 rfl sh_437 (by decide) g13 ?_
        refine g_aload_n (pc1 := 54) d_Mod_often_53 rfl 0 rfl ?_
        refine g_getr (pc1 := 57) d_Mod_often_54 rfl ⟨_, fo_Mod_128⟩ sh_401 (by decide) (rf_401_55 ld) ?_
        refine g_iload_n (pc1 := 58) d_Mod_often_57 rfl 2 rfl ?_
        obtain ⟨g14, h⟩ := gdn h
        refine g_iald (pc1 := 59) d_Mod_often_58 rfl sh_438 (by decide) g14 ?_
        obtain ⟨g15, h⟩ := gdn h
        refine g_idiv (pc1 := 60) d_Mod_often_59 rfl g15 ?_
        refine g_iload_n (pc1 := 61) d_Mod_often_60 rfl 1 rfl ?_
        refine g_icmp_ge (pc1 := 64) (tgt := 78) d_Mod_often_61 (by decide) rfl (fun c16 => ?_) (fun c16 => ?_)
        · replace h := itp h c16
          exact j_Mod_often_78 hld  hQ hK25 h
        · replace h := itn h c16
          refine g_aload_n (pc1 := 65) d_Mod_often_64 rfl 0 rfl ?_
          refine g_getr (pc1 := 68) d_Mod_often_65 rfl ⟨_, fo_Mod_125⟩ sh_401 (by decide) (rf_401_53 ld) ?_
          refine g_iload_n (pc1 := 69) d_Mod_often_68 rfl 2 rfl ?_
          obtain ⟨g17, h⟩ := gdn h
          refine g_iald (pc1 := 70) d_Mod_often_69 rfl sh_437 (by decide) g17 ?_
          refine g_aload_n (pc1 := 71) d_Mod_often_70 rfl 0 rfl ?_
          refine g_getr (pc1 := 74) d_Mod_often_71 rfl ⟨_, fo_Mod_128⟩ sh_401 (by decide) (rf_401_55 ld) ?_
          refine g_iload_n (pc1 := 75) d_Mod_often_74 rfl 2 rfl ?_
          obtain ⟨g18, h⟩ := gdn h
          refine g_iald (pc1 := 76) d_Mod_often_75 rfl sh_438 (by decide) g18 ?_
          obtain ⟨g19, h⟩ := gdn h
          refine g_idiv (pc1 := 77) d_Mod_often_76 rfl g19 ?_
          refine Wp.lI h (fun x20 h => ?_)
          refine g_istore_n (pc1 := 78) (lv' := [(0, .ref 401), (2, .int x20), (3, .int v3)]) d_Mod_often_77 rfl rfl (by decide) [1, 0, 2] rfl ?_
          exact j_Mod_often_78 hld  hQ hK25 h
def F_Mod_often (p1 : Int32) (M : gM) : Option (Int32 × gM) :=
  bI (F_Mod_isDish p1 M) (fun r2 => (if r2 = 0 then some ((-1), M) else bI (F_Mod_copies M) (fun M5 => bI (F_Mod_fillsPot p1 M5) (fun M7 => H_Mod_often_25 M7 FU 999 0))))
set_option maxHeartbeats 4000000 in
set_option maxRecDepth 20000 in
theorem f_Mod_often {l : Launch} {ld : Nat} {M : gM} {L : gL} {Q : Option Value → gM → gL → gR → Prop} (hld : isLa ld) {p1 : Int32}  {q : Int32 × gM} (h : F_Mod_often p1 M = some q) (hQ : Q (some (.int q.1)) q.2 L (rf ld)) : Tm l y_Mod_often (0, 0, 447) 447 [.ref 401, .int p1] M L (rf ld) Q := by
  refine Tm.of (by decide) (Nat.le_of_ble_eq_true rfl) ?_
  show Wp l y_Mod_often (0, 0, 447) 447 0 0 0 [(0, .ref 401), (1, .int p1)] [] M L (rf ld) Q
  unfold F_Mod_often at h
  refine g_aload_n (pc1 := 1) d_Mod_often_0 rfl 0 rfl ?_
  refine g_iload_n (pc1 := 2) d_Mod_often_1 rfl 1 rfl ?_
  refine g_callV0 (pc1 := 5) (As := [.int p1]) (rest := []) d_Mod_often_2 rfl mo_Mod_374 mi_Mod_isDish mv_Mod_isDish rfl sh_401 (by decide) (by decide) rfl rfl (Nat.le_of_ble_eq_true rfl) ?_
  obtain ⟨r2, hq1, h⟩ := bnd h
  refine f_Mod_isDish hld  hq1 ?_
  dsimp only [psh]
  refine g_if_ne (pc1 := 8) (tgt := 10) d_Mod_often_5 (by decide) rfl (fun c3 => ?_) (fun c3 => ?_)
  · replace h := itn h c3
    refine g_aload_n (pc1 := 11) d_Mod_often_10 rfl 0 rfl ?_
    refine g_callV0 (pc1 := 14) (As := []) (rest := []) d_Mod_often_11 rfl mo_Mod_377 mi_Mod_copies mv_Mod_copies rfl sh_401 (by decide) (by decide) rfl rfl (Nat.le_of_ble_eq_true rfl) ?_
    obtain ⟨M5, hq4, h⟩ := bnd h
    refine f_Mod_copies hld  hq4 ?_
    dsimp only [psh]
    refine g_aload_n (pc1 := 15) d_Mod_often_14 rfl 0 rfl ?_
    refine g_iload_n (pc1 := 16) d_Mod_often_15 rfl 1 rfl ?_
    refine g_callV0 (pc1 := 19) (As := [.int p1]) (rest := []) d_Mod_often_16 rfl mo_Mod_356 mi_Mod_fillsPot mv_Mod_fillsPot rfl sh_401 (by decide) (by decide) rfl rfl (Nat.le_of_ble_eq_true rfl) ?_
    obtain ⟨M7, hq6, h⟩ := bnd h
    refine f_Mod_fillsPot hld  hq6 ?_
    dsimp only [psh]
    refine g_sipush (pc1 := 22) (v := 999) d_Mod_often_19 rfl (by decide) ?_
    refine g_istore_n (pc1 := 23) (lv' := [(0, .ref 401), (1, .int p1), (2, .int 999)]) d_Mod_often_22 rfl rfl (by decide) [1, 2, 0] rfl ?_
    refine g_iconst (pc1 := 24) (v := 0) d_Mod_often_23 rfl (by decide) ?_
    refine g_istore_n (pc1 := 25) (lv' := [(0, .ref 401), (1, .int p1), (2, .int 999), (3, .int 0)]) d_Mod_often_24 rfl rfl (by decide) [1, 2, 3, 0] rfl ?_
    refine Wp.loc (lv' := [(0, .ref 401), (2, .int 999), (3, .int 0)]) [0, 2, 3] rfl ?_
    exact h_Mod_often_25 hld  hQ  _ 999 0 h
  · replace h := itp h c3
    refine g_iconst (pc1 := 9) (v := (-1)) d_Mod_often_8 rfl (by decide) ?_
    refine g_ireturn (Or.inl rfl) d_Mod_often_9 rfl ?_
    cases h; exact hQ

def J_Mod_roomFor_10 (M : gM) : Option (gM) :=
  (if (M 401 13) = 0 then bI (F_Mod_goesOn M) (fun M4 => some M4) else some M)
set_option maxHeartbeats 4000000 in
set_option maxRecDepth 20000 in
theorem j_Mod_roomFor_10 {l : Launch} {ld : Nat} {Q : Option Value → gM → gL → gR → Prop} (hld : isLa ld)   {q : gM} {M : gM} {L : gL} (hQ : Q none q L (rf ld))    (h : J_Mod_roomFor_10 M = some q) : Wp l y_Mod_roomFor (0, 0, 447) 447 0 0 10 [(0, .ref 401)] [] M L (rf ld) Q := by
  unfold J_Mod_roomFor_10 at h
  refine g_aload_n (pc1 := 11) d_Mod_roomFor_10 rfl 0 rfl ?_
  refine g_geti (pc1 := 14) d_Mod_roomFor_11 rfl ⟨_, fo_Mod_206⟩ sh_401 (by decide) ?_
  refine g_if_ne (pc1 := 17) (tgt := 21) d_Mod_roomFor_14 (by decide) rfl (fun c2 => ?_) (fun c2 => ?_)
  · replace h := itn h c2
    refine g_return rfl d_Mod_roomFor_21 rfl ?_
    cases h; exact hQ
  · replace h := itp h c2
    refine g_aload_n (pc1 := 18) d_Mod_roomFor_17 rfl 0 rfl ?_
    refine g_callV0 (pc1 := 21) (As := []) (rest := []) d_Mod_roomFor_18 rfl mo_Mod_227 mi_Mod_goesOn mv_Mod_goesOn rfl sh_401 (by decide) (by decide) rfl rfl (Nat.le_of_ble_eq_true rfl) ?_
    obtain ⟨M4, hq3, h⟩ := bnd h
    refine f_Mod_goesOn hld  hq3 ?_
    dsimp only [psh]
    refine g_return rfl d_Mod_roomFor_21 rfl ?_
    cases h; exact hQ
def F_Mod_roomFor (p1 : Int32) (p2 : Int32) (M : gM) : Option (gM) :=
  (if p1 = p2 then bI (F_Mod_fail 2 M) (fun M6 => J_Mod_roomFor_10 M6) else J_Mod_roomFor_10 M)
set_option maxHeartbeats 4000000 in
set_option maxRecDepth 20000 in
theorem f_Mod_roomFor {l : Launch} {ld : Nat} {M : gM} {L : gL} {Q : Option Value → gM → gL → gR → Prop} (hld : isLa ld) {p1 : Int32} {p2 : Int32}  {q : gM} (h : F_Mod_roomFor p1 p2 M = some q) (hQ : Q none q L (rf ld)) : Tm l y_Mod_roomFor (0, 0, 447) 447 [.ref 401, .int p1, .int p2] M L (rf ld) Q := by
  refine Tm.of (by decide) (Nat.le_of_ble_eq_true rfl) ?_
  show Wp l y_Mod_roomFor (0, 0, 447) 447 0 0 0 [(0, .ref 401), (1, .int p1), (2, .int p2)] [] M L (rf ld) Q
  unfold F_Mod_roomFor at h
  refine g_iload_n (pc1 := 1) d_Mod_roomFor_0 rfl 1 rfl ?_
  refine g_iload_n (pc1 := 2) d_Mod_roomFor_1 rfl 2 rfl ?_
  refine g_icmp_ne (pc1 := 5) (tgt := 10) d_Mod_roomFor_2 (by decide) rfl (fun c1 => ?_) (fun c1 => ?_)
  · replace h := itn h c1
    refine Wp.loc (lv' := [(0, .ref 401)]) [0] rfl ?_
    exact j_Mod_roomFor_10 hld  hQ  h
  · replace h := itp h c1
    refine g_aload_n (pc1 := 6) d_Mod_roomFor_5 rfl 0 rfl ?_
    refine g_iconst (pc1 := 7) (v := 2) d_Mod_roomFor_6 rfl (by decide) ?_
    refine g_callV0 (pc1 := 10) (As := [.int 2]) (rest := []) d_Mod_roomFor_7 rfl mo_Mod_221 mi_Mod_fail mv_Mod_fail rfl sh_401 (by decide) (by decide) rfl rfl (Nat.le_of_ble_eq_true rfl) ?_
    obtain ⟨M6, hq5, h⟩ := bnd h
    refine f_Mod_fail hld  hq5 ?_
    dsimp only [psh]
    refine Wp.loc (lv' := [(0, .ref 401)]) [0] rfl ?_
    exact j_Mod_roomFor_10 hld  hQ  h

def J_Mod_unit_88 (M : gM) : Option (gM) :=
  bI (F_Mod_fail 1 M) (fun M6 => some M6)
set_option maxHeartbeats 4000000 in
set_option maxRecDepth 20000 in
theorem j_Mod_unit_88 {l : Launch} {ld : Nat} {Q : Option Value → gM → gL → gR → Prop} (hld : isLa ld)   {q : gM} {M : gM} {L : gL} (hQ : Q none q L (rf ld))    (h : J_Mod_unit_88 M = some q) : Wp l y_Mod_unit (0, 0, 447) 447 0 0 88 [(0, .ref 401)] [] M L (rf ld) Q := by
  unfold J_Mod_unit_88 at h
  refine g_aload_n (pc1 := 89) d_Mod_unit_88 rfl 0 rfl ?_
  refine g_iconst (pc1 := 90) (v := 1) d_Mod_unit_89 rfl (by decide) ?_
  refine g_callV0 (pc1 := 93) (As := [.int 1]) (rest := []) d_Mod_unit_90 rfl mo_Mod_221 mi_Mod_fail mv_Mod_fail rfl sh_401 (by decide) (by decide) rfl rfl (Nat.le_of_ble_eq_true rfl) ?_
  obtain ⟨M6, hq5, h⟩ := bnd h
  refine f_Mod_fail hld  hq5 ?_
  dsimp only [psh]
  refine g_return rfl d_Mod_unit_93 rfl ?_
  cases h; exact hQ
def F_Mod_unit (M : gM) : Option (gM) :=
  bI (F_Mod_is 2 M) (fun r2 => (if r2 = 0 then (if (M 401 13) = 0 then (if ((M 401 11) : Int32) < 0 ∨ 403 ≤ ((M 401 11) : Int32).toNatClampNeg then none else (if (M 404 ((M 401 11) : Int32).toNatClampNeg) < 32 then J_Mod_unit_88 M else (if ((M 401 11) : Int32) < 0 ∨ 403 ≤ ((M 401 11) : Int32).toNatClampNeg then none else (if 40 < (M 404 ((M 401 11) : Int32).toNatClampNeg) then J_Mod_unit_88 M else (if ((M 401 11) : Int32) < 0 ∨ 403 ≤ ((M 401 11) : Int32).toNatClampNeg then none else bI (F_Mod_emit 1 ((M 404 ((M 401 11) : Int32).toNatClampNeg) - 32) M) (fun M13 => bI (F_Mod_goesOn M13) (fun M15 => some M15))))))) else J_Mod_unit_88 M) else (if ((M 401 11) : Int32) < 0 ∨ 403 ≤ ((M 401 11) : Int32).toNatClampNeg then none else bI (F_Mod_emit 0 (M 406 ((M 401 11) : Int32).toNatClampNeg) M) (fun M18 => bI (F_Mod_goesOn M18) (fun M20 => some M20)))))
set_option maxHeartbeats 4000000 in
set_option maxRecDepth 20000 in
theorem f_Mod_unit {l : Launch} {ld : Nat} {M : gM} {L : gL} {Q : Option Value → gM → gL → gR → Prop} (hld : isLa ld)   {q : gM} (h : F_Mod_unit M = some q) (hQ : Q none q L (rf ld)) : Tm l y_Mod_unit (0, 0, 447) 447 [.ref 401] M L (rf ld) Q := by
  refine Tm.of (by decide) (Nat.le_of_ble_eq_true rfl) ?_
  show Wp l y_Mod_unit (0, 0, 447) 447 0 0 0 [(0, .ref 401)] [] M L (rf ld) Q
  unfold F_Mod_unit at h
  refine g_aload_n (pc1 := 1) d_Mod_unit_0 rfl 0 rfl ?_
  refine g_iconst (pc1 := 2) (v := 2) d_Mod_unit_1 rfl (by decide) ?_
  refine g_callV0 (pc1 := 5) (As := [.int 2]) (rest := []) d_Mod_unit_2 rfl mo_Mod_224 mi_Mod_is mv_Mod_is rfl sh_401 (by decide) (by decide) rfl rfl (Nat.le_of_ble_eq_true rfl) ?_
  obtain ⟨r2, hq1, h⟩ := bnd h
  refine f_Mod_is hld  hq1 ?_
  dsimp only [psh]
  refine g_if_eq (pc1 := 8) (tgt := 29) d_Mod_unit_5 (by decide) rfl (fun c3 => ?_) (fun c3 => ?_)
  · replace h := itp h c3
    refine g_aload_n (pc1 := 30) d_Mod_unit_29 rfl 0 rfl ?_
    refine g_geti (pc1 := 33) d_Mod_unit_30 rfl ⟨_, fo_Mod_206⟩ sh_401 (by decide) ?_
    refine g_if_ne (pc1 := 36) (tgt := 88) d_Mod_unit_33 (by decide) rfl (fun c4 => ?_) (fun c4 => ?_)
    · replace h := itn h c4
      exact j_Mod_unit_88 hld  hQ  h
    · replace h := itp h c4
      refine g_aload_n (pc1 := 37) d_Mod_unit_36 rfl 0 rfl ?_
      refine g_getr (pc1 := 40) d_Mod_unit_37 rfl ⟨_, fo_Mod_20⟩ sh_401 (by decide) (rf_401_5 ld) ?_
      refine g_aload_n (pc1 := 41) d_Mod_unit_40 rfl 0 rfl ?_
      refine g_geti (pc1 := 44) d_Mod_unit_41 rfl ⟨_, fo_Mod_209⟩ sh_401 (by decide) ?_
      obtain ⟨g7, h⟩ := gdn h
      refine g_iald (pc1 := 45) d_Mod_unit_44 rfl sh_404 (by decide) g7 ?_
      refine g_bipush (pc1 := 47) (v := 32) d_Mod_unit_45 rfl (by decide) ?_
      refine g_icmp_lt (pc1 := 50) (tgt := 88) d_Mod_unit_47 (by decide) rfl (fun c8 => ?_) (fun c8 => ?_)
      · replace h := itp h c8
        exact j_Mod_unit_88 hld  hQ  h
      · replace h := itn h c8
        refine g_aload_n (pc1 := 51) d_Mod_unit_50 rfl 0 rfl ?_
        refine g_getr (pc1 := 54) d_Mod_unit_51 rfl ⟨_, fo_Mod_20⟩ sh_401 (by decide) (rf_401_5 ld) ?_
        refine g_aload_n (pc1 := 55) d_Mod_unit_54 rfl 0 rfl ?_
        refine g_geti (pc1 := 58) d_Mod_unit_55 rfl ⟨_, fo_Mod_209⟩ sh_401 (by decide) ?_
        obtain ⟨g9, h⟩ := gdn h
        refine g_iald (pc1 := 59) d_Mod_unit_58 rfl sh_404 (by decide) g9 ?_
        refine g_bipush (pc1 := 61) (v := 40) d_Mod_unit_59 rfl (by decide) ?_
        refine g_icmp_gt (pc1 := 64) (tgt := 88) d_Mod_unit_61 (by decide) rfl (fun c10 => ?_) (fun c10 => ?_)
        · replace h := itp h c10
          exact j_Mod_unit_88 hld  hQ  h
        · replace h := itn h c10
          refine g_aload_n (pc1 := 65) d_Mod_unit_64 rfl 0 rfl ?_
          refine g_iconst (pc1 := 66) (v := 1) d_Mod_unit_65 rfl (by decide) ?_
          refine g_aload_n (pc1 := 67) d_Mod_unit_66 rfl 0 rfl ?_
          refine g_getr (pc1 := 70) d_Mod_unit_67 rfl ⟨_, fo_Mod_20⟩ sh_401 (by decide) (rf_401_5 ld) ?_
          refine g_aload_n (pc1 := 71) d_Mod_unit_70 rfl 0 rfl ?_
          refine g_geti (pc1 := 74) d_Mod_unit_71 rfl ⟨_, fo_Mod_209⟩ sh_401 (by decide) ?_
          obtain ⟨g11, h⟩ := gdn h
          refine g_iald (pc1 := 75) d_Mod_unit_74 rfl sh_404 (by decide) g11 ?_
          refine g_bipush (pc1 := 77) (v := 32) d_Mod_unit_75 rfl (by decide) ?_
          refine g_isub (pc1 := 78) d_Mod_unit_77 rfl ?_
          refine g_callV0 (pc1 := 81) (As := [.int 1, .int ((M 404 ((M 401 11) : Int32).toNatClampNeg) - 32)]) (rest := []) d_Mod_unit_78 rfl mo_Mod_302 mi_Mod_emit mv_Mod_emit rfl sh_401 (by decide) (by decide) rfl rfl (Nat.le_of_ble_eq_true rfl) ?_
          obtain ⟨M13, hq12, h⟩ := bnd h
          refine f_Mod_emit hld  hq12 ?_
          dsimp only [psh]
          refine g_aload_n (pc1 := 82) d_Mod_unit_81 rfl 0 rfl ?_
          refine g_callV0 (pc1 := 85) (As := []) (rest := []) d_Mod_unit_82 rfl mo_Mod_227 mi_Mod_goesOn mv_Mod_goesOn rfl sh_401 (by decide) (by decide) rfl rfl (Nat.le_of_ble_eq_true rfl) ?_
          obtain ⟨M15, hq14, h⟩ := bnd h
          refine f_Mod_goesOn hld  hq14 ?_
          dsimp only [psh]
          refine g_goto (tgt := 93) d_Mod_unit_85 (by decide) ?_
          refine g_return rfl d_Mod_unit_93 rfl ?_
          cases h; exact hQ
  · replace h := itn h c3
    refine g_aload_n (pc1 := 9) d_Mod_unit_8 rfl 0 rfl ?_
    refine g_iconst (pc1 := 10) (v := 0) d_Mod_unit_9 rfl (by decide) ?_
    refine g_aload_n (pc1 := 11) d_Mod_unit_10 rfl 0 rfl ?_
    refine g_getr (pc1 := 14) d_Mod_unit_11 rfl ⟨_, fo_Mod_27⟩ sh_401 (by decide) (rf_401_7 ld) ?_
    refine g_aload_n (pc1 := 15) d_Mod_unit_14 rfl 0 rfl ?_
    refine g_geti (pc1 := 18) d_Mod_unit_15 rfl ⟨_, fo_Mod_209⟩ sh_401 (by decide) ?_
    obtain ⟨g16, h⟩ := gdn h
    refine g_iald (pc1 := 19) d_Mod_unit_18 rfl sh_406 (by decide) g16 ?_
    refine g_callV0 (pc1 := 22) (As := [.int 0, .int (M 406 ((M 401 11) : Int32).toNatClampNeg)]) (rest := []) d_Mod_unit_19 rfl mo_Mod_302 mi_Mod_emit mv_Mod_emit rfl sh_401 (by decide) (by decide) rfl rfl (Nat.le_of_ble_eq_true rfl) ?_
    obtain ⟨M18, hq17, h⟩ := bnd h
    refine f_Mod_emit hld  hq17 ?_
    dsimp only [psh]
    refine g_aload_n (pc1 := 23) d_Mod_unit_22 rfl 0 rfl ?_
    refine g_callV0 (pc1 := 26) (As := []) (rest := []) d_Mod_unit_23 rfl mo_Mod_227 mi_Mod_goesOn mv_Mod_goesOn rfl sh_401 (by decide) (by decide) rfl rfl (Nat.le_of_ble_eq_true rfl) ?_
    obtain ⟨M20, hq19, h⟩ := bnd h
    refine f_Mod_goesOn hld  hq19 ?_
    dsimp only [psh]
    refine g_goto (tgt := 93) d_Mod_unit_26 (by decide) ?_
    refine g_return rfl d_Mod_unit_93 rfl ?_
    cases h; exact hQ

def F_Mod_boundBy (p1 : Int32) (p2 : Int32) (p3 : Int32) (p4 : Int32) (M : gM) : Option (Int32 × gM) :=
  bI (F_Mod_looks M) (fun M2 => nmM (uM M2 434 0 p3) (fun M3 => nmM (uM M3 434 2 p2) (fun M4 => (if (((4 * (M4 401 18)) + p1) : Int32) < 0 ∨ 8 ≤ (((4 * (M4 401 18)) + p1) : Int32).toNatClampNeg then none else nmM (uM M4 434 5 (M4 419 (((4 * (M4 401 18)) + p1) : Int32).toNatClampNeg)) (fun M6 => nmM (uM M6 434 6 p4) (fun M7 => bI2 (F_Mod_asks 1 (p3 - p4) 0 99 M7) (fun r9 M10 => some (r9, M10))))))))
set_option maxHeartbeats 4000000 in
set_option maxRecDepth 20000 in
theorem f_Mod_boundBy {l : Launch} {ld : Nat} {M : gM} {L : gL} {Q : Option Value → gM → gL → gR → Prop} (hld : isLa ld) {p1 : Int32} {p2 : Int32} {p3 : Int32} {p4 : Int32}  {q : Int32 × gM} (h : F_Mod_boundBy p1 p2 p3 p4 M = some q) (hQ : Q (some (.int q.1)) q.2 L (rf ld)) : Tm l y_Mod_boundBy (0, 0, 447) 447 [.ref 401, .int p1, .int p2, .int p3, .int p4] M L (rf ld) Q := by
  refine Tm.of (by decide) (Nat.le_of_ble_eq_true rfl) ?_
  show Wp l y_Mod_boundBy (0, 0, 447) 447 0 0 0 [(0, .ref 401), (1, .int p1), (2, .int p2), (3, .int p3), (4, .int p4)] [] M L (rf ld) Q
  unfold F_Mod_boundBy at h
  refine g_aload_n (pc1 := 1) d_Mod_boundBy_0 rfl 0 rfl ?_
  refine g_callV0 (pc1 := 4) (As := []) (rest := []) d_Mod_boundBy_1 rfl mo_Mod_336 mi_Mod_looks mv_Mod_looks rfl sh_401 (by decide) (by decide) rfl rfl (Nat.le_of_ble_eq_true rfl) ?_
  obtain ⟨M2, hq1, h⟩ := bnd h
  refine f_Mod_looks hld  hq1 ?_
  dsimp only [psh]
  refine g_aload_n (pc1 := 5) d_Mod_boundBy_4 rfl 0 rfl ?_
  refine g_getr (pc1 := 8) d_Mod_boundBy_5 rfl ⟨_, fo_Mod_116⟩ sh_401 (by decide) (rf_401_49 ld) ?_
  refine g_iconst (pc1 := 9) (v := 0) d_Mod_boundBy_8 rfl (by decide) ?_
  refine g_iload_n (pc1 := 10) d_Mod_boundBy_9 rfl 3 rfl ?_
  refine g_iast (pc1 := 11) d_Mod_boundBy_10 rfl sh_434 (by decide) (vin_lit (x := 0) (by decide)) ?_
  refine Wp.eqM (M' := uM M2 434 0 p3) (congrArg (fun z => uM M2 434 z p3) (by decide)) ?_
  refine Wp.lM h (fun M3 h => ?_)
  refine g_aload_n (pc1 := 12) d_Mod_boundBy_11 rfl 0 rfl ?_
  refine g_getr (pc1 := 15) d_Mod_boundBy_12 rfl ⟨_, fo_Mod_116⟩ sh_401 (by decide) (rf_401_49 ld) ?_
  refine g_iconst (pc1 := 16) (v := 2) d_Mod_boundBy_15 rfl (by decide) ?_
  refine g_iload_n (pc1 := 17) d_Mod_boundBy_16 rfl 2 rfl ?_
  refine g_iast (pc1 := 18) d_Mod_boundBy_17 rfl sh_434 (by decide) (vin_lit (x := 2) (by decide)) ?_
  refine Wp.eqM (M' := uM M3 434 2 p2) (congrArg (fun z => uM M3 434 z p2) (by decide)) ?_
  refine Wp.lM h (fun M4 h => ?_)
  refine g_aload_n (pc1 := 19) d_Mod_boundBy_18 rfl 0 rfl ?_
  refine g_getr (pc1 := 22) d_Mod_boundBy_19 rfl ⟨_, fo_Mod_116⟩ sh_401 (by decide) (rf_401_49 ld) ?_
  refine g_iconst (pc1 := 23) (v := 5) d_Mod_boundBy_22 rfl (by decide) ?_
  refine g_aload_n (pc1 := 24) d_Mod_boundBy_23 rfl 0 rfl ?_
  refine g_getr (pc1 := 27) d_Mod_boundBy_24 rfl ⟨_, fo_Mod_70⟩ sh_401 (by decide) (rf_401_31 ld) ?_
  refine g_iconst (pc1 := 28) (v := 4) d_Mod_boundBy_27 rfl (by decide) ?_
  refine g_aload_n (pc1 := 29) d_Mod_boundBy_28 rfl 0 rfl ?_
  refine g_geti (pc1 := 32) d_Mod_boundBy_29 rfl ⟨_, fo_Mod_236⟩ sh_401 (by decide) ?_
  refine g_imul (pc1 := 33) d_Mod_boundBy_32 rfl ?_
  refine g_iload_n (pc1 := 34) d_Mod_boundBy_33 rfl 1 rfl ?_
  refine g_iadd (pc1 := 35) d_Mod_boundBy_34 rfl ?_
  obtain ⟨g5, h⟩ := gdn h
  refine g_iald (pc1 := 36) d_Mod_boundBy_35 rfl sh_419 (by decide) g5 ?_
  refine g_iast (pc1 := 37) d_Mod_boundBy_36 rfl sh_434 (by decide) (vin_lit (x := 5) (by decide)) ?_
  refine Wp.eqM (M' := uM M4 434 5 (M4 419 (((4 * (M4 401 18)) + p1) : Int32).toNatClampNeg)) (congrArg (fun z => uM M4 434 z (M4 419 (((4 * (M4 401 18)) + p1) : Int32).toNatClampNeg)) (by decide)) ?_
  refine Wp.lM h (fun M6 h => ?_)
  refine g_aload_n (pc1 := 38) d_Mod_boundBy_37 rfl 0 rfl ?_
  refine g_getr (pc1 := 41) d_Mod_boundBy_38 rfl ⟨_, fo_Mod_116⟩ sh_401 (by decide) (rf_401_49 ld) ?_
  refine g_bipush (pc1 := 43) (v := 6) d_Mod_boundBy_41 rfl (by decide) ?_
  refine g_iload (pc1 := 45) d_Mod_boundBy_43 rfl 4 rfl ?_
  refine g_iast (pc1 := 46) d_Mod_boundBy_45 rfl sh_434 (by decide) (vin_lit (x := 6) (by decide)) ?_
  refine Wp.eqM (M' := uM M6 434 6 p4) (congrArg (fun z => uM M6 434 z p4) (by decide)) ?_
  refine Wp.lM h (fun M7 h => ?_)
  refine g_aload_n (pc1 := 47) d_Mod_boundBy_46 rfl 0 rfl ?_
  refine g_iconst (pc1 := 48) (v := 1) d_Mod_boundBy_47 rfl (by decide) ?_
  refine g_iload_n (pc1 := 49) d_Mod_boundBy_48 rfl 3 rfl ?_
  refine g_iload (pc1 := 51) d_Mod_boundBy_49 rfl 4 rfl ?_
  refine g_isub (pc1 := 52) d_Mod_boundBy_51 rfl ?_
  refine g_iconst (pc1 := 53) (v := 0) d_Mod_boundBy_52 rfl (by decide) ?_
  refine g_bipush (pc1 := 55) (v := 99) d_Mod_boundBy_53 rfl (by decide) ?_
  refine g_callV0 (pc1 := 58) (As := [.int 1, .int (p3 - p4), .int 0, .int 99]) (rest := []) d_Mod_boundBy_55 rfl mo_Mod_342 mi_Mod_asks mv_Mod_asks rfl sh_401 (by decide) (by decide) rfl rfl (Nat.le_of_ble_eq_true rfl) ?_
  obtain ⟨r9, M10, hq8, h⟩ := bnd2 h
  refine f_Mod_asks hld  hq8 ?_
  dsimp only [psh]
  refine g_ireturn (Or.inl rfl) d_Mod_boundBy_58 rfl ?_
  cases h; exact hQ

def J_Mod_dayGoes_128 (M : gM) : Option (gM) :=
  nmM (uM M 437 35 ((M 437 35) + 1)) (fun M5 => some M5)
set_option maxHeartbeats 4000000 in
set_option maxRecDepth 20000 in
theorem j_Mod_dayGoes_128 {l : Launch} {ld : Nat} {Q : Option Value → gM → gL → gR → Prop} (hld : isLa ld)   {q : gM} {M : gM} {L : gL} (hQ : Q none q L (rf ld))    (h : J_Mod_dayGoes_128 M = some q) : Wp l y_Mod_dayGoes (0, 0, 447) 447 0 0 128 [(0, .ref 401)] [] M L (rf ld) Q := by
  unfold J_Mod_dayGoes_128 at h
  refine g_aload_n (pc1 := 129) d_Mod_dayGoes_128 rfl 0 rfl ?_
  refine g_getr (pc1 := 132) d_Mod_dayGoes_129 rfl ⟨_, fo_Mod_125⟩ sh_401 (by decide) (rf_401_53 ld) ?_
  refine g_bipush (pc1 := 134) (v := 35) d_Mod_dayGoes_132 rfl (by decide) ?_
  refine g_dup2 (pc1 := 135) d_Mod_dayGoes_134 rfl rfl rfl ?_
  refine g_iald (pc1 := 136) d_Mod_dayGoes_135 rfl sh_437 (by decide) (vin_lit (x := 35) (by decide)) ?_
  refine Wp.vali (y := (M 437 35)) (congrArg (M 437) (by decide)) ?_
  refine g_iconst (pc1 := 137) (v := 1) d_Mod_dayGoes_136 rfl (by decide) ?_
  refine g_iadd (pc1 := 138) d_Mod_dayGoes_137 rfl ?_
  refine g_iast (pc1 := 139) d_Mod_dayGoes_138 rfl sh_437 (by decide) (vin_lit (x := 35) (by decide)) ?_
  refine Wp.eqM (M' := uM M 437 35 ((M 437 35) + 1)) (congrArg (fun z => uM M 437 z ((M 437 35) + 1)) (by decide)) ?_
  refine Wp.lM h (fun M5 h => ?_)
  refine g_return rfl d_Mod_dayGoes_139 rfl ?_
  cases h; exact hQ
def B_Mod_dayGoes_97  (K97 : Int32 → gM → Option (gM)) : Int32 → gM → Option (gM) := fun v1 M =>
  (if ((M 401 18) : Int32) < 0 ∨ 2 ≤ ((M 401 18) : Int32).toNatClampNeg then none else (if (M 411 ((M 401 18) : Int32).toNatClampNeg) ≤ v1 then J_Mod_dayGoes_128 M else (if (v1 : Int32) < 0 ∨ 6 ≤ (v1 : Int32).toNatClampNeg then none else (if (v1 : Int32) < 0 ∨ 38 ≤ (v1 : Int32).toNatClampNeg then none else nmM (uM M 437 (v1 : Int32).toNatClampNeg (M 439 (v1 : Int32).toNatClampNeg)) (fun M8 => nmI (v1 + 1) (fun x9 => K97 x9 M8))))))
def H_Mod_dayGoes_97  : Nat → Int32 → gM → Option (gM) := lpK (B_Mod_dayGoes_97 ) (fun _ _ => none)
set_option maxHeartbeats 4000000 in
set_option maxRecDepth 20000 in
theorem h_Mod_dayGoes_97 {l : Launch} {ld : Nat} {Q : Option Value → gM → gL → gR → Prop} (hld : isLa ld)   {q : gM} {L : gL} (hQ : Q none q L (rf ld))    : ∀ (f : Nat) (v1 : Int32) (M : gM), H_Mod_dayGoes_97  f v1 M = some q → Wp l y_Mod_dayGoes (0, 0, 447) 447 0 0 97 [(0, .ref 401), (1, .int v1)] [] M L (rf ld) Q := by
  intro f
  induction f with
  | zero => intro v1 M h; cases h
  | succ f hK97 =>
    intro v1 M h
    replace h : B_Mod_dayGoes_97  (H_Mod_dayGoes_97  f) v1 M = some q := h
    unfold B_Mod_dayGoes_97 at h
    refine g_iload_n (pc1 := 98) d_Mod_dayGoes_97 rfl 1 rfl ?_
    refine g_aload_n (pc1 := 99) d_Mod_dayGoes_98 rfl 0 rfl ?_
    refine g_getr (pc1 := 102) d_Mod_dayGoes_99 rfl ⟨_, fo_Mod_46⟩ sh_401 (by decide) (rf_401_23 ld) ?_
    refine g_aload_n (pc1 := 103) d_Mod_dayGoes_102 rfl 0 rfl ?_
    refine g_geti (pc1 := 106) d_Mod_dayGoes_103 rfl ⟨_, fo_Mod_236⟩ sh_401 (by decide) ?_
    obtain ⟨g3, h⟩ := gdn h
    refine g_iald (pc1 := 107) d_Mod_dayGoes_106 rfl sh_411 (by decide) g3 ?_
    refine g_icmp_ge (pc1 := 110) (tgt := 128) d_Mod_dayGoes_107 (by decide) rfl (fun c4 => ?_) (fun c4 => ?_)
    · replace h := itp h c4
      refine Wp.loc (lv' := [(0, .ref 401)]) [0] rfl ?_
      exact j_Mod_dayGoes_128 hld  hQ  h
    · replace h := itn h c4
      refine g_aload_n (pc1 := 111) d_Mod_dayGoes_110 rfl 0 rfl ?_
      refine g_getr (pc1 := 114) d_Mod_dayGoes_111 rfl ⟨_, fo_Mod_125⟩ sh_401 (by decide) (rf_401_53 ld) ?_
      refine g_iload_n (pc1 := 115) d_Mod_dayGoes_114 rfl 1 rfl ?_
      refine g_aload_n (pc1 := 116) d_Mod_dayGoes_115 rfl 0 rfl ?_
      refine g_getr (pc1 := 119) d_Mod_dayGoes_116 rfl ⟨_, fo_Mod_131⟩ sh_401 (by decide) (rf_401_56 ld) ?_
      refine g_iload_n (pc1 := 120) d_Mod_dayGoes_119 rfl 1 rfl ?_
      obtain ⟨g6, h⟩ := gdn h
      refine g_iald (pc1 := 121) d_Mod_dayGoes_120 rfl sh_439 (by decide) g6 ?_
      obtain ⟨g7, h⟩ := gdn h
      refine g_iast (pc1 := 122) d_Mod_dayGoes_121 rfl sh_437 (by decide) g7 ?_
      refine Wp.lM h (fun M8 h => ?_)
      obtain ⟨x9, ex9, h⟩ := ltI h
      refine g_iinc (pc1 := 125) (v := x9) (lv' := [(0, .ref 401), (1, .int x9)]) d_Mod_dayGoes_122 rfl 1 rfl (by rw [ex9]; rfl) (by decide) [1, 0] rfl ?_
      refine g_goto (tgt := 97) d_Mod_dayGoes_125 (by decide) ?_
      exact hK97 x9 M8 h
def J_Mod_dayGoes_95 (M : gM) : Option (gM) :=
  H_Mod_dayGoes_97 FU 0 M
set_option maxHeartbeats 4000000 in
set_option maxRecDepth 20000 in
theorem j_Mod_dayGoes_95 {l : Launch} {ld : Nat} {Q : Option Value → gM → gL → gR → Prop} (hld : isLa ld)   {q : gM} {M : gM} {L : gL} (hQ : Q none q L (rf ld))    (h : J_Mod_dayGoes_95 M = some q) : Wp l y_Mod_dayGoes (0, 0, 447) 447 0 0 95 [(0, .ref 401)] [] M L (rf ld) Q := by
  unfold J_Mod_dayGoes_95 at h
  refine g_iconst (pc1 := 96) (v := 0) d_Mod_dayGoes_95 rfl (by decide) ?_
  refine g_istore_n (pc1 := 97) (lv' := [(0, .ref 401), (1, .int 0)]) d_Mod_dayGoes_96 rfl rfl (by decide) [1, 0] rfl ?_
  exact h_Mod_dayGoes_97 hld  hQ  _ 0 M h
def B_Mod_dayGoes_2  (K2 : Int32 → gM → Option (gM)) : Int32 → gM → Option (gM) := fun v1 M =>
  (if ((M 401 18) : Int32) < 0 ∨ 2 ≤ ((M 401 18) : Int32).toNatClampNeg then none else (if (M 411 ((M 401 18) : Int32).toNatClampNeg) ≤ v1 then J_Mod_dayGoes_95 M else bI (F_Mod_looks M) (fun M11 => nmM (uM M11 434 2 v1) (fun M12 => (if (v1 : Int32) < 0 ∨ 38 ≤ (v1 : Int32).toNatClampNeg then none else nmM (uM M12 434 7 (M12 437 (v1 : Int32).toNatClampNeg)) (fun M14 => (if (((6 * (M14 401 18)) + v1) : Int32) < 0 ∨ 12 ≤ (((6 * (M14 401 18)) + v1) : Int32).toNatClampNeg then none else nmM (uM M14 434 8 (M14 413 (((6 * (M14 401 18)) + v1) : Int32).toNatClampNeg)) (fun M16 => (if (v1 : Int32) < 0 ∨ 38 ≤ (v1 : Int32).toNatClampNeg then none else bI2 (F_Mod_asks 2 0 (-9) 9 M16) (fun r19 M20 => bI (F_Mod_held ((M16 437 (v1 : Int32).toNatClampNeg) + r19) 0 99) (fun r22 => (if (v1 : Int32) < 0 ∨ 6 ≤ (v1 : Int32).toNatClampNeg then none else nmM (uM M20 439 (v1 : Int32).toNatClampNeg r22) (fun M24 => nmI (v1 + 1) (fun x25 => K2 x25 M24))))))))))))))
def H_Mod_dayGoes_2  : Nat → Int32 → gM → Option (gM) := lpK (B_Mod_dayGoes_2 ) (fun _ _ => none)
set_option maxHeartbeats 4000000 in
set_option maxRecDepth 20000 in
theorem h_Mod_dayGoes_2 {l : Launch} {ld : Nat} {Q : Option Value → gM → gL → gR → Prop} (hld : isLa ld)   {q : gM} {L : gL} (hQ : Q none q L (rf ld))    : ∀ (f : Nat) (v1 : Int32) (M : gM), H_Mod_dayGoes_2  f v1 M = some q → Wp l y_Mod_dayGoes (0, 0, 447) 447 0 0 2 [(0, .ref 401), (1, .int v1)] [] M L (rf ld) Q := by
  intro f
  induction f with
  | zero => intro v1 M h; cases h
  | succ f hK2 =>
    intro v1 M h
    replace h : B_Mod_dayGoes_2  (H_Mod_dayGoes_2  f) v1 M = some q := h
    unfold B_Mod_dayGoes_2 at h
    refine g_iload_n (pc1 := 3) d_Mod_dayGoes_2 rfl 1 rfl ?_
    refine g_aload_n (pc1 := 4) d_Mod_dayGoes_3 rfl 0 rfl ?_
    refine g_getr (pc1 := 7) d_Mod_dayGoes_4 rfl ⟨_, fo_Mod_46⟩ sh_401 (by decide) (rf_401_23 ld) ?_
    refine g_aload_n (pc1 := 8) d_Mod_dayGoes_7 rfl 0 rfl ?_
    refine g_geti (pc1 := 11) d_Mod_dayGoes_8 rfl ⟨_, fo_Mod_236⟩ sh_401 (by decide) ?_
    obtain ⟨g1, h⟩ := gdn h
    refine g_iald (pc1 := 12) d_Mod_dayGoes_11 rfl sh_411 (by decide) g1 ?_
    refine g_icmp_ge (pc1 := 15) (tgt := 95) d_Mod_dayGoes_12 (by decide) rfl (fun c2 => ?_) (fun c2 => ?_)
    · replace h := itp h c2
      refine Wp.loc (lv' := [(0, .ref 401)]) [0] rfl ?_
      exact j_Mod_dayGoes_95 hld  hQ  h
    · replace h := itn h c2
      refine g_aload_n (pc1 := 16) d_Mod_dayGoes_15 rfl 0 rfl ?_
      refine g_callV0 (pc1 := 19) (As := []) (rest := []) d_Mod_dayGoes_16 rfl mo_Mod_336 mi_Mod_looks mv_Mod_looks rfl sh_401 (by decide) (by decide) rfl rfl (Nat.le_of_ble_eq_true rfl) ?_
      obtain ⟨M11, hq10, h⟩ := bnd h
      refine f_Mod_looks hld  hq10 ?_
      dsimp only [psh]
      refine g_aload_n (pc1 := 20) d_Mod_dayGoes_19 rfl 0 rfl ?_
      refine g_getr (pc1 := 23) d_Mod_dayGoes_20 rfl ⟨_, fo_Mod_116⟩ sh_401 (by decide) (rf_401_49 ld) ?_
      refine g_iconst (pc1 := 24) (v := 2) d_Mod_dayGoes_23 rfl (by decide) ?_
      refine g_iload_n (pc1 := 25) d_Mod_dayGoes_24 rfl 1 rfl ?_
      refine g_iast (pc1 := 26) d_Mod_dayGoes_25 rfl sh_434 (by decide) (vin_lit (x := 2) (by decide)) ?_
      refine Wp.eqM (M' := uM M11 434 2 v1) (congrArg (fun z => uM M11 434 z v1) (by decide)) ?_
      refine Wp.lM h (fun M12 h => ?_)
      refine g_aload_n (pc1 := 27) d_Mod_dayGoes_26 rfl 0 rfl ?_
      refine g_getr (pc1 := 30) d_Mod_dayGoes_27 rfl ⟨_, fo_Mod_116⟩ sh_401 (by decide) (rf_401_49 ld) ?_
      refine g_bipush (pc1 := 32) (v := 7) d_Mod_dayGoes_30 rfl (by decide) ?_
      refine g_aload_n (pc1 := 33) d_Mod_dayGoes_32 rfl 0 rfl ?_
      refine g_getr (pc1 := 36) d_Mod_dayGoes_33 rfl ⟨_, fo_Mod_125⟩ sh_401 (by decide) (rf_401_53 ld) ?_
      refine g_iload_n (pc1 := 37) d_Mod_dayGoes_36 rfl 1 rfl ?_
      obtain ⟨g13, h⟩ := gdn h
      refine g_iald (pc1 := 38) d_Mod_dayGoes_37 rfl sh_437 (by decide) g13 ?_
      refine g_iast (pc1 := 39) d_Mod_dayGoes_38 rfl sh_434 (by decide) (vin_lit (x := 7) (by decide)) ?_
      refine Wp.eqM (M' := uM M12 434 7 (M12 437 (v1 : Int32).toNatClampNeg)) (congrArg (fun z => uM M12 434 z (M12 437 (v1 : Int32).toNatClampNeg)) (by decide)) ?_
      refine Wp.lM h (fun M14 h => ?_)
      refine g_aload_n (pc1 := 40) d_Mod_dayGoes_39 rfl 0 rfl ?_
      refine g_getr (pc1 := 43) d_Mod_dayGoes_40 rfl ⟨_, fo_Mod_116⟩ sh_401 (by decide) (rf_401_49 ld) ?_
      refine g_bipush (pc1 := 45) (v := 8) d_Mod_dayGoes_43 rfl (by decide) ?_
      refine g_aload_n (pc1 := 46) d_Mod_dayGoes_45 rfl 0 rfl ?_
      refine g_getr (pc1 := 49) d_Mod_dayGoes_46 rfl ⟨_, fo_Mod_52⟩ sh_401 (by decide) (rf_401_25 ld) ?_
      refine g_bipush (pc1 := 51) (v := 6) d_Mod_dayGoes_49 rfl (by decide) ?_
      refine g_aload_n (pc1 := 52) d_Mod_dayGoes_51 rfl 0 rfl ?_
      refine g_geti (pc1 := 55) d_Mod_dayGoes_52 rfl ⟨_, fo_Mod_236⟩ sh_401 (by decide) ?_
      refine g_imul (pc1 := 56) d_Mod_dayGoes_55 rfl ?_
      refine g_iload_n (pc1 := 57) d_Mod_dayGoes_56 rfl 1 rfl ?_
      refine g_iadd (pc1 := 58) d_Mod_dayGoes_57 rfl ?_
      obtain ⟨g15, h⟩ := gdn h
      refine g_iald (pc1 := 59) d_Mod_dayGoes_58 rfl sh_413 (by decide) g15 ?_
      refine g_iast (pc1 := 60) d_Mod_dayGoes_59 rfl sh_434 (by decide) (vin_lit (x := 8) (by decide)) ?_
      refine Wp.eqM (M' := uM M14 434 8 (M14 413 (((6 * (M14 401 18)) + v1) : Int32).toNatClampNeg)) (congrArg (fun z => uM M14 434 z (M14 413 (((6 * (M14 401 18)) + v1) : Int32).toNatClampNeg)) (by decide)) ?_
      refine Wp.lM h (fun M16 h => ?_)
      refine g_aload_n (pc1 := 61) d_Mod_dayGoes_60 rfl 0 rfl ?_
      refine g_getr (pc1 := 64) d_Mod_dayGoes_61 rfl ⟨_, fo_Mod_131⟩ sh_401 (by decide) (rf_401_56 ld) ?_
      refine g_iload_n (pc1 := 65) d_Mod_dayGoes_64 rfl 1 rfl ?_
      refine g_aload_n (pc1 := 66) d_Mod_dayGoes_65 rfl 0 rfl ?_
      refine g_getr (pc1 := 69) d_Mod_dayGoes_66 rfl ⟨_, fo_Mod_125⟩ sh_401 (by decide) (rf_401_53 ld) ?_
      refine g_iload_n (pc1 := 70) d_Mod_dayGoes_69 rfl 1 rfl ?_
      obtain ⟨g17, h⟩ := gdn h
      refine g_iald (pc1 := 71) d_Mod_dayGoes_70 rfl sh_437 (by decide) g17 ?_
      refine g_aload_n (pc1 := 72) d_Mod_dayGoes_71 rfl 0 rfl ?_
      refine g_iconst (pc1 := 73) (v := 2) d_Mod_dayGoes_72 rfl (by decide) ?_
      refine g_iconst (pc1 := 74) (v := 0) d_Mod_dayGoes_73 rfl (by decide) ?_
      refine g_bipush (pc1 := 76) (v := (-9)) d_Mod_dayGoes_74 rfl (by decide) ?_
      refine g_bipush (pc1 := 78) (v := 9) d_Mod_dayGoes_76 rfl (by decide) ?_
      refine g_callV0 (pc1 := 81) (As := [.int 2, .int 0, .int (-9), .int 9]) (rest := [.int (M16 437 (v1 : Int32).toNatClampNeg), .int v1, .ref 439]) d_Mod_dayGoes_78 rfl mo_Mod_342 mi_Mod_asks mv_Mod_asks rfl sh_401 (by decide) (by decide) rfl rfl (Nat.le_of_ble_eq_true rfl) ?_
      obtain ⟨r19, M20, hq18, h⟩ := bnd2 h
      refine f_Mod_asks hld  hq18 ?_
      dsimp only [psh]
      refine g_iadd (pc1 := 82) d_Mod_dayGoes_81 rfl ?_
      refine g_iconst (pc1 := 83) (v := 0) d_Mod_dayGoes_82 rfl (by decide) ?_
      refine g_bipush (pc1 := 85) (v := 99) d_Mod_dayGoes_83 rfl (by decide) ?_
      refine g_callS0 (pc1 := 88) (As := [.int ((M16 437 (v1 : Int32).toNatClampNeg) + r19), .int 0, .int 99]) (rest := [.int v1, .ref 439]) d_Mod_dayGoes_85 rfl mo_Mod_330 ms_Mod_held (by decide) rfl rfl (Nat.le_of_ble_eq_true rfl) ?_
      obtain ⟨r22, hq21, h⟩ := bnd h
      refine f_Mod_held hld  hq21 ?_
      dsimp only [psh]
      obtain ⟨g23, h⟩ := gdn h
      refine g_iast (pc1 := 89) d_Mod_dayGoes_88 rfl sh_439 (by decide) g23 ?_
      refine Wp.lM h (fun M24 h => ?_)
      obtain ⟨x25, ex25, h⟩ := ltI h
      refine g_iinc (pc1 := 92) (v := x25) (lv' := [(0, .ref 401), (1, .int x25)]) d_Mod_dayGoes_89 rfl 1 rfl (by rw [ex25]; rfl) (by decide) [1, 0] rfl ?_
      refine g_goto (tgt := 2) d_Mod_dayGoes_92 (by decide) ?_
      exact hK2 x25 M24 h
def F_Mod_dayGoes (M : gM) : Option (gM) :=
  H_Mod_dayGoes_2 FU 0 M
set_option maxHeartbeats 4000000 in
set_option maxRecDepth 20000 in
theorem f_Mod_dayGoes {l : Launch} {ld : Nat} {M : gM} {L : gL} {Q : Option Value → gM → gL → gR → Prop} (hld : isLa ld)   {q : gM} (h : F_Mod_dayGoes M = some q) (hQ : Q none q L (rf ld)) : Tm l y_Mod_dayGoes (0, 0, 447) 447 [.ref 401] M L (rf ld) Q := by
  refine Tm.of (by decide) (Nat.le_of_ble_eq_true rfl) ?_
  show Wp l y_Mod_dayGoes (0, 0, 447) 447 0 0 0 [(0, .ref 401)] [] M L (rf ld) Q
  unfold F_Mod_dayGoes at h
  refine g_iconst (pc1 := 1) (v := 0) d_Mod_dayGoes_0 rfl (by decide) ?_
  refine g_istore_n (pc1 := 2) (lv' := [(0, .ref 401), (1, .int 0)]) d_Mod_dayGoes_1 rfl rfl (by decide) [1, 0] rfl ?_
  exact h_Mod_dayGoes_2 hld  hQ  _ 0 M h

def F_Mod_ends (p1 : Int32) (p2 : Int32) (M : gM) (L : gL) : Option (gM × gL) :=
  bI (F_Mod_must 4 M) (fun M2 => (if (M2 401 13) ≤ 0 then (if (p1 : Int32) < 0 ∨ 403 ≤ (p1 : Int32).toNatClampNeg then none else (if ((M2 401 20) : Int32) < 0 ∨ 21 ≤ ((M2 401 20) : Int32).toNatClampNeg then none else nmL (uL L 409 ((M2 401 20) : Int32).toNatClampNeg (L 407 (p1 : Int32).toNatClampNeg)) (fun L6 => (if ((M2 401 20) : Int32) < 0 ∨ 21 ≤ ((M2 401 20) : Int32).toNatClampNeg then none else nmM (uM M2 410 ((M2 401 20) : Int32).toNatClampNeg p2) (fun M8 => nmM (uM M8 401 20 ((M8 401 20) + 1)) (fun M9 => some (M9, L6))))))) else some (M2, L)))
set_option maxHeartbeats 4000000 in
set_option maxRecDepth 20000 in
theorem f_Mod_ends {l : Launch} {ld : Nat} {M : gM} {L : gL} {Q : Option Value → gM → gL → gR → Prop} (hld : isLa ld) {p1 : Int32} {p2 : Int32}  {q : gM × gL} (h : F_Mod_ends p1 p2 M L = some q) (hQ : Q none q.1 q.2 (rf ld)) : Tm l y_Mod_ends (0, 0, 447) 447 [.ref 401, .int p1, .int p2] M L (rf ld) Q := by
  refine Tm.of (by decide) (Nat.le_of_ble_eq_true rfl) ?_
  show Wp l y_Mod_ends (0, 0, 447) 447 0 0 0 [(0, .ref 401), (1, .int p1), (2, .int p2)] [] M L (rf ld) Q
  unfold F_Mod_ends at h
  refine g_aload_n (pc1 := 1) d_Mod_ends_0 rfl 0 rfl ?_
  refine g_iconst (pc1 := 2) (v := 4) d_Mod_ends_1 rfl (by decide) ?_
  refine g_callV0 (pc1 := 5) (As := [.int 4]) (rest := []) d_Mod_ends_2 rfl mo_Mod_281 mi_Mod_must mv_Mod_must rfl sh_401 (by decide) (by decide) rfl rfl (Nat.le_of_ble_eq_true rfl) ?_
  obtain ⟨M2, hq1, h⟩ := bnd h
  refine f_Mod_must hld  hq1 ?_
  dsimp only [psh]
  refine g_aload_n (pc1 := 6) d_Mod_ends_5 rfl 0 rfl ?_
  refine g_geti (pc1 := 9) d_Mod_ends_6 rfl ⟨_, fo_Mod_206⟩ sh_401 (by decide) ?_
  refine g_if_le (pc1 := 12) (tgt := 13) d_Mod_ends_9 (by decide) rfl (fun c3 => ?_) (fun c3 => ?_)
  · replace h := itp h c3
    refine g_aload_n (pc1 := 14) d_Mod_ends_13 rfl 0 rfl ?_
    refine g_getr (pc1 := 17) d_Mod_ends_14 rfl ⟨_, fo_Mod_40⟩ sh_401 (by decide) (rf_401_21 ld) ?_
    refine g_aload_n (pc1 := 18) d_Mod_ends_17 rfl 0 rfl ?_
    refine g_geti (pc1 := 21) d_Mod_ends_18 rfl ⟨_, fo_Mod_242⟩ sh_401 (by decide) ?_
    refine g_aload_n (pc1 := 22) d_Mod_ends_21 rfl 0 rfl ?_
    refine g_getr (pc1 := 25) d_Mod_ends_22 rfl ⟨_, fo_Mod_30⟩ sh_401 (by decide) (rf_401_8 ld) ?_
    refine g_iload_n (pc1 := 26) d_Mod_ends_25 rfl 1 rfl ?_
    obtain ⟨g4, h⟩ := gdn h
    refine g_lald (pc1 := 27) d_Mod_ends_26 rfl sh_407 (by decide) g4 ?_
    obtain ⟨g5, h⟩ := gdn h
    refine g_last (pc1 := 28) d_Mod_ends_27 rfl sh_409 (by decide) g5 ?_
    refine Wp.lL h (fun L6 h => ?_)
    refine g_aload_n (pc1 := 29) d_Mod_ends_28 rfl 0 rfl ?_
    refine g_getr (pc1 := 32) d_Mod_ends_29 rfl ⟨_, fo_Mod_43⟩ sh_401 (by decide) (rf_401_22 ld) ?_
    refine g_aload_n (pc1 := 33) d_Mod_ends_32 rfl 0 rfl ?_
    refine g_geti (pc1 := 36) d_Mod_ends_33 rfl ⟨_, fo_Mod_242⟩ sh_401 (by decide) ?_
    refine g_iload_n (pc1 := 37) d_Mod_ends_36 rfl 2 rfl ?_
    obtain ⟨g7, h⟩ := gdn h
    refine g_iast (pc1 := 38) d_Mod_ends_37 rfl sh_410 (by decide) g7 ?_
    refine Wp.lM h (fun M8 h => ?_)
    refine g_aload_n (pc1 := 39) d_Mod_ends_38 rfl 0 rfl ?_
    refine g_dup (pc1 := 40) d_Mod_ends_39 rfl rfl ?_
    refine g_geti (pc1 := 43) d_Mod_ends_40 rfl ⟨_, fo_Mod_242⟩ sh_401 (by decide) ?_
    refine g_iconst (pc1 := 44) (v := 1) d_Mod_ends_43 rfl (by decide) ?_
    refine g_iadd (pc1 := 45) d_Mod_ends_44 rfl ?_
    refine g_puti (pc1 := 48) d_Mod_ends_45 rfl fo_Mod_242 (po_12_20 _) sh_401 (by decide) ?_
    refine Wp.lM h (fun M9 h => ?_)
    refine g_return rfl d_Mod_ends_48 rfl ?_
    cases h; exact hQ
  · replace h := itn h c3
    refine g_return rfl d_Mod_ends_12 rfl ?_
    cases h; exact hQ
end MG5x1
section MG5x2
def J_Mod_expression_234 (K12 : Int32 → gM → Option (gM)) (v1 : Int32) (v2 : Int32) (s1 : Int32) (M : gM) : Option (gM) :=
  bI (F_Mod_comesOut s1 M) (fun M22 => (if ((M22 401 11) : Int32) < 0 ∨ 403 ≤ ((M22 401 11) : Int32).toNatClampNeg then none else (if ((M22 401 48) : Int32) < 0 ∨ 64 ≤ ((M22 401 48) : Int32).toNatClampNeg then none else nmM (uM M22 433 ((M22 401 48) : Int32).toNatClampNeg (M22 404 ((M22 401 11) : Int32).toNatClampNeg)) (fun M25 => nmM (uM M25 401 48 ((M25 401 48) + 1)) (fun M26 => bI (F_Mod_goesOn M26) (fun M28 => K12 v2 M28))))))
set_option maxHeartbeats 4000000 in
set_option maxRecDepth 20000 in
theorem j_Mod_expression_234 {l : Launch} {ld : Nat} {Q : Option Value → gM → gL → gR → Prop} (hld : isLa ld)   {q : gM} {M : gM} {L : gL} (hQ : Q none q L (rf ld)) {K12 : Int32 → gM → Option (gM)} {v1 : Int32} {v2 : Int32} {s1 : Int32} (hK12 : ∀ (w2 : Int32) (M : gM), K12 w2 M = some q → Wp l y_Mod_expression (0, 0, 447) 447 0 0 12 [(0, .ref 401), (1, .int v1), (2, .int w2)] [] M L (rf ld) Q) (h : J_Mod_expression_234 K12 v1 v2 s1 M = some q) : Wp l y_Mod_expression (0, 0, 447) 447 0 0 234 [(0, .ref 401), (1, .int v1), (2, .int v2)] [.int s1, .ref 401] M L (rf ld) Q := by
  unfold J_Mod_expression_234 at h
  refine g_callV0 (pc1 := 237) (As := [.int s1]) (rest := []) d_Mod_expression_234 rfl mo_Mod_308 mi_Mod_comesOut mv_Mod_comesOut rfl sh_401 (by decide) (by decide) rfl rfl (Nat.le_of_ble_eq_true rfl) ?_
  obtain ⟨M22, hq21, h⟩ := bnd h
  refine f_Mod_comesOut hld  hq21 ?_
  dsimp only [psh]
  refine g_aload_n (pc1 := 238) d_Mod_expression_237 rfl 0 rfl ?_
  refine g_getr (pc1 := 241) d_Mod_expression_238 rfl ⟨_, fo_Mod_113⟩ sh_401 (by decide) (rf_401_47 ld) ?_
  refine g_aload_n (pc1 := 242) d_Mod_expression_241 rfl 0 rfl ?_
  refine g_geti (pc1 := 245) d_Mod_expression_242 rfl ⟨_, fo_Mod_299⟩ sh_401 (by decide) ?_
  refine g_aload_n (pc1 := 246) d_Mod_expression_245 rfl 0 rfl ?_
  refine g_getr (pc1 := 249) d_Mod_expression_246 rfl ⟨_, fo_Mod_20⟩ sh_401 (by decide) (rf_401_5 ld) ?_
  refine g_aload_n (pc1 := 250) d_Mod_expression_249 rfl 0 rfl ?_
  refine g_geti (pc1 := 253) d_Mod_expression_250 rfl ⟨_, fo_Mod_209⟩ sh_401 (by decide) ?_
  obtain ⟨g23, h⟩ := gdn h
  refine g_iald (pc1 := 254) d_Mod_expression_253 rfl sh_404 (by decide) g23 ?_
  obtain ⟨g24, h⟩ := gdn h
  refine g_iast (pc1 := 255) d_Mod_expression_254 rfl sh_433 (by decide) g24 ?_
  refine Wp.lM h (fun M25 h => ?_)
  refine g_aload_n (pc1 := 256) d_Mod_expression_255 rfl 0 rfl ?_
  refine g_dup (pc1 := 257) d_Mod_expression_256 rfl rfl ?_
  refine g_geti (pc1 := 260) d_Mod_expression_257 rfl ⟨_, fo_Mod_299⟩ sh_401 (by decide) ?_
  refine g_iconst (pc1 := 261) (v := 1) d_Mod_expression_260 rfl (by decide) ?_
  refine g_iadd (pc1 := 262) d_Mod_expression_261 rfl ?_
  refine g_puti (pc1 := 265) d_Mod_expression_262 rfl fo_Mod_299 (po_12_48 _) sh_401 (by decide) ?_
  refine Wp.lM h (fun M26 h => ?_)
  refine g_aload_n (pc1 := 266) d_Mod_expression_265 rfl 0 rfl ?_
  refine g_callV0 (pc1 := 269) (As := []) (rest := []) d_Mod_expression_266 rfl mo_Mod_227 mi_Mod_goesOn mv_Mod_goesOn rfl sh_401 (by decide) (by decide) rfl rfl (Nat.le_of_ble_eq_true rfl) ?_
  obtain ⟨M28, hq27, h⟩ := bnd h
  refine f_Mod_goesOn hld  hq27 ?_
  dsimp only [psh]
  refine g_goto (tgt := 12) d_Mod_expression_269 (by decide) ?_
  exact hK12 v2 M28 h
def J_Mod_expression_229 (K12 : Int32 → gM → Option (gM)) (v1 : Int32) (v2 : Int32) (M : gM) : Option (gM) :=
  J_Mod_expression_234 K12 v1 v2 1 M
set_option maxHeartbeats 4000000 in
set_option maxRecDepth 20000 in
theorem j_Mod_expression_229 {l : Launch} {ld : Nat} {Q : Option Value → gM → gL → gR → Prop} (hld : isLa ld)   {q : gM} {M : gM} {L : gL} (hQ : Q none q L (rf ld)) {K12 : Int32 → gM → Option (gM)} {v1 : Int32} {v2 : Int32} (hK12 : ∀ (w2 : Int32) (M : gM), K12 w2 M = some q → Wp l y_Mod_expression (0, 0, 447) 447 0 0 12 [(0, .ref 401), (1, .int v1), (2, .int w2)] [] M L (rf ld) Q) (h : J_Mod_expression_229 K12 v1 v2 M = some q) : Wp l y_Mod_expression (0, 0, 447) 447 0 0 229 [(0, .ref 401), (1, .int v1), (2, .int v2)] [.ref 401] M L (rf ld) Q := by
  unfold J_Mod_expression_229 at h
  refine g_iconst (pc1 := 230) (v := 1) d_Mod_expression_229 rfl (by decide) ?_
  refine g_goto (tgt := 234) d_Mod_expression_230 (by decide) ?_
  exact j_Mod_expression_234 hld  hQ hK12 h
def J_Mod_expression_204 (M : gM) : Option (gM) :=
  bI (F_Mod_comesOut 0 M) (fun M34 => some M34)
set_option maxHeartbeats 4000000 in
set_option maxRecDepth 20000 in
theorem j_Mod_expression_204 {l : Launch} {ld : Nat} {Q : Option Value → gM → gL → gR → Prop} (hld : isLa ld)   {q : gM} {M : gM} {L : gL} (hQ : Q none q L (rf ld))    (h : J_Mod_expression_204 M = some q) : Wp l y_Mod_expression (0, 0, 447) 447 0 0 204 [(0, .ref 401)] [] M L (rf ld) Q := by
  unfold J_Mod_expression_204 at h
  refine g_aload_n (pc1 := 205) d_Mod_expression_204 rfl 0 rfl ?_
  refine g_iconst (pc1 := 206) (v := 0) d_Mod_expression_205 rfl (by decide) ?_
  refine g_callV0 (pc1 := 209) (As := [.int 0]) (rest := []) d_Mod_expression_206 rfl mo_Mod_308 mi_Mod_comesOut mv_Mod_comesOut rfl sh_401 (by decide) (by decide) rfl rfl (Nat.le_of_ble_eq_true rfl) ?_
  obtain ⟨M34, hq33, h⟩ := bnd h
  refine f_Mod_comesOut hld  hq33 ?_
  dsimp only [psh]
  refine g_return rfl d_Mod_expression_209 rfl ?_
  cases h; exact hQ
def J_Mod_expression_191 (v1 : Int32) (M : gM) : Option (gM) :=
  (if (M 401 12) ≤ v1 then J_Mod_expression_204 M else bI (F_Mod_fail 1 M) (fun M36 => J_Mod_expression_204 M36))
set_option maxHeartbeats 4000000 in
set_option maxRecDepth 20000 in
theorem j_Mod_expression_191 {l : Launch} {ld : Nat} {Q : Option Value → gM → gL → gR → Prop} (hld : isLa ld)   {q : gM} {M : gM} {L : gL} (hQ : Q none q L (rf ld))  {v1 : Int32}  (h : J_Mod_expression_191 v1 M = some q) : Wp l y_Mod_expression (0, 0, 447) 447 0 0 191 [(0, .ref 401), (1, .int v1)] [] M L (rf ld) Q := by
  unfold J_Mod_expression_191 at h
  refine g_aload_n (pc1 := 192) d_Mod_expression_191 rfl 0 rfl ?_
  refine g_geti (pc1 := 195) d_Mod_expression_192 rfl ⟨_, fo_Mod_233⟩ sh_401 (by decide) ?_
  refine g_iload_n (pc1 := 196) d_Mod_expression_195 rfl 1 rfl ?_
  refine g_icmp_le (pc1 := 199) (tgt := 204) d_Mod_expression_196 (by decide) rfl (fun c32 => ?_) (fun c32 => ?_)
  · replace h := itp h c32
    refine Wp.loc (lv' := [(0, .ref 401)]) [0] rfl ?_
    exact j_Mod_expression_204 hld  hQ  h
  · replace h := itn h c32
    refine g_aload_n (pc1 := 200) d_Mod_expression_199 rfl 0 rfl ?_
    refine g_iconst (pc1 := 201) (v := 1) d_Mod_expression_200 rfl (by decide) ?_
    refine g_callV0 (pc1 := 204) (As := [.int 1]) (rest := []) d_Mod_expression_201 rfl mo_Mod_221 mi_Mod_fail mv_Mod_fail rfl sh_401 (by decide) (by decide) rfl rfl (Nat.le_of_ble_eq_true rfl) ?_
    obtain ⟨M36, hq35, h⟩ := bnd h
    refine f_Mod_fail hld  hq35 ?_
    dsimp only [psh]
    refine Wp.loc (lv' := [(0, .ref 401)]) [0] rfl ?_
    exact j_Mod_expression_204 hld  hQ  h
def J_Mod_expression_186 (K12 : Int32 → gM → Option (gM)) (v1 : Int32) (s0 : Int32) (M : gM) : Option (gM) :=
  (if s0 = 0 then J_Mod_expression_191 v1 M else bI (F_Mod_is 10 M) (fun r19 => (if r19 = 0 then bI (F_Mod_is 15 M) (fun r30 => (if r30 = 0 then J_Mod_expression_234 K12 v1 s0 0 M else J_Mod_expression_229 K12 v1 s0 M)) else J_Mod_expression_229 K12 v1 s0 M)))
set_option maxHeartbeats 4000000 in
set_option maxRecDepth 20000 in
theorem j_Mod_expression_186 {l : Launch} {ld : Nat} {Q : Option Value → gM → gL → gR → Prop} (hld : isLa ld)   {q : gM} {M : gM} {L : gL} (hQ : Q none q L (rf ld)) {K12 : Int32 → gM → Option (gM)} {v1 : Int32} {s0 : Int32} (hK12 : ∀ (w2 : Int32) (M : gM), K12 w2 M = some q → Wp l y_Mod_expression (0, 0, 447) 447 0 0 12 [(0, .ref 401), (1, .int v1), (2, .int w2)] [] M L (rf ld) Q) (h : J_Mod_expression_186 K12 v1 s0 M = some q) : Wp l y_Mod_expression (0, 0, 447) 447 0 0 186 [(0, .ref 401), (1, .int v1)] [.int s0] M L (rf ld) Q := by
  unfold J_Mod_expression_186 at h
  refine g_istore_n (pc1 := 187) (lv' := [(0, .ref 401), (1, .int v1), (2, .int s0)]) d_Mod_expression_186 rfl rfl (by decide) [1, 2, 0] rfl ?_
  refine g_iload_n (pc1 := 188) d_Mod_expression_187 rfl 2 rfl ?_
  refine g_if_ne (pc1 := 191) (tgt := 210) d_Mod_expression_188 (by decide) rfl (fun c17 => ?_) (fun c17 => ?_)
  · replace h := itn h c17
    refine g_aload_n (pc1 := 211) d_Mod_expression_210 rfl 0 rfl ?_
    refine g_aload_n (pc1 := 212) d_Mod_expression_211 rfl 0 rfl ?_
    refine g_bipush (pc1 := 214) (v := 10) d_Mod_expression_212 rfl (by decide) ?_
    refine g_callV0 (pc1 := 217) (As := [.int 10]) (rest := [.ref 401]) d_Mod_expression_214 rfl mo_Mod_224 mi_Mod_is mv_Mod_is rfl sh_401 (by decide) (by decide) rfl rfl (Nat.le_of_ble_eq_true rfl) ?_
    obtain ⟨r19, hq18, h⟩ := bnd h
    refine f_Mod_is hld  hq18 ?_
    dsimp only [psh]
    refine g_if_ne (pc1 := 220) (tgt := 229) d_Mod_expression_217 (by decide) rfl (fun c20 => ?_) (fun c20 => ?_)
    · replace h := itn h c20
      exact j_Mod_expression_229 hld  hQ hK12 h
    · replace h := itp h c20
      refine g_aload_n (pc1 := 221) d_Mod_expression_220 rfl 0 rfl ?_
      refine g_bipush (pc1 := 223) (v := 15) d_Mod_expression_221 rfl (by decide) ?_
      refine g_callV0 (pc1 := 226) (As := [.int 15]) (rest := [.ref 401]) d_Mod_expression_223 rfl mo_Mod_224 mi_Mod_is mv_Mod_is rfl sh_401 (by decide) (by decide) rfl rfl (Nat.le_of_ble_eq_true rfl) ?_
      obtain ⟨r30, hq29, h⟩ := bnd h
      refine f_Mod_is hld  hq29 ?_
      dsimp only [psh]
      refine g_if_eq (pc1 := 229) (tgt := 233) d_Mod_expression_226 (by decide) rfl (fun c31 => ?_) (fun c31 => ?_)
      · replace h := itp h c31
        refine g_iconst (pc1 := 234) (v := 0) d_Mod_expression_233 rfl (by decide) ?_
        exact j_Mod_expression_234 hld  hQ hK12 h
      · replace h := itn h c31
        exact j_Mod_expression_229 hld  hQ hK12 h
  · replace h := itp h c17
    refine Wp.loc (lv' := [(0, .ref 401), (1, .int v1)]) [0, 1] rfl ?_
    exact j_Mod_expression_191 hld  hQ  h
def J_Mod_expression_181 (K12 : Int32 → gM → Option (gM)) (v1 : Int32) (M : gM) : Option (gM) :=
  J_Mod_expression_186 K12 v1 1 M
set_option maxHeartbeats 4000000 in
set_option maxRecDepth 20000 in
theorem j_Mod_expression_181 {l : Launch} {ld : Nat} {Q : Option Value → gM → gL → gR → Prop} (hld : isLa ld)   {q : gM} {M : gM} {L : gL} (hQ : Q none q L (rf ld)) {K12 : Int32 → gM → Option (gM)} {v1 : Int32} (hK12 : ∀ (w2 : Int32) (M : gM), K12 w2 M = some q → Wp l y_Mod_expression (0, 0, 447) 447 0 0 12 [(0, .ref 401), (1, .int v1), (2, .int w2)] [] M L (rf ld) Q) (h : J_Mod_expression_181 K12 v1 M = some q) : Wp l y_Mod_expression (0, 0, 447) 447 0 0 181 [(0, .ref 401), (1, .int v1)] [] M L (rf ld) Q := by
  unfold J_Mod_expression_181 at h
  refine g_iconst (pc1 := 182) (v := 1) d_Mod_expression_181 rfl (by decide) ?_
  refine g_goto (tgt := 186) d_Mod_expression_182 (by decide) ?_
  exact j_Mod_expression_186 hld  hQ hK12 h
def J_Mod_expression_145 (K12 : Int32 → gM → Option (gM)) (v1 : Int32) (M : gM) : Option (gM) :=
  bI (F_Mod_is 8 M) (fun r15 => (if r15 = 0 then bI (F_Mod_is 9 M) (fun r38 => (if r38 = 0 then bI (F_Mod_is 10 M) (fun r41 => (if r41 = 0 then bI (F_Mod_is 15 M) (fun r44 => (if r44 = 0 then J_Mod_expression_186 K12 v1 0 M else J_Mod_expression_181 K12 v1 M)) else J_Mod_expression_181 K12 v1 M)) else J_Mod_expression_181 K12 v1 M)) else J_Mod_expression_181 K12 v1 M))
set_option maxHeartbeats 4000000 in
set_option maxRecDepth 20000 in
theorem j_Mod_expression_145 {l : Launch} {ld : Nat} {Q : Option Value → gM → gL → gR → Prop} (hld : isLa ld)   {q : gM} {M : gM} {L : gL} (hQ : Q none q L (rf ld)) {K12 : Int32 → gM → Option (gM)} {v1 : Int32} (hK12 : ∀ (w2 : Int32) (M : gM), K12 w2 M = some q → Wp l y_Mod_expression (0, 0, 447) 447 0 0 12 [(0, .ref 401), (1, .int v1), (2, .int w2)] [] M L (rf ld) Q) (h : J_Mod_expression_145 K12 v1 M = some q) : Wp l y_Mod_expression (0, 0, 447) 447 0 0 145 [(0, .ref 401), (1, .int v1)] [] M L (rf ld) Q := by
  unfold J_Mod_expression_145 at h
  refine g_aload_n (pc1 := 146) d_Mod_expression_145 rfl 0 rfl ?_
  refine g_bipush (pc1 := 148) (v := 8) d_Mod_expression_146 rfl (by decide) ?_
  refine g_callV0 (pc1 := 151) (As := [.int 8]) (rest := []) d_Mod_expression_148 rfl mo_Mod_224 mi_Mod_is mv_Mod_is rfl sh_401 (by decide) (by decide) rfl rfl (Nat.le_of_ble_eq_true rfl) ?_
  obtain ⟨r15, hq14, h⟩ := bnd h
  refine f_Mod_is hld  hq14 ?_
  dsimp only [psh]
  refine g_if_ne (pc1 := 154) (tgt := 181) d_Mod_expression_151 (by decide) rfl (fun c16 => ?_) (fun c16 => ?_)
  · replace h := itn h c16
    exact j_Mod_expression_181 hld  hQ hK12 h
  · replace h := itp h c16
    refine g_aload_n (pc1 := 155) d_Mod_expression_154 rfl 0 rfl ?_
    refine g_bipush (pc1 := 157) (v := 9) d_Mod_expression_155 rfl (by decide) ?_
    refine g_callV0 (pc1 := 160) (As := [.int 9]) (rest := []) d_Mod_expression_157 rfl mo_Mod_224 mi_Mod_is mv_Mod_is rfl sh_401 (by decide) (by decide) rfl rfl (Nat.le_of_ble_eq_true rfl) ?_
    obtain ⟨r38, hq37, h⟩ := bnd h
    refine f_Mod_is hld  hq37 ?_
    dsimp only [psh]
    refine g_if_ne (pc1 := 163) (tgt := 181) d_Mod_expression_160 (by decide) rfl (fun c39 => ?_) (fun c39 => ?_)
    · replace h := itn h c39
      exact j_Mod_expression_181 hld  hQ hK12 h
    · replace h := itp h c39
      refine g_aload_n (pc1 := 164) d_Mod_expression_163 rfl 0 rfl ?_
      refine g_bipush (pc1 := 166) (v := 10) d_Mod_expression_164 rfl (by decide) ?_
      refine g_callV0 (pc1 := 169) (As := [.int 10]) (rest := []) d_Mod_expression_166 rfl mo_Mod_224 mi_Mod_is mv_Mod_is rfl sh_401 (by decide) (by decide) rfl rfl (Nat.le_of_ble_eq_true rfl) ?_
      obtain ⟨r41, hq40, h⟩ := bnd h
      refine f_Mod_is hld  hq40 ?_
      dsimp only [psh]
      refine g_if_ne (pc1 := 172) (tgt := 181) d_Mod_expression_169 (by decide) rfl (fun c42 => ?_) (fun c42 => ?_)
      · replace h := itn h c42
        exact j_Mod_expression_181 hld  hQ hK12 h
      · replace h := itp h c42
        refine g_aload_n (pc1 := 173) d_Mod_expression_172 rfl 0 rfl ?_
        refine g_bipush (pc1 := 175) (v := 15) d_Mod_expression_173 rfl (by decide) ?_
        refine g_callV0 (pc1 := 178) (As := [.int 15]) (rest := []) d_Mod_expression_175 rfl mo_Mod_224 mi_Mod_is mv_Mod_is rfl sh_401 (by decide) (by decide) rfl rfl (Nat.le_of_ble_eq_true rfl) ?_
        obtain ⟨r44, hq43, h⟩ := bnd h
        refine f_Mod_is hld  hq43 ?_
        dsimp only [psh]
        refine g_if_eq (pc1 := 181) (tgt := 185) d_Mod_expression_178 (by decide) rfl (fun c45 => ?_) (fun c45 => ?_)
        · replace h := itp h c45
          refine g_iconst (pc1 := 186) (v := 0) d_Mod_expression_185 rfl (by decide) ?_
          exact j_Mod_expression_186 hld  hQ hK12 h
        · replace h := itn h c45
          exact j_Mod_expression_181 hld  hQ hK12 h
def B_Mod_expression_96 (K12 : Int32 → gM → Option (gM)) (v1 : Int32) (K96 : gM → Option (gM)) : gM → Option (gM) := fun M =>
  bI (F_Mod_is 7 M) (fun r12 => (if r12 = 0 then J_Mod_expression_145 K12 v1 M else (if (M 401 12) ≤ v1 then J_Mod_expression_145 K12 v1 M else bI (F_Mod_comesOut 0 M) (fun M48 => nmM (uM M48 401 48 ((M48 401 48) - 1)) (fun M49 => nmM (uM M49 401 12 ((M49 401 12) - 1)) (fun M50 => bI (F_Mod_goesOn M50) (fun M52 => K96 M52)))))))
def H_Mod_expression_96 (K12 : Int32 → gM → Option (gM)) (v1 : Int32) : Nat → gM → Option (gM) := lpK (B_Mod_expression_96 K12 v1) (fun _ => none)
set_option maxHeartbeats 4000000 in
set_option maxRecDepth 20000 in
theorem h_Mod_expression_96 {l : Launch} {ld : Nat} {Q : Option Value → gM → gL → gR → Prop} (hld : isLa ld)   {q : gM} {L : gL} (hQ : Q none q L (rf ld)) {K12 : Int32 → gM → Option (gM)} {v1 : Int32} (hK12 : ∀ (w2 : Int32) (M : gM), K12 w2 M = some q → Wp l y_Mod_expression (0, 0, 447) 447 0 0 12 [(0, .ref 401), (1, .int v1), (2, .int w2)] [] M L (rf ld) Q) : ∀ (f : Nat) (M : gM), H_Mod_expression_96 K12 v1 f M = some q → Wp l y_Mod_expression (0, 0, 447) 447 0 0 96 [(0, .ref 401), (1, .int v1)] [] M L (rf ld) Q := by
  intro f
  induction f with
  | zero => intro M h; cases h
  | succ f hK96 =>
    intro M h
    replace h : B_Mod_expression_96 K12 v1 (H_Mod_expression_96 K12 v1 f) M = some q := h
    unfold B_Mod_expression_96 at h
    refine g_aload_n (pc1 := 97) d_Mod_expression_96 rfl 0 rfl ?_
    refine g_bipush (pc1 := 99) (v := 7) d_Mod_expression_97 rfl (by decide) ?_
    refine g_callV0 (pc1 := 102) (As := [.int 7]) (rest := []) d_Mod_expression_99 rfl mo_Mod_224 mi_Mod_is mv_Mod_is rfl sh_401 (by decide) (by decide) rfl rfl (Nat.le_of_ble_eq_true rfl) ?_
    obtain ⟨r12, hq11, h⟩ := bnd h
    refine f_Mod_is hld  hq11 ?_
    dsimp only [psh]
    refine g_if_eq (pc1 := 105) (tgt := 145) d_Mod_expression_102 (by decide) rfl (fun c13 => ?_) (fun c13 => ?_)
    · replace h := itp h c13
      exact j_Mod_expression_145 hld  hQ hK12 h
    · replace h := itn h c13
      refine g_aload_n (pc1 := 106) d_Mod_expression_105 rfl 0 rfl ?_
      refine g_geti (pc1 := 109) d_Mod_expression_106 rfl ⟨_, fo_Mod_233⟩ sh_401 (by decide) ?_
      refine g_iload_n (pc1 := 110) d_Mod_expression_109 rfl 1 rfl ?_
      refine g_icmp_le (pc1 := 113) (tgt := 145) d_Mod_expression_110 (by decide) rfl (fun c46 => ?_) (fun c46 => ?_)
      · replace h := itp h c46
        exact j_Mod_expression_145 hld  hQ hK12 h
      · replace h := itn h c46
        refine g_aload_n (pc1 := 114) d_Mod_expression_113 rfl 0 rfl ?_
        refine g_iconst (pc1 := 115) (v := 0) d_Mod_expression_114 rfl (by decide) ?_
        refine g_callV0 (pc1 := 118) (As := [.int 0]) (rest := []) d_Mod_expression_115 rfl mo_Mod_308 mi_Mod_comesOut mv_Mod_comesOut rfl sh_401 (by decide) (by decide) rfl rfl (Nat.le_of_ble_eq_true rfl) ?_
        obtain ⟨M48, hq47, h⟩ := bnd h
        refine f_Mod_comesOut hld  hq47 ?_
        dsimp only [psh]
        refine g_aload_n (pc1 := 119) d_Mod_expression_118 rfl 0 rfl ?_
        refine g_dup (pc1 := 120) d_Mod_expression_119 rfl rfl ?_
        refine g_geti (pc1 := 123) d_Mod_expression_120 rfl ⟨_, fo_Mod_299⟩ sh_401 (by decide) ?_
        refine g_iconst (pc1 := 124) (v := 1) d_Mod_expression_123 rfl (by decide) ?_
        refine g_isub (pc1 := 125) d_Mod_expression_124 rfl ?_
        refine g_puti (pc1 := 128) d_Mod_expression_125 rfl fo_Mod_299 (po_12_48 _) sh_401 (by decide) ?_
        refine Wp.lM h (fun M49 h => ?_)
        refine g_aload_n (pc1 := 129) d_Mod_expression_128 rfl 0 rfl ?_
        refine g_dup (pc1 := 130) d_Mod_expression_129 rfl rfl ?_
        refine g_geti (pc1 := 133) d_Mod_expression_130 rfl ⟨_, fo_Mod_233⟩ sh_401 (by decide) ?_
        refine g_iconst (pc1 := 134) (v := 1) d_Mod_expression_133 rfl (by decide) ?_
        refine g_isub (pc1 := 135) d_Mod_expression_134 rfl ?_
        refine g_puti (pc1 := 138) d_Mod_expression_135 rfl fo_Mod_233 (po_12_12 _) sh_401 (by decide) ?_
        refine Wp.lM h (fun M50 h => ?_)
        refine g_aload_n (pc1 := 139) d_Mod_expression_138 rfl 0 rfl ?_
        refine g_callV0 (pc1 := 142) (As := []) (rest := []) d_Mod_expression_139 rfl mo_Mod_227 mi_Mod_goesOn mv_Mod_goesOn rfl sh_401 (by decide) (by decide) rfl rfl (Nat.le_of_ble_eq_true rfl) ?_
        obtain ⟨M52, hq51, h⟩ := bnd h
        refine f_Mod_goesOn hld  hq51 ?_
        dsimp only [psh]
        refine g_goto (tgt := 96) d_Mod_expression_142 (by decide) ?_
        exact hK96 M52 h
def J_Mod_expression_84 (K12 : Int32 → gM → Option (gM)) (v1 : Int32) (M : gM) : Option (gM) :=
  bI (F_Mod_unit M) (fun M9 => (if (M9 401 13) ≤ 0 then H_Mod_expression_96 K12 v1 FU M9 else some M9))
set_option maxHeartbeats 4000000 in
set_option maxRecDepth 20000 in
theorem j_Mod_expression_84 {l : Launch} {ld : Nat} {Q : Option Value → gM → gL → gR → Prop} (hld : isLa ld)   {q : gM} {M : gM} {L : gL} (hQ : Q none q L (rf ld)) {K12 : Int32 → gM → Option (gM)} {v1 : Int32} (hK12 : ∀ (w2 : Int32) (M : gM), K12 w2 M = some q → Wp l y_Mod_expression (0, 0, 447) 447 0 0 12 [(0, .ref 401), (1, .int v1), (2, .int w2)] [] M L (rf ld) Q) (h : J_Mod_expression_84 K12 v1 M = some q) : Wp l y_Mod_expression (0, 0, 447) 447 0 0 84 [(0, .ref 401), (1, .int v1)] [] M L (rf ld) Q := by
  unfold J_Mod_expression_84 at h
  refine g_aload_n (pc1 := 85) d_Mod_expression_84 rfl 0 rfl ?_
  refine g_callV0 (pc1 := 88) (As := []) (rest := []) d_Mod_expression_85 rfl mo_Mod_305 mi_Mod_unit mv_Mod_unit rfl sh_401 (by decide) (by decide) rfl rfl (Nat.le_of_ble_eq_true rfl) ?_
  obtain ⟨M9, hq8, h⟩ := bnd h
  refine f_Mod_unit hld  hq8 ?_
  dsimp only [psh]
  refine g_aload_n (pc1 := 89) d_Mod_expression_88 rfl 0 rfl ?_
  refine g_geti (pc1 := 92) d_Mod_expression_89 rfl ⟨_, fo_Mod_206⟩ sh_401 (by decide) ?_
  refine g_if_le (pc1 := 95) (tgt := 96) d_Mod_expression_92 (by decide) rfl (fun c10 => ?_) (fun c10 => ?_)
  · replace h := itp h c10
    exact h_Mod_expression_96 hld  hQ hK12 _ M9 h
  · replace h := itn h c10
    refine g_return rfl d_Mod_expression_95 rfl ?_
    cases h; exact hQ
def J_Mod_expression_46 (K12 : Int32 → gM → Option (gM)) (K23 : gM → Option (gM)) (v1 : Int32) (M : gM) : Option (gM) :=
  nmM (uM M 401 12 ((M 401 12) + 1)) (fun M54 => bI (F_Mod_goesOn M54) (fun M56 => (if ((M56 401 48) : Int32) < 0 ∨ 64 ≤ ((M56 401 48) : Int32).toNatClampNeg then none else nmM (uM M56 433 ((M56 401 48) : Int32).toNatClampNeg 6) (fun M58 => nmM (uM M58 401 48 ((M58 401 48) + 1)) (fun M59 => K23 M59)))))
set_option maxHeartbeats 4000000 in
set_option maxRecDepth 20000 in
theorem j_Mod_expression_46 {l : Launch} {ld : Nat} {Q : Option Value → gM → gL → gR → Prop} (hld : isLa ld)   {q : gM} {M : gM} {L : gL} (hQ : Q none q L (rf ld)) {K12 : Int32 → gM → Option (gM)} {K23 : gM → Option (gM)} {v1 : Int32} (hK12 : ∀ (w2 : Int32) (M : gM), K12 w2 M = some q → Wp l y_Mod_expression (0, 0, 447) 447 0 0 12 [(0, .ref 401), (1, .int v1), (2, .int w2)] [] M L (rf ld) Q) (hK23 : ∀ (M : gM), K23 M = some q → Wp l y_Mod_expression (0, 0, 447) 447 0 0 23 [(0, .ref 401), (1, .int v1)] [] M L (rf ld) Q) (h : J_Mod_expression_46 K12 K23 v1 M = some q) : Wp l y_Mod_expression (0, 0, 447) 447 0 0 46 [(0, .ref 401), (1, .int v1)] [] M L (rf ld) Q := by
  unfold J_Mod_expression_46 at h
  refine g_aload_n (pc1 := 47) d_Mod_expression_46 rfl 0 rfl ?_
  refine g_dup (pc1 := 48) d_Mod_expression_47 rfl rfl ?_
  refine g_geti (pc1 := 51) d_Mod_expression_48 rfl ⟨_, fo_Mod_233⟩ sh_401 (by decide) ?_
  refine g_iconst (pc1 := 52) (v := 1) d_Mod_expression_51 rfl (by decide) ?_
  refine g_iadd (pc1 := 53) d_Mod_expression_52 rfl ?_
  refine g_puti (pc1 := 56) d_Mod_expression_53 rfl fo_Mod_233 (po_12_12 _) sh_401 (by decide) ?_
  refine Wp.lM h (fun M54 h => ?_)
  refine g_aload_n (pc1 := 57) d_Mod_expression_56 rfl 0 rfl ?_
  refine g_callV0 (pc1 := 60) (As := []) (rest := []) d_Mod_expression_57 rfl mo_Mod_227 mi_Mod_goesOn mv_Mod_goesOn rfl sh_401 (by decide) (by decide) rfl rfl (Nat.le_of_ble_eq_true rfl) ?_
  obtain ⟨M56, hq55, h⟩ := bnd h
  refine f_Mod_goesOn hld  hq55 ?_
  dsimp only [psh]
  refine g_aload_n (pc1 := 61) d_Mod_expression_60 rfl 0 rfl ?_
  refine g_getr (pc1 := 64) d_Mod_expression_61 rfl ⟨_, fo_Mod_113⟩ sh_401 (by decide) (rf_401_47 ld) ?_
  refine g_aload_n (pc1 := 65) d_Mod_expression_64 rfl 0 rfl ?_
  refine g_geti (pc1 := 68) d_Mod_expression_65 rfl ⟨_, fo_Mod_299⟩ sh_401 (by decide) ?_
  refine g_bipush (pc1 := 70) (v := 6) d_Mod_expression_68 rfl (by decide) ?_
  obtain ⟨g57, h⟩ := gdn h
  refine g_iast (pc1 := 71) d_Mod_expression_70 rfl sh_433 (by decide) g57 ?_
  refine Wp.lM h (fun M58 h => ?_)
  refine g_aload_n (pc1 := 72) d_Mod_expression_71 rfl 0 rfl ?_
  refine g_dup (pc1 := 73) d_Mod_expression_72 rfl rfl ?_
  refine g_geti (pc1 := 76) d_Mod_expression_73 rfl ⟨_, fo_Mod_299⟩ sh_401 (by decide) ?_
  refine g_iconst (pc1 := 77) (v := 1) d_Mod_expression_76 rfl (by decide) ?_
  refine g_iadd (pc1 := 78) d_Mod_expression_77 rfl ?_
  refine g_puti (pc1 := 81) d_Mod_expression_78 rfl fo_Mod_299 (po_12_48 _) sh_401 (by decide) ?_
  refine Wp.lM h (fun M59 h => ?_)
  refine g_goto (tgt := 23) d_Mod_expression_81 (by decide) ?_
  exact hK23 M59 h
def B_Mod_expression_23 (K12 : Int32 → gM → Option (gM)) (v1 : Int32) (K23 : gM → Option (gM)) : gM → Option (gM) := fun M =>
  bI (F_Mod_is 6 M) (fun r6 => (if r6 = 0 then J_Mod_expression_84 K12 v1 M else (if (M 401 12) = 6 then bI (F_Mod_fail 2 M) (fun M61 => J_Mod_expression_46 K12 K23 v1 M61) else J_Mod_expression_46 K12 K23 v1 M)))
def H_Mod_expression_23 (K12 : Int32 → gM → Option (gM)) (v1 : Int32) : Nat → gM → Option (gM) := lpK (B_Mod_expression_23 K12 v1) (fun _ => none)
set_option maxHeartbeats 4000000 in
set_option maxRecDepth 20000 in
theorem h_Mod_expression_23 {l : Launch} {ld : Nat} {Q : Option Value → gM → gL → gR → Prop} (hld : isLa ld)   {q : gM} {L : gL} (hQ : Q none q L (rf ld)) {K12 : Int32 → gM → Option (gM)} {v1 : Int32} (hK12 : ∀ (w2 : Int32) (M : gM), K12 w2 M = some q → Wp l y_Mod_expression (0, 0, 447) 447 0 0 12 [(0, .ref 401), (1, .int v1), (2, .int w2)] [] M L (rf ld) Q) : ∀ (f : Nat) (M : gM), H_Mod_expression_23 K12 v1 f M = some q → Wp l y_Mod_expression (0, 0, 447) 447 0 0 23 [(0, .ref 401), (1, .int v1)] [] M L (rf ld) Q := by
  intro f
  induction f with
  | zero => intro M h; cases h
  | succ f hK23 =>
    intro M h
    replace h : B_Mod_expression_23 K12 v1 (H_Mod_expression_23 K12 v1 f) M = some q := h
    unfold B_Mod_expression_23 at h
    refine g_aload_n (pc1 := 24) d_Mod_expression_23 rfl 0 rfl ?_
    refine g_bipush (pc1 := 26) (v := 6) d_Mod_expression_24 rfl (by decide) ?_
    refine g_callV0 (pc1 := 29) (As := [.int 6]) (rest := []) d_Mod_expression_26 rfl mo_Mod_224 mi_Mod_is mv_Mod_is rfl sh_401 (by decide) (by decide) rfl rfl (Nat.le_of_ble_eq_true rfl) ?_
    obtain ⟨r6, hq5, h⟩ := bnd h
    refine f_Mod_is hld  hq5 ?_
    dsimp only [psh]
    refine g_if_eq (pc1 := 32) (tgt := 84) d_Mod_expression_29 (by decide) rfl (fun c7 => ?_) (fun c7 => ?_)
    · replace h := itp h c7
      exact j_Mod_expression_84 hld  hQ hK12 h
    · replace h := itn h c7
      refine g_aload_n (pc1 := 33) d_Mod_expression_32 rfl 0 rfl ?_
      refine g_geti (pc1 := 36) d_Mod_expression_33 rfl ⟨_, fo_Mod_233⟩ sh_401 (by decide) ?_
      refine g_bipush (pc1 := 38) (v := 6) d_Mod_expression_36 rfl (by decide) ?_
      refine g_icmp_ne (pc1 := 41) (tgt := 46) d_Mod_expression_38 (by decide) rfl (fun c53 => ?_) (fun c53 => ?_)
      · replace h := itn h c53
        exact j_Mod_expression_46 hld  hQ hK12 hK23 h
      · replace h := itp h c53
        refine g_aload_n (pc1 := 42) d_Mod_expression_41 rfl 0 rfl ?_
        refine g_iconst (pc1 := 43) (v := 2) d_Mod_expression_42 rfl (by decide) ?_
        refine g_callV0 (pc1 := 46) (As := [.int 2]) (rest := []) d_Mod_expression_43 rfl mo_Mod_221 mi_Mod_fail mv_Mod_fail rfl sh_401 (by decide) (by decide) rfl rfl (Nat.le_of_ble_eq_true rfl) ?_
        obtain ⟨M61, hq60, h⟩ := bnd h
        refine f_Mod_fail hld  hq60 ?_
        dsimp only [psh]
        exact j_Mod_expression_46 hld  hQ hK12 hK23 h
def B_Mod_expression_12 (v1 : Int32) (K12 : Int32 → gM → Option (gM)) : Int32 → gM → Option (gM) := fun v2 M =>
  (if v2 = 0 then some M else (if (M 401 13) = 0 then H_Mod_expression_23 K12 v1 FU M else some M))
def H_Mod_expression_12 (v1 : Int32) : Nat → Int32 → gM → Option (gM) := lpK (B_Mod_expression_12 v1) (fun _ _ => none)
set_option maxHeartbeats 4000000 in
set_option maxRecDepth 20000 in
theorem h_Mod_expression_12 {l : Launch} {ld : Nat} {Q : Option Value → gM → gL → gR → Prop} (hld : isLa ld)   {q : gM} {L : gL} (hQ : Q none q L (rf ld))  {v1 : Int32}  : ∀ (f : Nat) (v2 : Int32) (M : gM), H_Mod_expression_12 v1 f v2 M = some q → Wp l y_Mod_expression (0, 0, 447) 447 0 0 12 [(0, .ref 401), (1, .int v1), (2, .int v2)] [] M L (rf ld) Q := by
  intro f
  induction f with
  | zero => intro v2 M h; cases h
  | succ f hK12 =>
    intro v2 M h
    replace h : B_Mod_expression_12 v1 (H_Mod_expression_12 v1 f) v2 M = some q := h
    unfold B_Mod_expression_12 at h
    refine g_iload_n (pc1 := 13) d_Mod_expression_12 rfl 2 rfl ?_
    refine g_if_eq (pc1 := 16) (tgt := 272) d_Mod_expression_13 (by decide) rfl (fun c3 => ?_) (fun c3 => ?_)
    · replace h := itp h c3
      refine g_return rfl d_Mod_expression_272 rfl ?_
      cases h; exact hQ
    · replace h := itn h c3
      refine g_aload_n (pc1 := 17) d_Mod_expression_16 rfl 0 rfl ?_
      refine g_geti (pc1 := 20) d_Mod_expression_17 rfl ⟨_, fo_Mod_206⟩ sh_401 (by decide) ?_
      refine g_if_ne (pc1 := 23) (tgt := 272) d_Mod_expression_20 (by decide) rfl (fun c4 => ?_) (fun c4 => ?_)
      · replace h := itn h c4
        refine g_return rfl d_Mod_expression_272 rfl ?_
        cases h; exact hQ
      · replace h := itp h c4
        refine Wp.loc (lv' := [(0, .ref 401), (1, .int v1)]) [0, 1] rfl ?_
        exact h_Mod_expression_23 hld  hQ hK12 _ M h
def F_Mod_expression (M : gM) : Option (gM) :=
  nmM (uM M 401 48 0) (fun M1 => nmI (M1 401 12) (fun x2 => H_Mod_expression_12 x2 FU 1 M1))
set_option maxHeartbeats 4000000 in
set_option maxRecDepth 20000 in
theorem f_Mod_expression {l : Launch} {ld : Nat} {M : gM} {L : gL} {Q : Option Value → gM → gL → gR → Prop} (hld : isLa ld)   {q : gM} (h : F_Mod_expression M = some q) (hQ : Q none q L (rf ld)) : Tm l y_Mod_expression (0, 0, 447) 447 [.ref 401] M L (rf ld) Q := by
  refine Tm.of (by decide) (Nat.le_of_ble_eq_true rfl) ?_
  show Wp l y_Mod_expression (0, 0, 447) 447 0 0 0 [(0, .ref 401)] [] M L (rf ld) Q
  unfold F_Mod_expression at h
  refine g_aload_n (pc1 := 1) d_Mod_expression_0 rfl 0 rfl ?_
  refine g_iconst (pc1 := 2) (v := 0) d_Mod_expression_1 rfl (by decide) ?_
  refine g_puti (pc1 := 5) d_Mod_expression_2 rfl fo_Mod_299 (po_12_48 _) sh_401 (by decide) ?_
  refine Wp.lM h (fun M1 h => ?_)
  refine g_aload_n (pc1 := 6) d_Mod_expression_5 rfl 0 rfl ?_
  refine g_geti (pc1 := 9) d_Mod_expression_6 rfl ⟨_, fo_Mod_233⟩ sh_401 (by decide) ?_
  refine Wp.lI h (fun x2 h => ?_)
  refine g_istore_n (pc1 := 10) (lv' := [(0, .ref 401), (1, .int x2)]) d_Mod_expression_9 rfl rfl (by decide) [1, 0] rfl ?_
  refine g_iconst (pc1 := 11) (v := 1) d_Mod_expression_10 rfl (by decide) ?_
  refine g_istore_n (pc1 := 12) (lv' := [(0, .ref 401), (1, .int x2), (2, .int 1)]) d_Mod_expression_11 rfl rfl (by decide) [1, 2, 0] rfl ?_
  exact h_Mod_expression_12 hld  hQ  _ 1 M1 h

def J_Mod_forceBy_55 (v1 : Int32) (v2 : Int32) (v3 : Int32) (M : gM) : Option (Int32 × gM) :=
  bI (F_Mod_looks M) (fun M4 => nmM (uM M4 434 0 v3) (fun M5 => nmM (uM M5 434 1 v2) (fun M6 => nmM (uM M6 434 2 v1) (fun M7 => bI (F_Mod_potMany M7) (fun r9 => nmM (uM M7 434 3 r9) (fun M10 => bI2 (F_Mod_asks 0 v3 0 99 M10) (fun r12 M13 => some (r12, M13))))))))
set_option maxHeartbeats 4000000 in
set_option maxRecDepth 20000 in
theorem j_Mod_forceBy_55 {l : Launch} {ld : Nat} {Q : Option Value → gM → gL → gR → Prop} (hld : isLa ld)   {q : Int32 × gM} {M : gM} {L : gL} (hQ : Q (some (.int q.1)) q.2 L (rf ld))  {v1 : Int32} {v2 : Int32} {v3 : Int32}  (h : J_Mod_forceBy_55 v1 v2 v3 M = some q) : Wp l y_Mod_forceBy (0, 0, 447) 447 0 0 55 [(0, .ref 401), (1, .int v1), (2, .int v2), (3, .int v3)] [] M L (rf ld) Q := by
  unfold J_Mod_forceBy_55 at h
  refine g_aload_n (pc1 := 56) d_Mod_forceBy_55 rfl 0 rfl ?_
  refine g_callV0 (pc1 := 59) (As := []) (rest := []) d_Mod_forceBy_56 rfl mo_Mod_336 mi_Mod_looks mv_Mod_looks rfl sh_401 (by decide) (by decide) rfl rfl (Nat.le_of_ble_eq_true rfl) ?_
  obtain ⟨M4, hq3, h⟩ := bnd h
  refine f_Mod_looks hld  hq3 ?_
  dsimp only [psh]
  refine g_aload_n (pc1 := 60) d_Mod_forceBy_59 rfl 0 rfl ?_
  refine g_getr (pc1 := 63) d_Mod_forceBy_60 rfl ⟨_, fo_Mod_116⟩ sh_401 (by decide) (rf_401_49 ld) ?_
  refine g_iconst (pc1 := 64) (v := 0) d_Mod_forceBy_63 rfl (by decide) ?_
  refine g_iload_n (pc1 := 65) d_Mod_forceBy_64 rfl 3 rfl ?_
  refine g_iast (pc1 := 66) d_Mod_forceBy_65 rfl sh_434 (by decide) (vin_lit (x := 0) (by decide)) ?_
  refine Wp.eqM (M' := uM M4 434 0 v3) (congrArg (fun z => uM M4 434 z v3) (by decide)) ?_
  refine Wp.lM h (fun M5 h => ?_)
  refine g_aload_n (pc1 := 67) d_Mod_forceBy_66 rfl 0 rfl ?_
  refine g_getr (pc1 := 70) d_Mod_forceBy_67 rfl ⟨_, fo_Mod_116⟩ sh_401 (by decide) (rf_401_49 ld) ?_
  refine g_iconst (pc1 := 71) (v := 1) d_Mod_forceBy_70 rfl (by decide) ?_
  refine g_iload_n (pc1 := 72) d_Mod_forceBy_71 rfl 2 rfl ?_
  refine g_iast (pc1 := 73) d_Mod_forceBy_72 rfl sh_434 (by decide) (vin_lit (x := 1) (by decide)) ?_
  refine Wp.eqM (M' := uM M5 434 1 v2) (congrArg (fun z => uM M5 434 z v2) (by decide)) ?_
  refine Wp.lM h (fun M6 h => ?_)
  refine g_aload_n (pc1 := 74) d_Mod_forceBy_73 rfl 0 rfl ?_
  refine g_getr (pc1 := 77) d_Mod_forceBy_74 rfl ⟨_, fo_Mod_116⟩ sh_401 (by decide) (rf_401_49 ld) ?_
  refine g_iconst (pc1 := 78) (v := 2) d_Mod_forceBy_77 rfl (by decide) ?_
  refine g_iload_n (pc1 := 79) d_Mod_forceBy_78 rfl 1 rfl ?_
  refine g_iast (pc1 := 80) d_Mod_forceBy_79 rfl sh_434 (by decide) (vin_lit (x := 2) (by decide)) ?_
  refine Wp.eqM (M' := uM M6 434 2 v1) (congrArg (fun z => uM M6 434 z v1) (by decide)) ?_
  refine Wp.lM h (fun M7 h => ?_)
  refine g_aload_n (pc1 := 81) d_Mod_forceBy_80 rfl 0 rfl ?_
  refine g_getr (pc1 := 84) d_Mod_forceBy_81 rfl ⟨_, fo_Mod_116⟩ sh_401 (by decide) (rf_401_49 ld) ?_
  refine g_iconst (pc1 := 85) (v := 3) d_Mod_forceBy_84 rfl (by decide) ?_
  refine g_aload_n (pc1 := 86) d_Mod_forceBy_85 rfl 0 rfl ?_
  refine g_callV0 (pc1 := 89) (As := []) (rest := [.int 3, .ref 434]) d_Mod_forceBy_86 rfl mo_Mod_339 mi_Mod_potMany mv_Mod_potMany rfl sh_401 (by decide) (by decide) rfl rfl (Nat.le_of_ble_eq_true rfl) ?_
  obtain ⟨r9, hq8, h⟩ := bnd h
  refine f_Mod_potMany hld  hq8 ?_
  dsimp only [psh]
  refine g_iast (pc1 := 90) d_Mod_forceBy_89 rfl sh_434 (by decide) (vin_lit (x := 3) (by decide)) ?_
  refine Wp.eqM (M' := uM M7 434 3 r9) (congrArg (fun z => uM M7 434 z r9) (by decide)) ?_
  refine Wp.lM h (fun M10 h => ?_)
  refine g_aload_n (pc1 := 91) d_Mod_forceBy_90 rfl 0 rfl ?_
  refine g_iconst (pc1 := 92) (v := 0) d_Mod_forceBy_91 rfl (by decide) ?_
  refine g_iload_n (pc1 := 93) d_Mod_forceBy_92 rfl 3 rfl ?_
  refine g_iconst (pc1 := 94) (v := 0) d_Mod_forceBy_93 rfl (by decide) ?_
  refine g_bipush (pc1 := 96) (v := 99) d_Mod_forceBy_94 rfl (by decide) ?_
  refine g_callV0 (pc1 := 99) (As := [.int 0, .int v3, .int 0, .int 99]) (rest := []) d_Mod_forceBy_96 rfl mo_Mod_342 mi_Mod_asks mv_Mod_asks rfl sh_401 (by decide) (by decide) rfl rfl (Nat.le_of_ble_eq_true rfl) ?_
  obtain ⟨r12, M13, hq11, h⟩ := bnd2 h
  refine f_Mod_asks hld  hq11 ?_
  dsimp only [psh]
  refine g_ireturn (Or.inl rfl) d_Mod_forceBy_99 rfl ?_
  cases h; exact hQ
def B_Mod_forceBy_5 (v1 : Int32) (v2 : Int32) (M : gM) (K5 : Int32 → Int32 → Option (Int32 × gM)) : Int32 → Int32 → Option (Int32 × gM) := fun v3 v4 =>
  (if ((M 401 18) : Int32) < 0 ∨ 2 ≤ ((M 401 18) : Int32).toNatClampNeg then none else (if (M 411 ((M 401 18) : Int32).toNatClampNeg) ≤ v4 then J_Mod_forceBy_55 v1 v2 v3 M else (if (v4 : Int32) < 0 ∨ 6 ≤ (v4 : Int32).toNatClampNeg then none else (if (((3 * ((6 * (M 401 18)) + v4)) + v1) : Int32) < 0 ∨ 36 ≤ (((3 * ((6 * (M 401 18)) + v4)) + v1) : Int32).toNatClampNeg then none else nmI (v3 + ((M 438 (v4 : Int32).toNatClampNeg) * (M 414 (((3 * ((6 * (M 401 18)) + v4)) + v1) : Int32).toNatClampNeg))) (fun x16 => nmI (v4 + 1) (fun x17 => K5 x16 x17))))))
def H_Mod_forceBy_5 (v1 : Int32) (v2 : Int32) (M : gM) : Nat → Int32 → Int32 → Option (Int32 × gM) := lpK (B_Mod_forceBy_5 v1 v2 M) (fun _ _ => none)
set_option maxHeartbeats 4000000 in
set_option maxRecDepth 20000 in
theorem h_Mod_forceBy_5 {l : Launch} {ld : Nat} {Q : Option Value → gM → gL → gR → Prop} (hld : isLa ld)   {q : Int32 × gM} {M : gM} {L : gL} (hQ : Q (some (.int q.1)) q.2 L (rf ld))  {v1 : Int32} {v2 : Int32}  : ∀ (f : Nat) (v3 : Int32) (v4 : Int32), H_Mod_forceBy_5 v1 v2 M f v3 v4 = some q → Wp l y_Mod_forceBy (0, 0, 447) 447 0 0 5 [(0, .ref 401), (1, .int v1), (2, .int v2), (3, .int v3), (4, .int v4)] [] M L (rf ld) Q := by
  intro f
  induction f with
  | zero => intro v3 v4 h; cases h
  | succ f hK5 =>
    intro v3 v4 h
    replace h : B_Mod_forceBy_5 v1 v2 M (H_Mod_forceBy_5 v1 v2 M f) v3 v4 = some q := h
    unfold B_Mod_forceBy_5 at h
    refine g_iload (pc1 := 7) d_Mod_forceBy_5 rfl 4 rfl ?_
    refine g_aload_n (pc1 := 8) d_Mod_forceBy_7 rfl 0 rfl ?_
    refine g_getr (pc1 := 11) d_Mod_forceBy_8 rfl ⟨_, fo_Mod_46⟩ sh_401 (by decide) (rf_401_23 ld) ?_
    refine g_aload_n (pc1 := 12) d_Mod_forceBy_11 rfl 0 rfl ?_
    refine g_geti (pc1 := 15) d_Mod_forceBy_12 rfl ⟨_, fo_Mod_236⟩ sh_401 (by decide) ?_
    obtain ⟨g1, h⟩ := gdn h
    refine g_iald (pc1 := 16) d_Mod_forceBy_15 rfl sh_411 (by decide) g1 ?_
    refine g_icmp_ge (pc1 := 19) (tgt := 55) d_Mod_forceBy_16 (by decide) rfl (fun c2 => ?_) (fun c2 => ?_)
    · replace h := itp h c2
      refine Wp.loc (lv' := [(0, .ref 401), (1, .int v1), (2, .int v2), (3, .int v3)]) [0, 1, 2, 3] rfl ?_
      exact j_Mod_forceBy_55 hld  hQ  h
    · replace h := itn h c2
      refine g_iload_n (pc1 := 20) d_Mod_forceBy_19 rfl 3 rfl ?_
      refine g_aload_n (pc1 := 21) d_Mod_forceBy_20 rfl 0 rfl ?_
      refine g_getr (pc1 := 24) d_Mod_forceBy_21 rfl ⟨_, fo_Mod_128⟩ sh_401 (by decide) (rf_401_55 ld) ?_
      refine g_iload (pc1 := 26) d_Mod_forceBy_24 rfl 4 rfl ?_
      obtain ⟨g14, h⟩ := gdn h
      refine g_iald (pc1 := 27) d_Mod_forceBy_26 rfl sh_438 (by decide) g14 ?_
      refine g_aload_n (pc1 := 28) d_Mod_forceBy_27 rfl 0 rfl ?_
      refine g_getr (pc1 := 31) d_Mod_forceBy_28 rfl ⟨_, fo_Mod_55⟩ sh_401 (by decide) (rf_401_26 ld) ?_
      refine g_iconst (pc1 := 32) (v := 3) d_Mod_forceBy_31 rfl (by decide) ?_
      refine g_bipush (pc1 := 34) (v := 6) d_Mod_forceBy_32 rfl (by decide) ?_
      refine g_aload_n (pc1 := 35) d_Mod_forceBy_34 rfl 0 rfl ?_
      refine g_geti (pc1 := 38) d_Mod_forceBy_35 rfl ⟨_, fo_Mod_236⟩ sh_401 (by decide) ?_
      refine g_imul (pc1 := 39) d_Mod_forceBy_38 rfl ?_
      refine g_iload (pc1 := 41) d_Mod_forceBy_39 rfl 4 rfl ?_
      refine g_iadd (pc1 := 42) d_Mod_forceBy_41 rfl ?_
      refine g_imul (pc1 := 43) d_Mod_forceBy_42 rfl ?_
      refine g_iload_n (pc1 := 44) d_Mod_forceBy_43 rfl 1 rfl ?_
      refine g_iadd (pc1 := 45) d_Mod_forceBy_44 rfl ?_
      obtain ⟨g15, h⟩ := gdn h
      refine g_iald (pc1 := 46) d_Mod_forceBy_45 rfl sh_414 (by decide) g15 ?_
      refine g_imul (pc1 := 47) d_Mod_forceBy_46 rfl ?_
      refine g_iadd (pc1 := 48) d_Mod_forceBy_47 rfl ?_
      refine Wp.lI h (fun x16 h => ?_)
      refine g_istore_n (pc1 := 49) (lv' := [(0, .ref 401), (1, .int v1), (2, .int v2), (3, .int x16), (4, .int v4)]) d_Mod_forceBy_48 rfl rfl (by decide) [1, 2, 3, 0, 4] rfl ?_
      obtain ⟨x17, ex17, h⟩ := ltI h
      refine g_iinc (pc1 := 52) (v := x17) (lv' := [(0, .ref 401), (1, .int v1), (2, .int v2), (3, .int x16), (4, .int x17)]) d_Mod_forceBy_49 rfl 4 rfl (by rw [ex17]; rfl) (by decide) [1, 2, 3, 4, 0] rfl ?_
      refine g_goto (tgt := 5) d_Mod_forceBy_52 (by decide) ?_
      exact hK5 x16 x17 h
def F_Mod_forceBy (p1 : Int32) (p2 : Int32) (M : gM) : Option (Int32 × gM) :=
  H_Mod_forceBy_5 p1 p2 M FU 0 0
set_option maxHeartbeats 4000000 in
set_option maxRecDepth 20000 in
theorem f_Mod_forceBy {l : Launch} {ld : Nat} {M : gM} {L : gL} {Q : Option Value → gM → gL → gR → Prop} (hld : isLa ld) {p1 : Int32} {p2 : Int32}  {q : Int32 × gM} (h : F_Mod_forceBy p1 p2 M = some q) (hQ : Q (some (.int q.1)) q.2 L (rf ld)) : Tm l y_Mod_forceBy (0, 0, 447) 447 [.ref 401, .int p1, .int p2] M L (rf ld) Q := by
  refine Tm.of (by decide) (Nat.le_of_ble_eq_true rfl) ?_
  show Wp l y_Mod_forceBy (0, 0, 447) 447 0 0 0 [(0, .ref 401), (1, .int p1), (2, .int p2)] [] M L (rf ld) Q
  unfold F_Mod_forceBy at h
  refine g_iconst (pc1 := 1) (v := 0) d_Mod_forceBy_0 rfl (by decide) ?_
  refine g_istore_n (pc1 := 2) (lv' := [(0, .ref 401), (1, .int p1), (2, .int p2), (3, .int 0)]) d_Mod_forceBy_1 rfl rfl (by decide) [1, 2, 3, 0] rfl ?_
  refine g_iconst (pc1 := 3) (v := 0) d_Mod_forceBy_2 rfl (by decide) ?_
  refine g_istore (pc1 := 5) (lv' := [(0, .ref 401), (1, .int p1), (2, .int p2), (3, .int 0), (4, .int 0)]) d_Mod_forceBy_3 rfl (by decide) [1, 2, 3, 4, 0] rfl ?_
  exact h_Mod_forceBy_5 hld  hQ  _ 0 0 h

def J_Mod_knownFood_67 (v1 : Int32) (M : gM) (L : gL) : Option (Int32 × gM) :=
  bI (F_Mod_wrong 4 v1 M) (fun M7 => some ((-1), M7))
set_option maxHeartbeats 4000000 in
set_option maxRecDepth 20000 in
theorem j_Mod_knownFood_67 {l : Launch} {ld : Nat} {Q : Option Value → gM → gL → gR → Prop} (hld : isLa ld)   {q : Int32 × gM} {M : gM} {L : gL} (hQ : Q (some (.int q.1)) q.2 L (rf ld))  {v1 : Int32}  (h : J_Mod_knownFood_67 v1 M L = some q) : Wp l y_Mod_knownFood (0, 0, 447) 447 0 0 67 [(0, .ref 401), (1, .int v1)] [] M L (rf ld) Q := by
  unfold J_Mod_knownFood_67 at h
  refine g_aload_n (pc1 := 68) d_Mod_knownFood_67 rfl 0 rfl ?_
  refine g_iconst (pc1 := 69) (v := 4) d_Mod_knownFood_68 rfl (by decide) ?_
  refine g_iload_n (pc1 := 70) d_Mod_knownFood_69 rfl 1 rfl ?_
  refine g_callV0 (pc1 := 73) (As := [.int 4, .int v1]) (rest := []) d_Mod_knownFood_70 rfl mo_Mod_287 mi_Mod_wrong mv_Mod_wrong rfl sh_401 (by decide) (by decide) rfl rfl (Nat.le_of_ble_eq_true rfl) ?_
  obtain ⟨M7, hq6, h⟩ := bnd h
  refine f_Mod_wrong hld  hq6 ?_
  dsimp only [psh]
  refine g_iconst (pc1 := 74) (v := (-1)) d_Mod_knownFood_73 rfl (by decide) ?_
  refine g_ireturn (Or.inl rfl) d_Mod_knownFood_74 rfl ?_
  cases h; exact hQ
def J_Mod_knownFood_61 (K21 : Int32 → Option (Int32 × gM)) (v1 : Int32) (v2 : Int32) (M : gM) (L : gL) : Option (Int32 × gM) :=
  nmI (v2 + 1) (fun x11 => K21 x11)
set_option maxHeartbeats 4000000 in
set_option maxRecDepth 20000 in
theorem j_Mod_knownFood_61 {l : Launch} {ld : Nat} {Q : Option Value → gM → gL → gR → Prop} (hld : isLa ld)   {q : Int32 × gM} {M : gM} {L : gL} (hQ : Q (some (.int q.1)) q.2 L (rf ld)) {K21 : Int32 → Option (Int32 × gM)} {v1 : Int32} {v2 : Int32} (hK21 : ∀ (w2 : Int32), K21 w2 = some q → Wp l y_Mod_knownFood (0, 0, 447) 447 0 0 21 [(0, .ref 401), (1, .int v1), (2, .int w2)] [] M L (rf ld) Q) (h : J_Mod_knownFood_61 K21 v1 v2 M L = some q) : Wp l y_Mod_knownFood (0, 0, 447) 447 0 0 61 [(0, .ref 401), (1, .int v1), (2, .int v2)] [] M L (rf ld) Q := by
  unfold J_Mod_knownFood_61 at h
  obtain ⟨x11, ex11, h⟩ := ltI h
  refine g_iinc (pc1 := 64) (v := x11) (lv' := [(0, .ref 401), (1, .int v1), (2, .int x11)]) d_Mod_knownFood_61 rfl 2 rfl (by rw [ex11]; rfl) (by decide) [1, 2, 0] rfl ?_
  refine g_goto (tgt := 21) d_Mod_knownFood_64 (by decide) ?_
  exact hK21 x11 h
def J_Mod_knownFood_54 (v2 : Int32) (M : gM) (L : gL) : Option (Int32 × gM) :=
  (if (v2 : Int32) < 0 ∨ 21 ≤ (v2 : Int32).toNatClampNeg then none else some ((M 410 (v2 : Int32).toNatClampNeg), M))
set_option maxHeartbeats 4000000 in
set_option maxRecDepth 20000 in
theorem j_Mod_knownFood_54 {l : Launch} {ld : Nat} {Q : Option Value → gM → gL → gR → Prop} (hld : isLa ld)   {q : Int32 × gM} {M : gM} {L : gL} (hQ : Q (some (.int q.1)) q.2 L (rf ld))  {v2 : Int32}  (h : J_Mod_knownFood_54 v2 M L = some q) : Wp l y_Mod_knownFood (0, 0, 447) 447 0 0 54 [(0, .ref 401), (2, .int v2)] [] M L (rf ld) Q := by
  unfold J_Mod_knownFood_54 at h
  refine g_aload_n (pc1 := 55) d_Mod_knownFood_54 rfl 0 rfl ?_
  refine g_getr (pc1 := 58) d_Mod_knownFood_55 rfl ⟨_, fo_Mod_43⟩ sh_401 (by decide) (rf_401_22 ld) ?_
  refine g_iload_n (pc1 := 59) d_Mod_knownFood_58 rfl 1 rfl ?_
  obtain ⟨g14, h⟩ := gdn h
  refine g_iald (pc1 := 60) d_Mod_knownFood_59 rfl sh_410 (by decide) g14 ?_
  refine g_ireturn (Or.inl rfl) d_Mod_knownFood_60 rfl ?_
  cases h; exact hQ
def B_Mod_knownFood_21 (v1 : Int32) (M : gM) (L : gL) (K21 : Int32 → Option (Int32 × gM)) : Int32 → Option (Int32 × gM) := fun v2 =>
  (if (M 401 20) ≤ v2 then J_Mod_knownFood_67 v1 M L else (if (v2 : Int32) < 0 ∨ 21 ≤ (v2 : Int32).toNatClampNeg then none else (if (v1 : Int32) < 0 ∨ 403 ≤ (v1 : Int32).toNatClampNeg then none else (if (lg_cmp (L 409 (v2 : Int32).toNatClampNeg) (L 407 (v1 : Int32).toNatClampNeg)) = 0 then (if (v2 : Int32) < 0 ∨ 21 ≤ (v2 : Int32).toNatClampNeg then none else (if (M 410 (v2 : Int32).toNatClampNeg) < 0 then J_Mod_knownFood_61 K21 v1 v2 M L else J_Mod_knownFood_54 v2 M L)) else J_Mod_knownFood_61 K21 v1 v2 M L))))
def H_Mod_knownFood_21 (v1 : Int32) (M : gM) (L : gL) : Nat → Int32 → Option (Int32 × gM) := lpK (B_Mod_knownFood_21 v1 M L) (fun _ => none)
set_option maxHeartbeats 4000000 in
set_option maxRecDepth 20000 in
theorem h_Mod_knownFood_21 {l : Launch} {ld : Nat} {Q : Option Value → gM → gL → gR → Prop} (hld : isLa ld)   {q : Int32 × gM} {M : gM} {L : gL} (hQ : Q (some (.int q.1)) q.2 L (rf ld))  {v1 : Int32}  : ∀ (f : Nat) (v2 : Int32), H_Mod_knownFood_21 v1 M L f v2 = some q → Wp l y_Mod_knownFood (0, 0, 447) 447 0 0 21 [(0, .ref 401), (1, .int v1), (2, .int v2)] [] M L (rf ld) Q := by
  intro f
  induction f with
  | zero => intro v2 h; cases h
  | succ f hK21 =>
    intro v2 h
    replace h : B_Mod_knownFood_21 v1 M L (H_Mod_knownFood_21 v1 M L f) v2 = some q := h
    unfold B_Mod_knownFood_21 at h
    refine g_iload_n (pc1 := 22) d_Mod_knownFood_21 rfl 2 rfl ?_
    refine g_aload_n (pc1 := 23) d_Mod_knownFood_22 rfl 0 rfl ?_
    refine g_geti (pc1 := 26) d_Mod_knownFood_23 rfl ⟨_, fo_Mod_242⟩ sh_401 (by decide) ?_
    refine g_icmp_ge (pc1 := 29) (tgt := 67) d_Mod_knownFood_26 (by decide) rfl (fun c5 => ?_) (fun c5 => ?_)
    · replace h := itp h c5
      refine Wp.loc (lv' := [(0, .ref 401), (1, .int v1)]) [0, 1] rfl ?_
      exact j_Mod_knownFood_67 hld  hQ  h
    · replace h := itn h c5
      refine g_aload_n (pc1 := 30) d_Mod_knownFood_29 rfl 0 rfl ?_
      refine g_getr (pc1 := 33) d_Mod_knownFood_30 rfl ⟨_, fo_Mod_40⟩ sh_401 (by decide) (rf_401_21 ld) ?_
      refine g_iload_n (pc1 := 34) d_Mod_knownFood_33 rfl 2 rfl ?_
      obtain ⟨g8, h⟩ := gdn h
      refine g_lald (pc1 := 35) d_Mod_knownFood_34 rfl sh_409 (by decide) g8 ?_
      refine g_aload_n (pc1 := 36) d_Mod_knownFood_35 rfl 0 rfl ?_
      refine g_getr (pc1 := 39) d_Mod_knownFood_36 rfl ⟨_, fo_Mod_30⟩ sh_401 (by decide) (rf_401_8 ld) ?_
      refine g_iload_n (pc1 := 40) d_Mod_knownFood_39 rfl 1 rfl ?_
      obtain ⟨g9, h⟩ := gdn h
      refine g_lald (pc1 := 41) d_Mod_knownFood_40 rfl sh_407 (by decide) g9 ?_
      refine g_lcmp (pc1 := 42) d_Mod_knownFood_41 rfl ?_
      refine g_if_ne (pc1 := 45) (tgt := 61) d_Mod_knownFood_42 (by decide) rfl (fun c10 => ?_) (fun c10 => ?_)
      · replace h := itn h c10
        exact j_Mod_knownFood_61 hld  hQ hK21 h
      · replace h := itp h c10
        refine g_aload_n (pc1 := 46) d_Mod_knownFood_45 rfl 0 rfl ?_
        refine g_getr (pc1 := 49) d_Mod_knownFood_46 rfl ⟨_, fo_Mod_43⟩ sh_401 (by decide) (rf_401_22 ld) ?_
        refine g_iload_n (pc1 := 50) d_Mod_knownFood_49 rfl 2 rfl ?_
        obtain ⟨g12, h⟩ := gdn h
        refine g_iald (pc1 := 51) d_Mod_knownFood_50 rfl sh_410 (by decide) g12 ?_
        refine g_if_lt (pc1 := 54) (tgt := 61) d_Mod_knownFood_51 (by decide) rfl (fun c13 => ?_) (fun c13 => ?_)
        · replace h := itp h c13
          exact j_Mod_knownFood_61 hld  hQ hK21 h
        · replace h := itn h c13
          refine Wp.loc (lv' := [(0, .ref 401), (2, .int v2)]) [0, 2] rfl ?_
          exact j_Mod_knownFood_54 hld  hQ  h
def F_Mod_knownFood (M : gM) (L : gL) : Option (Int32 × gM) :=
  nmI (M 401 11) (fun x1 => bI (F_Mod_must 1 M) (fun M3 => (if (M3 401 13) ≤ 0 then H_Mod_knownFood_21 x1 M3 L FU 0 else some ((-1), M3))))
set_option maxHeartbeats 4000000 in
set_option maxRecDepth 20000 in
theorem f_Mod_knownFood {l : Launch} {ld : Nat} {M : gM} {L : gL} {Q : Option Value → gM → gL → gR → Prop} (hld : isLa ld)   {q : Int32 × gM} (h : F_Mod_knownFood M L = some q) (hQ : Q (some (.int q.1)) q.2 L (rf ld)) : Tm l y_Mod_knownFood (0, 0, 447) 447 [.ref 401] M L (rf ld) Q := by
  refine Tm.of (by decide) (Nat.le_of_ble_eq_true rfl) ?_
  show Wp l y_Mod_knownFood (0, 0, 447) 447 0 0 0 [(0, .ref 401)] [] M L (rf ld) Q
  unfold F_Mod_knownFood at h
  refine g_aload_n (pc1 := 1) d_Mod_knownFood_0 rfl 0 rfl ?_
  refine g_geti (pc1 := 4) d_Mod_knownFood_1 rfl ⟨_, fo_Mod_209⟩ sh_401 (by decide) ?_
  refine Wp.lI h (fun x1 h => ?_)
  refine g_istore_n (pc1 := 5) (lv' := [(0, .ref 401), (1, .int x1)]) d_Mod_knownFood_4 rfl rfl (by decide) [1, 0] rfl ?_
  refine g_aload_n (pc1 := 6) d_Mod_knownFood_5 rfl 0 rfl ?_
  refine g_iconst (pc1 := 7) (v := 1) d_Mod_knownFood_6 rfl (by decide) ?_
  refine g_callV0 (pc1 := 10) (As := [.int 1]) (rest := []) d_Mod_knownFood_7 rfl mo_Mod_281 mi_Mod_must mv_Mod_must rfl sh_401 (by decide) (by decide) rfl rfl (Nat.le_of_ble_eq_true rfl) ?_
  obtain ⟨M3, hq2, h⟩ := bnd h
  refine f_Mod_must hld  hq2 ?_
  dsimp only [psh]
  refine g_aload_n (pc1 := 11) d_Mod_knownFood_10 rfl 0 rfl ?_
  refine g_geti (pc1 := 14) d_Mod_knownFood_11 rfl ⟨_, fo_Mod_206⟩ sh_401 (by decide) ?_
  refine g_if_le (pc1 := 17) (tgt := 19) d_Mod_knownFood_14 (by decide) rfl (fun c4 => ?_) (fun c4 => ?_)
  · replace h := itp h c4
    refine g_iconst (pc1 := 20) (v := 0) d_Mod_knownFood_19 rfl (by decide) ?_
    refine g_istore_n (pc1 := 21) (lv' := [(0, .ref 401), (1, .int x1), (2, .int 0)]) d_Mod_knownFood_20 rfl rfl (by decide) [1, 2, 0] rfl ?_
    exact h_Mod_knownFood_21 hld  hQ  _ 0 h
  · replace h := itn h c4
    refine g_iconst (pc1 := 18) (v := (-1)) d_Mod_knownFood_17 rfl (by decide) ?_
    refine g_ireturn (Or.inl rfl) d_Mod_knownFood_18 rfl ?_
    cases h; exact hQ

def J_Mod_named_49 (K12 : Int32 → gM → Option (Int32 × gM)) (v1 : Int32) (v2 : Int32) (M : gM) (L : gL) : Option (Int32 × gM) :=
  nmI (v2 + 1) (fun x9 => K12 x9 M)
set_option maxHeartbeats 4000000 in
set_option maxRecDepth 20000 in
theorem j_Mod_named_49 {l : Launch} {ld : Nat} {Q : Option Value → gM → gL → gR → Prop} (hld : isLa ld)   {q : Int32 × gM} {M : gM} {L : gL} (hQ : Q (some (.int q.1)) q.2 L (rf ld)) {K12 : Int32 → gM → Option (Int32 × gM)} {v1 : Int32} {v2 : Int32} (hK12 : ∀ (w2 : Int32) (M : gM), K12 w2 M = some q → Wp l y_Mod_named (0, 0, 447) 447 0 0 12 [(0, .ref 401), (1, .int v1), (2, .int w2)] [] M L (rf ld) Q) (h : J_Mod_named_49 K12 v1 v2 M L = some q) : Wp l y_Mod_named (0, 0, 447) 447 0 0 49 [(0, .ref 401), (1, .int v1), (2, .int v2)] [] M L (rf ld) Q := by
  unfold J_Mod_named_49 at h
  obtain ⟨x9, ex9, h⟩ := ltI h
  refine g_iinc (pc1 := 52) (v := x9) (lv' := [(0, .ref 401), (1, .int v1), (2, .int x9)]) d_Mod_named_49 rfl 2 rfl (by rw [ex9]; rfl) (by decide) [1, 2, 0] rfl ?_
  refine g_goto (tgt := 12) d_Mod_named_52 (by decide) ?_
  exact hK12 x9 M h
def B_Mod_named_12 (v1 : Int32) (L : gL) (K12 : Int32 → gM → Option (Int32 × gM)) : Int32 → gM → Option (Int32 × gM) := fun v2 M =>
  (if (M 401 20) ≤ v2 then some (v1, M) else (if (M 401 13) = 0 then (if (v2 : Int32) < 0 ∨ 21 ≤ (v2 : Int32).toNatClampNeg then none else (if (v1 : Int32) < 0 ∨ 403 ≤ (v1 : Int32).toNatClampNeg then none else (if (lg_cmp (L 409 (v2 : Int32).toNatClampNeg) (L 407 (v1 : Int32).toNatClampNeg)) = 0 then bI (F_Mod_wrong 3 v1 M) (fun M11 => J_Mod_named_49 K12 v1 v2 M11 L) else J_Mod_named_49 K12 v1 v2 M L))) else some (v1, M)))
def H_Mod_named_12 (v1 : Int32) (L : gL) : Nat → Int32 → gM → Option (Int32 × gM) := lpK (B_Mod_named_12 v1 L) (fun _ _ => none)
set_option maxHeartbeats 4000000 in
set_option maxRecDepth 20000 in
theorem h_Mod_named_12 {l : Launch} {ld : Nat} {Q : Option Value → gM → gL → gR → Prop} (hld : isLa ld)   {q : Int32 × gM} {L : gL} (hQ : Q (some (.int q.1)) q.2 L (rf ld))  {v1 : Int32}  : ∀ (f : Nat) (v2 : Int32) (M : gM), H_Mod_named_12 v1 L f v2 M = some q → Wp l y_Mod_named (0, 0, 447) 447 0 0 12 [(0, .ref 401), (1, .int v1), (2, .int v2)] [] M L (rf ld) Q := by
  intro f
  induction f with
  | zero => intro v2 M h; cases h
  | succ f hK12 =>
    intro v2 M h
    replace h : B_Mod_named_12 v1 L (H_Mod_named_12 v1 L f) v2 M = some q := h
    unfold B_Mod_named_12 at h
    refine g_iload_n (pc1 := 13) d_Mod_named_12 rfl 2 rfl ?_
    refine g_aload_n (pc1 := 14) d_Mod_named_13 rfl 0 rfl ?_
    refine g_geti (pc1 := 17) d_Mod_named_14 rfl ⟨_, fo_Mod_242⟩ sh_401 (by decide) ?_
    refine g_icmp_ge (pc1 := 20) (tgt := 55) d_Mod_named_17 (by decide) rfl (fun c4 => ?_) (fun c4 => ?_)
    · replace h := itp h c4
      refine g_iload_n (pc1 := 56) d_Mod_named_55 rfl 1 rfl ?_
      refine g_ireturn (Or.inl rfl) d_Mod_named_56 rfl ?_
      cases h; exact hQ
    · replace h := itn h c4
      refine g_aload_n (pc1 := 21) d_Mod_named_20 rfl 0 rfl ?_
      refine g_geti (pc1 := 24) d_Mod_named_21 rfl ⟨_, fo_Mod_206⟩ sh_401 (by decide) ?_
      refine g_if_ne (pc1 := 27) (tgt := 55) d_Mod_named_24 (by decide) rfl (fun c5 => ?_) (fun c5 => ?_)
      · replace h := itn h c5
        refine g_iload_n (pc1 := 56) d_Mod_named_55 rfl 1 rfl ?_
        refine g_ireturn (Or.inl rfl) d_Mod_named_56 rfl ?_
        cases h; exact hQ
      · replace h := itp h c5
        refine g_aload_n (pc1 := 28) d_Mod_named_27 rfl 0 rfl ?_
        refine g_getr (pc1 := 31) d_Mod_named_28 rfl ⟨_, fo_Mod_40⟩ sh_401 (by decide) (rf_401_21 ld) ?_
        refine g_iload_n (pc1 := 32) d_Mod_named_31 rfl 2 rfl ?_
        obtain ⟨g6, h⟩ := gdn h
        refine g_lald (pc1 := 33) d_Mod_named_32 rfl sh_409 (by decide) g6 ?_
        refine g_aload_n (pc1 := 34) d_Mod_named_33 rfl 0 rfl ?_
        refine g_getr (pc1 := 37) d_Mod_named_34 rfl ⟨_, fo_Mod_30⟩ sh_401 (by decide) (rf_401_8 ld) ?_
        refine g_iload_n (pc1 := 38) d_Mod_named_37 rfl 1 rfl ?_
        obtain ⟨g7, h⟩ := gdn h
        refine g_lald (pc1 := 39) d_Mod_named_38 rfl sh_407 (by decide) g7 ?_
        refine g_lcmp (pc1 := 40) d_Mod_named_39 rfl ?_
        refine g_if_ne (pc1 := 43) (tgt := 49) d_Mod_named_40 (by decide) rfl (fun c8 => ?_) (fun c8 => ?_)
        · replace h := itn h c8
          exact j_Mod_named_49 hld  hQ hK12 h
        · replace h := itp h c8
          refine g_aload_n (pc1 := 44) d_Mod_named_43 rfl 0 rfl ?_
          refine g_iconst (pc1 := 45) (v := 3) d_Mod_named_44 rfl (by decide) ?_
          refine g_iload_n (pc1 := 46) d_Mod_named_45 rfl 1 rfl ?_
          refine g_callV0 (pc1 := 49) (As := [.int 3, .int v1]) (rest := []) d_Mod_named_46 rfl mo_Mod_287 mi_Mod_wrong mv_Mod_wrong rfl sh_401 (by decide) (by decide) rfl rfl (Nat.le_of_ble_eq_true rfl) ?_
          obtain ⟨M11, hq10, h⟩ := bnd h
          refine f_Mod_wrong hld  hq10 ?_
          dsimp only [psh]
          exact j_Mod_named_49 hld  hQ hK12 h
def F_Mod_named (M : gM) (L : gL) : Option (Int32 × gM) :=
  nmI (M 401 11) (fun x1 => bI (F_Mod_must 1 M) (fun M3 => H_Mod_named_12 x1 L FU 0 M3))
set_option maxHeartbeats 4000000 in
set_option maxRecDepth 20000 in
theorem f_Mod_named {l : Launch} {ld : Nat} {M : gM} {L : gL} {Q : Option Value → gM → gL → gR → Prop} (hld : isLa ld)   {q : Int32 × gM} (h : F_Mod_named M L = some q) (hQ : Q (some (.int q.1)) q.2 L (rf ld)) : Tm l y_Mod_named (0, 0, 447) 447 [.ref 401] M L (rf ld) Q := by
  refine Tm.of (by decide) (Nat.le_of_ble_eq_true rfl) ?_
  show Wp l y_Mod_named (0, 0, 447) 447 0 0 0 [(0, .ref 401)] [] M L (rf ld) Q
  unfold F_Mod_named at h
  refine g_aload_n (pc1 := 1) d_Mod_named_0 rfl 0 rfl ?_
  refine g_geti (pc1 := 4) d_Mod_named_1 rfl ⟨_, fo_Mod_209⟩ sh_401 (by decide) ?_
  refine Wp.lI h (fun x1 h => ?_)
  refine g_istore_n (pc1 := 5) (lv' := [(0, .ref 401), (1, .int x1)]) d_Mod_named_4 rfl rfl (by decide) [1, 0] rfl ?_
  refine g_aload_n (pc1 := 6) d_Mod_named_5 rfl 0 rfl ?_
  refine g_iconst (pc1 := 7) (v := 1) d_Mod_named_6 rfl (by decide) ?_
  refine g_callV0 (pc1 := 10) (As := [.int 1]) (rest := []) d_Mod_named_7 rfl mo_Mod_281 mi_Mod_must mv_Mod_must rfl sh_401 (by decide) (by decide) rfl rfl (Nat.le_of_ble_eq_true rfl) ?_
  obtain ⟨M3, hq2, h⟩ := bnd h
  refine f_Mod_must hld  hq2 ?_
  dsimp only [psh]
  refine g_iconst (pc1 := 11) (v := 0) d_Mod_named_10 rfl (by decide) ?_
  refine g_istore_n (pc1 := 12) (lv' := [(0, .ref 401), (1, .int x1), (2, .int 0)]) d_Mod_named_11 rfl rfl (by decide) [1, 2, 0] rfl ?_
  exact h_Mod_named_12 hld  hQ  _ 0 M3 h

def F_Mod_boundNow (p1 : Int32) (p2 : Int32) (M : gM) : Option (Int32 × gM) :=
  (if ((15 + p1) : Int32) < 0 ∨ 38 ≤ ((15 + p1) : Int32).toNatClampNeg then none else (if 0 ≤ (M 437 ((15 + p1) : Int32).toNatClampNeg) then (if (((19 + (3 * p1)) + p2) : Int32) < 0 ∨ 38 ≤ (((19 + (3 * p1)) + p2) : Int32).toNatClampNeg then none else (if ((15 + p1) : Int32) < 0 ∨ 38 ≤ ((15 + p1) : Int32).toNatClampNeg then none else bI2 (F_Mod_boundBy p1 p2 (M 437 (((19 + (3 * p1)) + p2) : Int32).toNatClampNeg) ((M 437 35) - (M 437 ((15 + p1) : Int32).toNatClampNeg)) M) (fun r6 M7 => some (r6, M7)))) else some (0, M)))
set_option maxHeartbeats 4000000 in
set_option maxRecDepth 20000 in
theorem f_Mod_boundNow {l : Launch} {ld : Nat} {M : gM} {L : gL} {Q : Option Value → gM → gL → gR → Prop} (hld : isLa ld) {p1 : Int32} {p2 : Int32}  {q : Int32 × gM} (h : F_Mod_boundNow p1 p2 M = some q) (hQ : Q (some (.int q.1)) q.2 L (rf ld)) : Tm l y_Mod_boundNow (0, 0, 447) 447 [.ref 401, .int p1, .int p2] M L (rf ld) Q := by
  refine Tm.of (by decide) (Nat.le_of_ble_eq_true rfl) ?_
  show Wp l y_Mod_boundNow (0, 0, 447) 447 0 0 0 [(0, .ref 401), (1, .int p1), (2, .int p2)] [] M L (rf ld) Q
  unfold F_Mod_boundNow at h
  refine g_aload_n (pc1 := 1) d_Mod_boundNow_0 rfl 0 rfl ?_
  refine g_getr (pc1 := 4) d_Mod_boundNow_1 rfl ⟨_, fo_Mod_125⟩ sh_401 (by decide) (rf_401_53 ld) ?_
  refine g_bipush (pc1 := 6) (v := 15) d_Mod_boundNow_4 rfl (by decide) ?_
  refine g_iload_n (pc1 := 7) d_Mod_boundNow_6 rfl 1 rfl ?_
  refine g_iadd (pc1 := 8) d_Mod_boundNow_7 rfl ?_
  obtain ⟨g1, h⟩ := gdn h
  refine g_iald (pc1 := 9) d_Mod_boundNow_8 rfl sh_437 (by decide) g1 ?_
  refine g_if_ge (pc1 := 12) (tgt := 16) d_Mod_boundNow_9 (by decide) rfl (fun c2 => ?_) (fun c2 => ?_)
  · replace h := itp h c2
    refine g_aload_n (pc1 := 17) d_Mod_boundNow_16 rfl 0 rfl ?_
    refine g_iload_n (pc1 := 18) d_Mod_boundNow_17 rfl 1 rfl ?_
    refine g_iload_n (pc1 := 19) d_Mod_boundNow_18 rfl 2 rfl ?_
    refine g_aload_n (pc1 := 20) d_Mod_boundNow_19 rfl 0 rfl ?_
    refine g_getr (pc1 := 23) d_Mod_boundNow_20 rfl ⟨_, fo_Mod_125⟩ sh_401 (by decide) (rf_401_53 ld) ?_
    refine g_bipush (pc1 := 25) (v := 19) d_Mod_boundNow_23 rfl (by decide) ?_
    refine g_iconst (pc1 := 26) (v := 3) d_Mod_boundNow_25 rfl (by decide) ?_
    refine g_iload_n (pc1 := 27) d_Mod_boundNow_26 rfl 1 rfl ?_
    refine g_imul (pc1 := 28) d_Mod_boundNow_27 rfl ?_
    refine g_iadd (pc1 := 29) d_Mod_boundNow_28 rfl ?_
    refine g_iload_n (pc1 := 30) d_Mod_boundNow_29 rfl 2 rfl ?_
    refine g_iadd (pc1 := 31) d_Mod_boundNow_30 rfl ?_
    obtain ⟨g3, h⟩ := gdn h
    refine g_iald (pc1 := 32) d_Mod_boundNow_31 rfl sh_437 (by decide) g3 ?_
    refine g_aload_n (pc1 := 33) d_Mod_boundNow_32 rfl 0 rfl ?_
    refine g_getr (pc1 := 36) d_Mod_boundNow_33 rfl ⟨_, fo_Mod_125⟩ sh_401 (by decide) (rf_401_53 ld) ?_
    refine g_bipush (pc1 := 38) (v := 35) d_Mod_boundNow_36 rfl (by decide) ?_
    refine g_iald (pc1 := 39) d_Mod_boundNow_38 rfl sh_437 (by decide) (vin_lit (x := 35) (by decide)) ?_
    refine Wp.vali (y := (M 437 35)) (congrArg (M 437) (by decide)) ?_
    refine g_aload_n (pc1 := 40) d_Mod_boundNow_39 rfl 0 rfl ?_
    refine g_getr (pc1 := 43) d_Mod_boundNow_40 rfl ⟨_, fo_Mod_125⟩ sh_401 (by decide) (rf_401_53 ld) ?_
    refine g_bipush (pc1 := 45) (v := 15) d_Mod_boundNow_43 rfl (by decide) ?_
    refine g_iload_n (pc1 := 46) d_Mod_boundNow_45 rfl 1 rfl ?_
    refine g_iadd (pc1 := 47) d_Mod_boundNow_46 rfl ?_
    obtain ⟨g4, h⟩ := gdn h
    refine g_iald (pc1 := 48) d_Mod_boundNow_47 rfl sh_437 (by decide) g4 ?_
    refine g_isub (pc1 := 49) d_Mod_boundNow_48 rfl ?_
    refine g_callV0 (pc1 := 52) (As := [.int p1, .int p2, .int (M 437 (((19 + (3 * p1)) + p2) : Int32).toNatClampNeg), .int ((M 437 35) - (M 437 ((15 + p1) : Int32).toNatClampNeg))]) (rest := []) d_Mod_boundNow_49 rfl mo_Mod_346 mi_Mod_boundBy mv_Mod_boundBy rfl sh_401 (by decide) (by decide) rfl rfl (Nat.le_of_ble_eq_true rfl) ?_
    obtain ⟨r6, M7, hq5, h⟩ := bnd2 h
    refine f_Mod_boundBy hld  hq5 ?_
    dsimp only [psh]
    refine g_ireturn (Or.inl rfl) d_Mod_boundNow_52 rfl ?_
    cases h; exact hQ
  · replace h := itn h c2
    refine g_iconst (pc1 := 13) (v := 0) d_Mod_boundNow_12 rfl (by decide) ?_
    refine g_goto (tgt := 52) d_Mod_boundNow_13 (by decide) ?_
    refine g_ireturn (Or.inl rfl) d_Mod_boundNow_52 rfl ?_
    cases h; exact hQ

def J_Mod_cooks_227 (v1 : Int32) (v3 : Int32) (M : gM) : Option (Int32 × gM) :=
  (if ((6 + v1) : Int32) < 0 ∨ 38 ≤ ((6 + v1) : Int32).toNatClampNeg then none else (if ((6 + v1) : Int32) < 0 ∨ 38 ≤ ((6 + v1) : Int32).toNatClampNeg then none else nmM (uM M 437 ((6 + v1) : Int32).toNatClampNeg ((M 437 ((6 + v1) : Int32).toNatClampNeg) + 1)) (fun M28 => nmM (uM M28 437 37 ((M28 437 37) + 1)) (fun M29 => some (v3, M29)))))
set_option maxHeartbeats 4000000 in
set_option maxRecDepth 20000 in
theorem j_Mod_cooks_227 {l : Launch} {ld : Nat} {Q : Option Value → gM → gL → gR → Prop} (hld : isLa ld)   {q : Int32 × gM} {M : gM} {L : gL} (hQ : Q (some (.int q.1)) q.2 L (rf ld))  {v1 : Int32} {v3 : Int32}  (h : J_Mod_cooks_227 v1 v3 M = some q) : Wp l y_Mod_cooks (0, 0, 447) 447 0 0 227 [(0, .ref 401), (1, .int v1), (3, .int v3)] [] M L (rf ld) Q := by
  unfold J_Mod_cooks_227 at h
  refine g_aload_n (pc1 := 228) d_Mod_cooks_227 rfl 0 rfl ?_
  refine g_getr (pc1 := 231) d_Mod_cooks_228 rfl ⟨_, fo_Mod_125⟩ sh_401 (by decide) (rf_401_53 ld) ?_
  refine g_bipush (pc1 := 233) (v := 6) d_Mod_cooks_231 rfl (by decide) ?_
  refine g_iload_n (pc1 := 234) d_Mod_cooks_233 rfl 1 rfl ?_
  refine g_iadd (pc1 := 235) d_Mod_cooks_234 rfl ?_
  refine g_dup2 (pc1 := 236) d_Mod_cooks_235 rfl rfl rfl ?_
  obtain ⟨g26, h⟩ := gdn h
  refine g_iald (pc1 := 237) d_Mod_cooks_236 rfl sh_437 (by decide) g26 ?_
  refine g_iconst (pc1 := 238) (v := 1) d_Mod_cooks_237 rfl (by decide) ?_
  refine g_iadd (pc1 := 239) d_Mod_cooks_238 rfl ?_
  obtain ⟨g27, h⟩ := gdn h
  refine g_iast (pc1 := 240) d_Mod_cooks_239 rfl sh_437 (by decide) g27 ?_
  refine Wp.lM h (fun M28 h => ?_)
  refine g_aload_n (pc1 := 241) d_Mod_cooks_240 rfl 0 rfl ?_
  refine g_getr (pc1 := 244) d_Mod_cooks_241 rfl ⟨_, fo_Mod_125⟩ sh_401 (by decide) (rf_401_53 ld) ?_
  refine g_bipush (pc1 := 246) (v := 37) d_Mod_cooks_244 rfl (by decide) ?_
  refine g_dup2 (pc1 := 247) d_Mod_cooks_246 rfl rfl rfl ?_
  refine g_iald (pc1 := 248) d_Mod_cooks_247 rfl sh_437 (by decide) (vin_lit (x := 37) (by decide)) ?_
  refine Wp.vali (y := (M28 437 37)) (congrArg (M28 437) (by decide)) ?_
  refine g_iconst (pc1 := 249) (v := 1) d_Mod_cooks_248 rfl (by decide) ?_
  refine g_iadd (pc1 := 250) d_Mod_cooks_249 rfl ?_
  refine g_iast (pc1 := 251) d_Mod_cooks_250 rfl sh_437 (by decide) (vin_lit (x := 37) (by decide)) ?_
  refine Wp.eqM (M' := uM M28 437 37 ((M28 437 37) + 1)) (congrArg (fun z => uM M28 437 z ((M28 437 37) + 1)) (by decide)) ?_
  refine Wp.lM h (fun M29 h => ?_)
  refine g_iload_n (pc1 := 252) d_Mod_cooks_251 rfl 2 rfl ?_
  refine g_ireturn (Or.inl rfl) d_Mod_cooks_252 rfl ?_
  cases h; exact hQ
def B_Mod_cooks_198 (v1 : Int32) (v2 : Int32) (v3 : Int32) (K198 : Int32 → gM → Option (Int32 × gM)) : Int32 → gM → Option (Int32 × gM) := fun v4 M =>
  (if 3 ≤ v4 then J_Mod_cooks_227 v1 v3 M else bI2 (F_Mod_forceBy v4 v2 M) (fun r31 M32 => (if ((12 + v4) : Int32) < 0 ∨ 38 ≤ ((12 + v4) : Int32).toNatClampNeg then none else nmM (uM M32 437 ((12 + v4) : Int32).toNatClampNeg r31) (fun M34 => nmI (v4 + 1) (fun x35 => K198 x35 M34)))))
def H_Mod_cooks_198 (v1 : Int32) (v2 : Int32) (v3 : Int32) : Nat → Int32 → gM → Option (Int32 × gM) := lpK (B_Mod_cooks_198 v1 v2 v3) (fun _ _ => none)
set_option maxHeartbeats 4000000 in
set_option maxRecDepth 20000 in
theorem h_Mod_cooks_198 {l : Launch} {ld : Nat} {Q : Option Value → gM → gL → gR → Prop} (hld : isLa ld)   {q : Int32 × gM} {L : gL} (hQ : Q (some (.int q.1)) q.2 L (rf ld))  {v1 : Int32} {v2 : Int32} {v3 : Int32}  : ∀ (f : Nat) (v4 : Int32) (M : gM), H_Mod_cooks_198 v1 v2 v3 f v4 M = some q → Wp l y_Mod_cooks (0, 0, 447) 447 0 0 198 [(0, .ref 401), (1, .int v1), (2, .int v2), (3, .int v3), (4, .int v4)] [] M L (rf ld) Q := by
  intro f
  induction f with
  | zero => intro v4 M h; cases h
  | succ f hK198 =>
    intro v4 M h
    replace h : B_Mod_cooks_198 v1 v2 v3 (H_Mod_cooks_198 v1 v2 v3 f) v4 M = some q := h
    unfold B_Mod_cooks_198 at h
    refine g_iload (pc1 := 200) d_Mod_cooks_198 rfl 4 rfl ?_
    refine g_iconst (pc1 := 201) (v := 3) d_Mod_cooks_200 rfl (by decide) ?_
    refine g_icmp_ge (pc1 := 204) (tgt := 227) d_Mod_cooks_201 (by decide) rfl (fun c25 => ?_) (fun c25 => ?_)
    · replace h := itp h c25
      refine Wp.loc (lv' := [(0, .ref 401), (1, .int v1), (3, .int v3)]) [0, 1, 3] rfl ?_
      exact j_Mod_cooks_227 hld  hQ  h
    · replace h := itn h c25
      refine g_aload_n (pc1 := 205) d_Mod_cooks_204 rfl 0 rfl ?_
      refine g_getr (pc1 := 208) d_Mod_cooks_205 rfl ⟨_, fo_Mod_125⟩ sh_401 (by decide) (rf_401_53 ld) ?_
      refine g_bipush (pc1 := 210) (v := 12) d_Mod_cooks_208 rfl (by decide) ?_
      refine g_iload (pc1 := 212) d_Mod_cooks_210 rfl 4 rfl ?_
      refine g_iadd (pc1 := 213) d_Mod_cooks_212 rfl ?_
      refine g_aload_n (pc1 := 214) d_Mod_cooks_213 rfl 0 rfl ?_
      refine g_iload (pc1 := 216) d_Mod_cooks_214 rfl 4 rfl ?_
      refine g_iload_n (pc1 := 217) d_Mod_cooks_216 rfl 2 rfl ?_
      refine g_callV0 (pc1 := 220) (As := [.int v4, .int v2]) (rest := [.int (12 + v4), .ref 437]) d_Mod_cooks_217 rfl mo_Mod_359 mi_Mod_forceBy mv_Mod_forceBy rfl sh_401 (by decide) (by decide) rfl rfl (Nat.le_of_ble_eq_true rfl) ?_
      obtain ⟨r31, M32, hq30, h⟩ := bnd2 h
      refine f_Mod_forceBy hld  hq30 ?_
      dsimp only [psh]
      obtain ⟨g33, h⟩ := gdn h
      refine g_iast (pc1 := 221) d_Mod_cooks_220 rfl sh_437 (by decide) g33 ?_
      refine Wp.lM h (fun M34 h => ?_)
      obtain ⟨x35, ex35, h⟩ := ltI h
      refine g_iinc (pc1 := 224) (v := x35) (lv' := [(0, .ref 401), (1, .int v1), (2, .int v2), (3, .int v3), (4, .int x35)]) d_Mod_cooks_221 rfl 4 rfl (by rw [ex35]; rfl) (by decide) [1, 2, 3, 4, 0] rfl ?_
      refine g_goto (tgt := 198) d_Mod_cooks_224 (by decide) ?_
      exact hK198 x35 M34 h
def J_Mod_cooks_187 (v1 : Int32) (v2 : Int32) (v3 : Int32) (M : gM) : Option (Int32 × gM) :=
  nmM (uM M 437 11 v1) (fun M24 => H_Mod_cooks_198 v1 v2 v3 FU 0 M24)
set_option maxHeartbeats 4000000 in
set_option maxRecDepth 20000 in
theorem j_Mod_cooks_187 {l : Launch} {ld : Nat} {Q : Option Value → gM → gL → gR → Prop} (hld : isLa ld)   {q : Int32 × gM} {M : gM} {L : gL} (hQ : Q (some (.int q.1)) q.2 L (rf ld))  {v1 : Int32} {v2 : Int32} {v3 : Int32}  (h : J_Mod_cooks_187 v1 v2 v3 M = some q) : Wp l y_Mod_cooks (0, 0, 447) 447 0 0 187 [(0, .ref 401), (1, .int v1), (2, .int v2), (3, .int v3)] [] M L (rf ld) Q := by
  unfold J_Mod_cooks_187 at h
  refine g_aload_n (pc1 := 188) d_Mod_cooks_187 rfl 0 rfl ?_
  refine g_getr (pc1 := 191) d_Mod_cooks_188 rfl ⟨_, fo_Mod_125⟩ sh_401 (by decide) (rf_401_53 ld) ?_
  refine g_bipush (pc1 := 193) (v := 11) d_Mod_cooks_191 rfl (by decide) ?_
  refine g_iload_n (pc1 := 194) d_Mod_cooks_193 rfl 1 rfl ?_
  refine g_iast (pc1 := 195) d_Mod_cooks_194 rfl sh_437 (by decide) (vin_lit (x := 11) (by decide)) ?_
  refine Wp.eqM (M' := uM M 437 11 v1) (congrArg (fun z => uM M 437 z v1) (by decide)) ?_
  refine Wp.lM h (fun M24 h => ?_)
  refine g_iconst (pc1 := 196) (v := 0) d_Mod_cooks_195 rfl (by decide) ?_
  refine g_istore (pc1 := 198) (lv' := [(0, .ref 401), (1, .int v1), (2, .int v2), (3, .int v3), (4, .int 0)]) d_Mod_cooks_196 rfl (by decide) [1, 2, 3, 4, 0] rfl ?_
  exact h_Mod_cooks_198 hld  hQ  _ 0 M24 h
def J_Mod_cooks_163 (v1 : Int32) (v2 : Int32) (v3 : Int32) (M : gM) : Option (Int32 × gM) :=
  (if v3 < 0 then J_Mod_cooks_187 v1 v2 v3 M else (if (v3 : Int32) < 0 ∨ 38 ≤ (v3 : Int32).toNatClampNeg then none else (if (v3 : Int32) < 0 ∨ 38 ≤ (v3 : Int32).toNatClampNeg then none else nmM (uM M 437 (v3 : Int32).toNatClampNeg ((M 437 (v3 : Int32).toNatClampNeg) - 1)) (fun M38 => (if (v3 : Int32) < 0 ∨ 6 ≤ (v3 : Int32).toNatClampNeg then none else (if (v3 : Int32) < 0 ∨ 6 ≤ (v3 : Int32).toNatClampNeg then none else nmM (uM M38 438 (v3 : Int32).toNatClampNeg ((M38 438 (v3 : Int32).toNatClampNeg) + 1)) (fun M41 => J_Mod_cooks_187 v1 v2 v3 M41)))))))
set_option maxHeartbeats 4000000 in
set_option maxRecDepth 20000 in
theorem j_Mod_cooks_163 {l : Launch} {ld : Nat} {Q : Option Value → gM → gL → gR → Prop} (hld : isLa ld)   {q : Int32 × gM} {M : gM} {L : gL} (hQ : Q (some (.int q.1)) q.2 L (rf ld))  {v1 : Int32} {v2 : Int32} {v3 : Int32}  (h : J_Mod_cooks_163 v1 v2 v3 M = some q) : Wp l y_Mod_cooks (0, 0, 447) 447 0 0 163 [(0, .ref 401), (1, .int v1), (2, .int v2), (3, .int v3)] [] M L (rf ld) Q := by
  unfold J_Mod_cooks_163 at h
  refine g_iload_n (pc1 := 164) d_Mod_cooks_163 rfl 3 rfl ?_
  refine g_if_lt (pc1 := 167) (tgt := 187) d_Mod_cooks_164 (by decide) rfl (fun c23 => ?_) (fun c23 => ?_)
  · replace h := itp h c23
    exact j_Mod_cooks_187 hld  hQ  h
  · replace h := itn h c23
    refine g_aload_n (pc1 := 168) d_Mod_cooks_167 rfl 0 rfl ?_
    refine g_getr (pc1 := 171) d_Mod_cooks_168 rfl ⟨_, fo_Mod_125⟩ sh_401 (by decide) (rf_401_53 ld) ?_
    refine g_iload_n (pc1 := 172) d_Mod_cooks_171 rfl 3 rfl ?_
    refine g_dup2 (pc1 := 173) d_Mod_cooks_172 rfl rfl rfl ?_
    obtain ⟨g36, h⟩ := gdn h
    refine g_iald (pc1 := 174) d_Mod_cooks_173 rfl sh_437 (by decide) g36 ?_
    refine g_iconst (pc1 := 175) (v := 1) d_Mod_cooks_174 rfl (by decide) ?_
    refine g_isub (pc1 := 176) d_Mod_cooks_175 rfl ?_
    obtain ⟨g37, h⟩ := gdn h
    refine g_iast (pc1 := 177) d_Mod_cooks_176 rfl sh_437 (by decide) g37 ?_
    refine Wp.lM h (fun M38 h => ?_)
    refine g_aload_n (pc1 := 178) d_Mod_cooks_177 rfl 0 rfl ?_
    refine g_getr (pc1 := 181) d_Mod_cooks_178 rfl ⟨_, fo_Mod_128⟩ sh_401 (by decide) (rf_401_55 ld) ?_
    refine g_iload_n (pc1 := 182) d_Mod_cooks_181 rfl 3 rfl ?_
    refine g_dup2 (pc1 := 183) d_Mod_cooks_182 rfl rfl rfl ?_
    obtain ⟨g39, h⟩ := gdn h
    refine g_iald (pc1 := 184) d_Mod_cooks_183 rfl sh_438 (by decide) g39 ?_
    refine g_iconst (pc1 := 185) (v := 1) d_Mod_cooks_184 rfl (by decide) ?_
    refine g_iadd (pc1 := 186) d_Mod_cooks_185 rfl ?_
    obtain ⟨g40, h⟩ := gdn h
    refine g_iast (pc1 := 187) d_Mod_cooks_186 rfl sh_438 (by decide) g40 ?_
    refine Wp.lM h (fun M41 h => ?_)
    exact j_Mod_cooks_187 hld  hQ  h
def J_Mod_cooks_147 (v1 : Int32) (v2 : Int32) (v3 : Int32) (M : gM) : Option (Int32 × gM) :=
  (if v3 < 0 then J_Mod_cooks_163 v1 v2 v3 M else (if (v3 : Int32) < 0 ∨ 38 ≤ (v3 : Int32).toNatClampNeg then none else (if (M 437 (v3 : Int32).toNatClampNeg) = 0 then J_Mod_cooks_163 v1 v2 (-2) M else J_Mod_cooks_163 v1 v2 v3 M)))
set_option maxHeartbeats 4000000 in
set_option maxRecDepth 20000 in
theorem j_Mod_cooks_147 {l : Launch} {ld : Nat} {Q : Option Value → gM → gL → gR → Prop} (hld : isLa ld)   {q : Int32 × gM} {M : gM} {L : gL} (hQ : Q (some (.int q.1)) q.2 L (rf ld))  {v1 : Int32} {v2 : Int32} {v3 : Int32}  (h : J_Mod_cooks_147 v1 v2 v3 M = some q) : Wp l y_Mod_cooks (0, 0, 447) 447 0 0 147 [(0, .ref 401), (1, .int v1), (2, .int v2), (3, .int v3)] [] M L (rf ld) Q := by
  unfold J_Mod_cooks_147 at h
  refine g_iload_n (pc1 := 148) d_Mod_cooks_147 rfl 3 rfl ?_
  refine g_if_lt (pc1 := 151) (tgt := 163) d_Mod_cooks_148 (by decide) rfl (fun c22 => ?_) (fun c22 => ?_)
  · replace h := itp h c22
    exact j_Mod_cooks_163 hld  hQ  h
  · replace h := itn h c22
    refine g_aload_n (pc1 := 152) d_Mod_cooks_151 rfl 0 rfl ?_
    refine g_getr (pc1 := 155) d_Mod_cooks_152 rfl ⟨_, fo_Mod_125⟩ sh_401 (by decide) (rf_401_53 ld) ?_
    refine g_iload_n (pc1 := 156) d_Mod_cooks_155 rfl 3 rfl ?_
    obtain ⟨g42, h⟩ := gdn h
    refine g_iald (pc1 := 157) d_Mod_cooks_156 rfl sh_437 (by decide) g42 ?_
    refine g_if_ne (pc1 := 160) (tgt := 163) d_Mod_cooks_157 (by decide) rfl (fun c43 => ?_) (fun c43 => ?_)
    · replace h := itn h c43
      exact j_Mod_cooks_163 hld  hQ  h
    · replace h := itp h c43
      refine g_bipush (pc1 := 162) (v := (-2)) d_Mod_cooks_160 rfl (by decide) ?_
      refine g_istore_n (pc1 := 163) (lv' := [(0, .ref 401), (1, .int v1), (2, .int v2), (3, .int (-2))]) d_Mod_cooks_162 rfl rfl (by decide) [1, 2, 3, 0] rfl ?_
      exact j_Mod_cooks_163 hld  hQ  h
def J_Mod_cooks_55 (v1 : Int32) (v2 : Int32) (M : gM) : Option (Int32 × gM) :=
  bI (F_Mod_potPrice M) (fun r8 => nmM (uM M 437 36 ((M 437 36) + r8)) (fun M9 => bI (F_Mod_looks M9) (fun M11 => nmM (uM M11 434 1 v2) (fun M12 => bI (F_Mod_potMany M12) (fun r14 => nmM (uM M12 434 3 r14) (fun M15 => bI (F_Mod_lotOf (8 * (M15 437 37)) 100 M15) (fun r17 => bI2 (F_Mod_asks 3 0 0 100 M15) (fun r19 M20 => (if r19 ≤ r17 then J_Mod_cooks_147 v1 v2 (-2) M20 else (if ((M20 401 18) : Int32) < 0 ∨ 2 ≤ ((M20 401 18) : Int32).toNatClampNeg then none else bI (F_Mod_lotOf ((8 * (M20 437 37)) + 1) (M20 411 ((M20 401 18) : Int32).toNatClampNeg) M20) (fun r46 => J_Mod_cooks_147 v1 v2 r46 M20)))))))))))
set_option maxHeartbeats 4000000 in
set_option maxRecDepth 20000 in
theorem j_Mod_cooks_55 {l : Launch} {ld : Nat} {Q : Option Value → gM → gL → gR → Prop} (hld : isLa ld)   {q : Int32 × gM} {M : gM} {L : gL} (hQ : Q (some (.int q.1)) q.2 L (rf ld))  {v1 : Int32} {v2 : Int32}  (h : J_Mod_cooks_55 v1 v2 M = some q) : Wp l y_Mod_cooks (0, 0, 447) 447 0 0 55 [(0, .ref 401), (1, .int v1), (2, .int v2)] [] M L (rf ld) Q := by
  unfold J_Mod_cooks_55 at h
  refine g_aload_n (pc1 := 56) d_Mod_cooks_55 rfl 0 rfl ?_
  refine g_getr (pc1 := 59) d_Mod_cooks_56 rfl ⟨_, fo_Mod_125⟩ sh_401 (by decide) (rf_401_53 ld) ?_
  refine g_bipush (pc1 := 61) (v := 36) d_Mod_cooks_59 rfl (by decide) ?_
  refine g_dup2 (pc1 := 62) d_Mod_cooks_61 rfl rfl rfl ?_
  refine g_iald (pc1 := 63) d_Mod_cooks_62 rfl sh_437 (by decide) (vin_lit (x := 36) (by decide)) ?_
  refine Wp.vali (y := (M 437 36)) (congrArg (M 437) (by decide)) ?_
  refine g_aload_n (pc1 := 64) d_Mod_cooks_63 rfl 0 rfl ?_
  refine g_callV0 (pc1 := 67) (As := []) (rest := [.int (M 437 36), .int 36, .ref 437]) d_Mod_cooks_64 rfl mo_Mod_362 mi_Mod_potPrice mv_Mod_potPrice rfl sh_401 (by decide) (by decide) rfl rfl (Nat.le_of_ble_eq_true rfl) ?_
  obtain ⟨r8, hq7, h⟩ := bnd h
  refine f_Mod_potPrice hld  hq7 ?_
  dsimp only [psh]
  refine g_iadd (pc1 := 68) d_Mod_cooks_67 rfl ?_
  refine g_iast (pc1 := 69) d_Mod_cooks_68 rfl sh_437 (by decide) (vin_lit (x := 36) (by decide)) ?_
  refine Wp.eqM (M' := uM M 437 36 ((M 437 36) + r8)) (congrArg (fun z => uM M 437 z ((M 437 36) + r8)) (by decide)) ?_
  refine Wp.lM h (fun M9 h => ?_)
  refine g_aload_n (pc1 := 70) d_Mod_cooks_69 rfl 0 rfl ?_
  refine g_callV0 (pc1 := 73) (As := []) (rest := []) d_Mod_cooks_70 rfl mo_Mod_336 mi_Mod_looks mv_Mod_looks rfl sh_401 (by decide) (by decide) rfl rfl (Nat.le_of_ble_eq_true rfl) ?_
  obtain ⟨M11, hq10, h⟩ := bnd h
  refine f_Mod_looks hld  hq10 ?_
  dsimp only [psh]
  refine g_aload_n (pc1 := 74) d_Mod_cooks_73 rfl 0 rfl ?_
  refine g_getr (pc1 := 77) d_Mod_cooks_74 rfl ⟨_, fo_Mod_116⟩ sh_401 (by decide) (rf_401_49 ld) ?_
  refine g_iconst (pc1 := 78) (v := 1) d_Mod_cooks_77 rfl (by decide) ?_
  refine g_iload_n (pc1 := 79) d_Mod_cooks_78 rfl 2 rfl ?_
  refine g_iast (pc1 := 80) d_Mod_cooks_79 rfl sh_434 (by decide) (vin_lit (x := 1) (by decide)) ?_
  refine Wp.eqM (M' := uM M11 434 1 v2) (congrArg (fun z => uM M11 434 z v2) (by decide)) ?_
  refine Wp.lM h (fun M12 h => ?_)
  refine g_aload_n (pc1 := 81) d_Mod_cooks_80 rfl 0 rfl ?_
  refine g_getr (pc1 := 84) d_Mod_cooks_81 rfl ⟨_, fo_Mod_116⟩ sh_401 (by decide) (rf_401_49 ld) ?_
  refine g_iconst (pc1 := 85) (v := 3) d_Mod_cooks_84 rfl (by decide) ?_
  refine g_aload_n (pc1 := 86) d_Mod_cooks_85 rfl 0 rfl ?_
  refine g_callV0 (pc1 := 89) (As := []) (rest := [.int 3, .ref 434]) d_Mod_cooks_86 rfl mo_Mod_339 mi_Mod_potMany mv_Mod_potMany rfl sh_401 (by decide) (by decide) rfl rfl (Nat.le_of_ble_eq_true rfl) ?_
  obtain ⟨r14, hq13, h⟩ := bnd h
  refine f_Mod_potMany hld  hq13 ?_
  dsimp only [psh]
  refine g_iast (pc1 := 90) d_Mod_cooks_89 rfl sh_434 (by decide) (vin_lit (x := 3) (by decide)) ?_
  refine Wp.eqM (M' := uM M12 434 3 r14) (congrArg (fun z => uM M12 434 z r14) (by decide)) ?_
  refine Wp.lM h (fun M15 h => ?_)
  refine g_bipush (pc1 := 92) (v := (-2)) d_Mod_cooks_90 rfl (by decide) ?_
  refine g_istore_n (pc1 := 93) (lv' := [(0, .ref 401), (1, .int v1), (2, .int v2), (3, .int (-2))]) d_Mod_cooks_92 rfl rfl (by decide) [1, 2, 3, 0] rfl ?_
  refine g_aload_n (pc1 := 94) d_Mod_cooks_93 rfl 0 rfl ?_
  refine g_bipush (pc1 := 96) (v := 8) d_Mod_cooks_94 rfl (by decide) ?_
  refine g_aload_n (pc1 := 97) d_Mod_cooks_96 rfl 0 rfl ?_
  refine g_getr (pc1 := 100) d_Mod_cooks_97 rfl ⟨_, fo_Mod_125⟩ sh_401 (by decide) (rf_401_53 ld) ?_
  refine g_bipush (pc1 := 102) (v := 37) d_Mod_cooks_100 rfl (by decide) ?_
  refine g_iald (pc1 := 103) d_Mod_cooks_102 rfl sh_437 (by decide) (vin_lit (x := 37) (by decide)) ?_
  refine Wp.vali (y := (M15 437 37)) (congrArg (M15 437) (by decide)) ?_
  refine g_imul (pc1 := 104) d_Mod_cooks_103 rfl ?_
  refine g_bipush (pc1 := 106) (v := 100) d_Mod_cooks_104 rfl (by decide) ?_
  refine g_callV0 (pc1 := 109) (As := [.int (8 * (M15 437 37)), .int 100]) (rest := []) d_Mod_cooks_106 rfl mo_Mod_365 mi_Mod_lotOf mv_Mod_lotOf rfl sh_401 (by decide) (by decide) rfl rfl (Nat.le_of_ble_eq_true rfl) ?_
  obtain ⟨r17, hq16, h⟩ := bnd h
  refine f_Mod_lotOf hld  hq16 ?_
  dsimp only [psh]
  refine g_aload_n (pc1 := 110) d_Mod_cooks_109 rfl 0 rfl ?_
  refine g_iconst (pc1 := 111) (v := 3) d_Mod_cooks_110 rfl (by decide) ?_
  refine g_iconst (pc1 := 112) (v := 0) d_Mod_cooks_111 rfl (by decide) ?_
  refine g_iconst (pc1 := 113) (v := 0) d_Mod_cooks_112 rfl (by decide) ?_
  refine g_bipush (pc1 := 115) (v := 100) d_Mod_cooks_113 rfl (by decide) ?_
  refine g_callV0 (pc1 := 118) (As := [.int 3, .int 0, .int 0, .int 100]) (rest := [.int r17]) d_Mod_cooks_115 rfl mo_Mod_342 mi_Mod_asks mv_Mod_asks rfl sh_401 (by decide) (by decide) rfl rfl (Nat.le_of_ble_eq_true rfl) ?_
  obtain ⟨r19, M20, hq18, h⟩ := bnd2 h
  refine f_Mod_asks hld  hq18 ?_
  dsimp only [psh]
  refine g_icmp_ge (pc1 := 121) (tgt := 147) d_Mod_cooks_118 (by decide) rfl (fun c21 => ?_) (fun c21 => ?_)
  · replace h := itp h c21
    exact j_Mod_cooks_147 hld  hQ  h
  · replace h := itn h c21
    refine g_aload_n (pc1 := 122) d_Mod_cooks_121 rfl 0 rfl ?_
    refine g_bipush (pc1 := 124) (v := 8) d_Mod_cooks_122 rfl (by decide) ?_
    refine g_aload_n (pc1 := 125) d_Mod_cooks_124 rfl 0 rfl ?_
    refine g_getr (pc1 := 128) d_Mod_cooks_125 rfl ⟨_, fo_Mod_125⟩ sh_401 (by decide) (rf_401_53 ld) ?_
    refine g_bipush (pc1 := 130) (v := 37) d_Mod_cooks_128 rfl (by decide) ?_
    refine g_iald (pc1 := 131) d_Mod_cooks_130 rfl sh_437 (by decide) (vin_lit (x := 37) (by decide)) ?_
    refine Wp.vali (y := (M20 437 37)) (congrArg (M20 437) (by decide)) ?_
    refine g_imul (pc1 := 132) d_Mod_cooks_131 rfl ?_
    refine g_iconst (pc1 := 133) (v := 1) d_Mod_cooks_132 rfl (by decide) ?_
    refine g_iadd (pc1 := 134) d_Mod_cooks_133 rfl ?_
    refine g_aload_n (pc1 := 135) d_Mod_cooks_134 rfl 0 rfl ?_
    refine g_getr (pc1 := 138) d_Mod_cooks_135 rfl ⟨_, fo_Mod_46⟩ sh_401 (by decide) (rf_401_23 ld) ?_
    refine g_aload_n (pc1 := 139) d_Mod_cooks_138 rfl 0 rfl ?_
    refine g_geti (pc1 := 142) d_Mod_cooks_139 rfl ⟨_, fo_Mod_236⟩ sh_401 (by decide) ?_
    obtain ⟨g44, h⟩ := gdn h
    refine g_iald (pc1 := 143) d_Mod_cooks_142 rfl sh_411 (by decide) g44 ?_
    refine g_callV0 (pc1 := 146) (As := [.int ((8 * (M20 437 37)) + 1), .int (M20 411 ((M20 401 18) : Int32).toNatClampNeg)]) (rest := []) d_Mod_cooks_143 rfl mo_Mod_365 mi_Mod_lotOf mv_Mod_lotOf rfl sh_401 (by decide) (by decide) rfl rfl (Nat.le_of_ble_eq_true rfl) ?_
    obtain ⟨r46, hq45, h⟩ := bnd h
    refine f_Mod_lotOf hld  hq45 ?_
    dsimp only [psh]
    refine g_istore_n (pc1 := 147) (lv' := [(0, .ref 401), (1, .int v1), (2, .int v2), (3, .int r46)]) d_Mod_cooks_146 rfl rfl (by decide) [1, 2, 3, 0] rfl ?_
    exact j_Mod_cooks_147 hld  hQ  h
def B_Mod_cooks_21 (v1 : Int32) (v2 : Int32) (K21 : Int32 → gM → Option (Int32 × gM)) : Int32 → gM → Option (Int32 × gM) := fun v3 M =>
  (if ((M 401 18) : Int32) < 0 ∨ 2 ≤ ((M 401 18) : Int32).toNatClampNeg then none else (if (M 411 ((M 401 18) : Int32).toNatClampNeg) ≤ v3 then J_Mod_cooks_55 v1 v2 M else (if (v3 : Int32) < 0 ∨ 38 ≤ (v3 : Int32).toNatClampNeg then none else (if (v3 : Int32) < 0 ∨ 6 ≤ (v3 : Int32).toNatClampNeg then none else (if (v3 : Int32) < 0 ∨ 38 ≤ (v3 : Int32).toNatClampNeg then none else nmM (uM M 437 (v3 : Int32).toNatClampNeg ((M 437 (v3 : Int32).toNatClampNeg) - (M 438 (v3 : Int32).toNatClampNeg))) (fun M50 => nmI (v3 + 1) (fun x51 => K21 x51 M50)))))))
def H_Mod_cooks_21 (v1 : Int32) (v2 : Int32) : Nat → Int32 → gM → Option (Int32 × gM) := lpK (B_Mod_cooks_21 v1 v2) (fun _ _ => none)
set_option maxHeartbeats 4000000 in
set_option maxRecDepth 20000 in
theorem h_Mod_cooks_21 {l : Launch} {ld : Nat} {Q : Option Value → gM → gL → gR → Prop} (hld : isLa ld)   {q : Int32 × gM} {L : gL} (hQ : Q (some (.int q.1)) q.2 L (rf ld))  {v1 : Int32} {v2 : Int32}  : ∀ (f : Nat) (v3 : Int32) (M : gM), H_Mod_cooks_21 v1 v2 f v3 M = some q → Wp l y_Mod_cooks (0, 0, 447) 447 0 0 21 [(0, .ref 401), (1, .int v1), (2, .int v2), (3, .int v3)] [] M L (rf ld) Q := by
  intro f
  induction f with
  | zero => intro v3 M h; cases h
  | succ f hK21 =>
    intro v3 M h
    replace h : B_Mod_cooks_21 v1 v2 (H_Mod_cooks_21 v1 v2 f) v3 M = some q := h
    unfold B_Mod_cooks_21 at h
    refine g_iload_n (pc1 := 22) d_Mod_cooks_21 rfl 3 rfl ?_
    refine g_aload_n (pc1 := 23) d_Mod_cooks_22 rfl 0 rfl ?_
    refine g_getr (pc1 := 26) d_Mod_cooks_23 rfl ⟨_, fo_Mod_46⟩ sh_401 (by decide) (rf_401_23 ld) ?_
    refine g_aload_n (pc1 := 27) d_Mod_cooks_26 rfl 0 rfl ?_
    refine g_geti (pc1 := 30) d_Mod_cooks_27 rfl ⟨_, fo_Mod_236⟩ sh_401 (by decide) ?_
    obtain ⟨g5, h⟩ := gdn h
    refine g_iald (pc1 := 31) d_Mod_cooks_30 rfl sh_411 (by decide) g5 ?_
    refine g_icmp_ge (pc1 := 34) (tgt := 55) d_Mod_cooks_31 (by decide) rfl (fun c6 => ?_) (fun c6 => ?_)
    · replace h := itp h c6
      refine Wp.loc (lv' := [(0, .ref 401), (1, .int v1), (2, .int v2)]) [0, 1, 2] rfl ?_
      exact j_Mod_cooks_55 hld  hQ  h
    · replace h := itn h c6
      refine g_aload_n (pc1 := 35) d_Mod_cooks_34 rfl 0 rfl ?_
      refine g_getr (pc1 := 38) d_Mod_cooks_35 rfl ⟨_, fo_Mod_125⟩ sh_401 (by decide) (rf_401_53 ld) ?_
      refine g_iload_n (pc1 := 39) d_Mod_cooks_38 rfl 3 rfl ?_
      refine g_dup2 (pc1 := 40) d_Mod_cooks_39 rfl rfl rfl ?_
      obtain ⟨g47, h⟩ := gdn h
      refine g_iald (pc1 := 41) d_Mod_cooks_40 rfl sh_437 (by decide) g47 ?_
      refine g_aload_n (pc1 := 42) d_Mod_cooks_41 rfl 0 rfl ?_
      refine g_getr (pc1 := 45) d_Mod_cooks_42 rfl ⟨_, fo_Mod_128⟩ sh_401 (by decide) (rf_401_55 ld) ?_
      refine g_iload_n (pc1 := 46) d_Mod_cooks_45 rfl 3 rfl ?_
      obtain ⟨g48, h⟩ := gdn h
      refine g_iald (pc1 := 47) d_Mod_cooks_46 rfl sh_438 (by decide) g48 ?_
      refine g_isub (pc1 := 48) d_Mod_cooks_47 rfl ?_
      obtain ⟨g49, h⟩ := gdn h
      refine g_iast (pc1 := 49) d_Mod_cooks_48 rfl sh_437 (by decide) g49 ?_
      refine Wp.lM h (fun M50 h => ?_)
      obtain ⟨x51, ex51, h⟩ := ltI h
      refine g_iinc (pc1 := 52) (v := x51) (lv' := [(0, .ref 401), (1, .int v1), (2, .int v2), (3, .int x51)]) d_Mod_cooks_49 rfl 3 rfl (by rw [ex51]; rfl) (by decide) [1, 2, 3, 0] rfl ?_
      refine g_goto (tgt := 21) d_Mod_cooks_52 (by decide) ?_
      exact hK21 x51 M50 h
def F_Mod_cooks (p1 : Int32) (M : gM) : Option (Int32 × gM) :=
  (if (((5 * (M 401 18)) + p1) : Int32) < 0 ∨ 10 ≤ (((5 * (M 401 18)) + p1) : Int32).toNatClampNeg then none else nmI (M 416 (((5 * (M 401 18)) + p1) : Int32).toNatClampNeg) (fun x2 => bI (F_Mod_fillsPot p1 M) (fun M4 => H_Mod_cooks_21 p1 x2 FU 0 M4)))
set_option maxHeartbeats 4000000 in
set_option maxRecDepth 20000 in
theorem f_Mod_cooks {l : Launch} {ld : Nat} {M : gM} {L : gL} {Q : Option Value → gM → gL → gR → Prop} (hld : isLa ld) {p1 : Int32}  {q : Int32 × gM} (h : F_Mod_cooks p1 M = some q) (hQ : Q (some (.int q.1)) q.2 L (rf ld)) : Tm l y_Mod_cooks (0, 0, 447) 447 [.ref 401, .int p1] M L (rf ld) Q := by
  refine Tm.of (by decide) (Nat.le_of_ble_eq_true rfl) ?_
  show Wp l y_Mod_cooks (0, 0, 447) 447 0 0 0 [(0, .ref 401), (1, .int p1)] [] M L (rf ld) Q
  unfold F_Mod_cooks at h
  refine g_aload_n (pc1 := 1) d_Mod_cooks_0 rfl 0 rfl ?_
  refine g_getr (pc1 := 4) d_Mod_cooks_1 rfl ⟨_, fo_Mod_61⟩ sh_401 (by decide) (rf_401_28 ld) ?_
  refine g_iconst (pc1 := 5) (v := 5) d_Mod_cooks_4 rfl (by decide) ?_
  refine g_aload_n (pc1 := 6) d_Mod_cooks_5 rfl 0 rfl ?_
  refine g_geti (pc1 := 9) d_Mod_cooks_6 rfl ⟨_, fo_Mod_236⟩ sh_401 (by decide) ?_
  refine g_imul (pc1 := 10) d_Mod_cooks_9 rfl ?_
  refine g_iload_n (pc1 := 11) d_Mod_cooks_10 rfl 1 rfl ?_
  refine g_iadd (pc1 := 12) d_Mod_cooks_11 rfl ?_
  obtain ⟨g1, h⟩ := gdn h
  refine g_iald (pc1 := 13) d_Mod_cooks_12 rfl sh_416 (by decide) g1 ?_
  refine Wp.lI h (fun x2 h => ?_)
  refine g_istore_n (pc1 := 14) (lv' := [(0, .ref 401), (1, .int p1), (2, .int x2)]) d_Mod_cooks_13 rfl rfl (by decide) [1, 2, 0] rfl ?_
  refine g_aload_n (pc1 := 15) d_Mod_cooks_14 rfl 0 rfl ?_
  refine g_iload_n (pc1 := 16) d_Mod_cooks_15 rfl 1 rfl ?_
  refine g_callV0 (pc1 := 19) (As := [.int p1]) (rest := []) d_Mod_cooks_16 rfl mo_Mod_356 mi_Mod_fillsPot mv_Mod_fillsPot rfl sh_401 (by decide) (by decide) rfl rfl (Nat.le_of_ble_eq_true rfl) ?_
  obtain ⟨M4, hq3, h⟩ := bnd h
  refine f_Mod_fillsPot hld  hq3 ?_
  dsimp only [psh]
  refine g_iconst (pc1 := 20) (v := 0) d_Mod_cooks_19 rfl (by decide) ?_
  refine g_istore_n (pc1 := 21) (lv' := [(0, .ref 401), (1, .int p1), (2, .int x2), (3, .int 0)]) d_Mod_cooks_20 rfl rfl (by decide) [1, 2, 3, 0] rfl ?_
  exact h_Mod_cooks_21 hld  hQ  _ 0 M4 h

def F_Mod_dish (p1 : Int32) (p2 : Int32) (M : gM) : Option (Int32 × gM) :=
  bI (F_Mod_isDish p1 M) (fun r2 => (if r2 = 0 then some ((-1), M) else bI (F_Mod_copies M) (fun M5 => bI (F_Mod_fillsPot p1 M5) (fun M7 => (if p2 = 0 then (if (((5 * (M7 401 18)) + p1) : Int32) < 0 ∨ 10 ≤ (((5 * (M7 401 18)) + p1) : Int32).toNatClampNeg then none else some ((M7 416 (((5 * (M7 401 18)) + p1) : Int32).toNatClampNeg), M7)) else (if p2 = 1 then bI (F_Mod_potMany M7) (fun r12 => some (r12, M7)) else (if p2 = 2 then bI (F_Mod_potPrice M7) (fun r15 => some (r15, M7)) else (if p2 = 3 then (if (((5 * (M7 401 18)) + p1) : Int32) < 0 ∨ 10 ≤ (((5 * (M7 401 18)) + p1) : Int32).toNatClampNeg then none else bI2 (F_Mod_forceBy (p2 - 3) (M7 416 (((5 * (M7 401 18)) + p1) : Int32).toNatClampNeg) M7) (fun r19 M20 => some (r19, M20))) else (if p2 = 4 then (if (((5 * (M7 401 18)) + p1) : Int32) < 0 ∨ 10 ≤ (((5 * (M7 401 18)) + p1) : Int32).toNatClampNeg then none else bI2 (F_Mod_forceBy (p2 - 3) (M7 416 (((5 * (M7 401 18)) + p1) : Int32).toNatClampNeg) M7) (fun r24 M25 => some (r24, M25))) else (if p2 = 5 then (if (((5 * (M7 401 18)) + p1) : Int32) < 0 ∨ 10 ≤ (((5 * (M7 401 18)) + p1) : Int32).toNatClampNeg then none else bI2 (F_Mod_forceBy (p2 - 3) (M7 416 (((5 * (M7 401 18)) + p1) : Int32).toNatClampNeg) M7) (fun r29 M30 => some (r29, M30))) else (if p2 = 6 then (if ((6 + p1) : Int32) < 0 ∨ 38 ≤ ((6 + p1) : Int32).toNatClampNeg then none else some ((M7 437 ((6 + p1) : Int32).toNatClampNeg), M7)) else some ((-1), M7))))))))))))
set_option maxHeartbeats 4000000 in
set_option maxRecDepth 20000 in
theorem f_Mod_dish {l : Launch} {ld : Nat} {M : gM} {L : gL} {Q : Option Value → gM → gL → gR → Prop} (hld : isLa ld) {p1 : Int32} {p2 : Int32}  {q : Int32 × gM} (h : F_Mod_dish p1 p2 M = some q) (hQ : Q (some (.int q.1)) q.2 L (rf ld)) : Tm l y_Mod_dish (0, 0, 447) 447 [.ref 401, .int p1, .int p2] M L (rf ld) Q := by
  refine Tm.of (by decide) (Nat.le_of_ble_eq_true rfl) ?_
  show Wp l y_Mod_dish (0, 0, 447) 447 0 0 0 [(0, .ref 401), (1, .int p1), (2, .int p2)] [] M L (rf ld) Q
  unfold F_Mod_dish at h
  refine g_aload_n (pc1 := 1) d_Mod_dish_0 rfl 0 rfl ?_
  refine g_iload_n (pc1 := 2) d_Mod_dish_1 rfl 1 rfl ?_
  refine g_callV0 (pc1 := 5) (As := [.int p1]) (rest := []) d_Mod_dish_2 rfl mo_Mod_374 mi_Mod_isDish mv_Mod_isDish rfl sh_401 (by decide) (by decide) rfl rfl (Nat.le_of_ble_eq_true rfl) ?_
  obtain ⟨r2, hq1, h⟩ := bnd h
  refine f_Mod_isDish hld  hq1 ?_
  dsimp only [psh]
  refine g_if_ne (pc1 := 8) (tgt := 10) d_Mod_dish_5 (by decide) rfl (fun c3 => ?_) (fun c3 => ?_)
  · replace h := itn h c3
    refine g_aload_n (pc1 := 11) d_Mod_dish_10 rfl 0 rfl ?_
    refine g_callV0 (pc1 := 14) (As := []) (rest := []) d_Mod_dish_11 rfl mo_Mod_377 mi_Mod_copies mv_Mod_copies rfl sh_401 (by decide) (by decide) rfl rfl (Nat.le_of_ble_eq_true rfl) ?_
    obtain ⟨M5, hq4, h⟩ := bnd h
    refine f_Mod_copies hld  hq4 ?_
    dsimp only [psh]
    refine g_aload_n (pc1 := 15) d_Mod_dish_14 rfl 0 rfl ?_
    refine g_iload_n (pc1 := 16) d_Mod_dish_15 rfl 1 rfl ?_
    refine g_callV0 (pc1 := 19) (As := [.int p1]) (rest := []) d_Mod_dish_16 rfl mo_Mod_356 mi_Mod_fillsPot mv_Mod_fillsPot rfl sh_401 (by decide) (by decide) rfl rfl (Nat.le_of_ble_eq_true rfl) ?_
    obtain ⟨M7, hq6, h⟩ := bnd h
    refine f_Mod_fillsPot hld  hq6 ?_
    dsimp only [psh]
    refine g_iload_n (pc1 := 20) d_Mod_dish_19 rfl 2 rfl ?_
    by_cases c8 : p2 = 0
    · replace h := itp h c8
      refine g_tabK (tgt := 64) (off := 44) d_Mod_dish_20 c8 (by decide) (by decide) (by decide) (by decide) ?_
      refine g_aload_n (pc1 := 65) d_Mod_dish_64 rfl 0 rfl ?_
      refine g_getr (pc1 := 68) d_Mod_dish_65 rfl ⟨_, fo_Mod_61⟩ sh_401 (by decide) (rf_401_28 ld) ?_
      refine g_iconst (pc1 := 69) (v := 5) d_Mod_dish_68 rfl (by decide) ?_
      refine g_aload_n (pc1 := 70) d_Mod_dish_69 rfl 0 rfl ?_
      refine g_geti (pc1 := 73) d_Mod_dish_70 rfl ⟨_, fo_Mod_236⟩ sh_401 (by decide) ?_
      refine g_imul (pc1 := 74) d_Mod_dish_73 rfl ?_
      refine g_iload_n (pc1 := 75) d_Mod_dish_74 rfl 1 rfl ?_
      refine g_iadd (pc1 := 76) d_Mod_dish_75 rfl ?_
      obtain ⟨g9, h⟩ := gdn h
      refine g_iald (pc1 := 77) d_Mod_dish_76 rfl sh_416 (by decide) g9 ?_
      refine g_ireturn (Or.inl rfl) d_Mod_dish_77 rfl ?_
      cases h; exact hQ
    replace h := itn h c8
    by_cases c10 : p2 = 1
    · replace h := itp h c10
      refine g_tabK (tgt := 78) (off := 58) d_Mod_dish_20 c10 (by decide) (by decide) (by decide) (by decide) ?_
      refine g_aload_n (pc1 := 79) d_Mod_dish_78 rfl 0 rfl ?_
      refine g_callV0 (pc1 := 82) (As := []) (rest := []) d_Mod_dish_79 rfl mo_Mod_339 mi_Mod_potMany mv_Mod_potMany rfl sh_401 (by decide) (by decide) rfl rfl (Nat.le_of_ble_eq_true rfl) ?_
      obtain ⟨r12, hq11, h⟩ := bnd h
      refine f_Mod_potMany hld  hq11 ?_
      dsimp only [psh]
      refine g_ireturn (Or.inl rfl) d_Mod_dish_82 rfl ?_
      cases h; exact hQ
    replace h := itn h c10
    by_cases c13 : p2 = 2
    · replace h := itp h c13
      refine g_tabK (tgt := 83) (off := 63) d_Mod_dish_20 c13 (by decide) (by decide) (by decide) (by decide) ?_
      refine g_aload_n (pc1 := 84) d_Mod_dish_83 rfl 0 rfl ?_
      refine g_callV0 (pc1 := 87) (As := []) (rest := []) d_Mod_dish_84 rfl mo_Mod_362 mi_Mod_potPrice mv_Mod_potPrice rfl sh_401 (by decide) (by decide) rfl rfl (Nat.le_of_ble_eq_true rfl) ?_
      obtain ⟨r15, hq14, h⟩ := bnd h
      refine f_Mod_potPrice hld  hq14 ?_
      dsimp only [psh]
      refine g_ireturn (Or.inl rfl) d_Mod_dish_87 rfl ?_
      cases h; exact hQ
    replace h := itn h c13
    by_cases c16 : p2 = 3
    · replace h := itp h c16
      refine g_tabK (tgt := 88) (off := 68) d_Mod_dish_20 c16 (by decide) (by decide) (by decide) (by decide) ?_
      refine g_aload_n (pc1 := 89) d_Mod_dish_88 rfl 0 rfl ?_
      refine g_iload_n (pc1 := 90) d_Mod_dish_89 rfl 2 rfl ?_
      refine g_iconst (pc1 := 91) (v := 3) d_Mod_dish_90 rfl (by decide) ?_
      refine g_isub (pc1 := 92) d_Mod_dish_91 rfl ?_
      refine g_aload_n (pc1 := 93) d_Mod_dish_92 rfl 0 rfl ?_
      refine g_getr (pc1 := 96) d_Mod_dish_93 rfl ⟨_, fo_Mod_61⟩ sh_401 (by decide) (rf_401_28 ld) ?_
      refine g_iconst (pc1 := 97) (v := 5) d_Mod_dish_96 rfl (by decide) ?_
      refine g_aload_n (pc1 := 98) d_Mod_dish_97 rfl 0 rfl ?_
      refine g_geti (pc1 := 101) d_Mod_dish_98 rfl ⟨_, fo_Mod_236⟩ sh_401 (by decide) ?_
      refine g_imul (pc1 := 102) d_Mod_dish_101 rfl ?_
      refine g_iload_n (pc1 := 103) d_Mod_dish_102 rfl 1 rfl ?_
      refine g_iadd (pc1 := 104) d_Mod_dish_103 rfl ?_
      obtain ⟨g17, h⟩ := gdn h
      refine g_iald (pc1 := 105) d_Mod_dish_104 rfl sh_416 (by decide) g17 ?_
      refine g_callV0 (pc1 := 108) (As := [.int (p2 - 3), .int (M7 416 (((5 * (M7 401 18)) + p1) : Int32).toNatClampNeg)]) (rest := []) d_Mod_dish_105 rfl mo_Mod_359 mi_Mod_forceBy mv_Mod_forceBy rfl sh_401 (by decide) (by decide) rfl rfl (Nat.le_of_ble_eq_true rfl) ?_
      obtain ⟨r19, M20, hq18, h⟩ := bnd2 h
      refine f_Mod_forceBy hld  hq18 ?_
      dsimp only [psh]
      refine g_ireturn (Or.inl rfl) d_Mod_dish_108 rfl ?_
      cases h; exact hQ
    replace h := itn h c16
    by_cases c21 : p2 = 4
    · replace h := itp h c21
      refine g_tabK (tgt := 88) (off := 68) d_Mod_dish_20 c21 (by decide) (by decide) (by decide) (by decide) ?_
      refine g_aload_n (pc1 := 89) d_Mod_dish_88 rfl 0 rfl ?_
      refine g_iload_n (pc1 := 90) d_Mod_dish_89 rfl 2 rfl ?_
      refine g_iconst (pc1 := 91) (v := 3) d_Mod_dish_90 rfl (by decide) ?_
      refine g_isub (pc1 := 92) d_Mod_dish_91 rfl ?_
      refine g_aload_n (pc1 := 93) d_Mod_dish_92 rfl 0 rfl ?_
      refine g_getr (pc1 := 96) d_Mod_dish_93 rfl ⟨_, fo_Mod_61⟩ sh_401 (by decide) (rf_401_28 ld) ?_
      refine g_iconst (pc1 := 97) (v := 5) d_Mod_dish_96 rfl (by decide) ?_
      refine g_aload_n (pc1 := 98) d_Mod_dish_97 rfl 0 rfl ?_
      refine g_geti (pc1 := 101) d_Mod_dish_98 rfl ⟨_, fo_Mod_236⟩ sh_401 (by decide) ?_
      refine g_imul (pc1 := 102) d_Mod_dish_101 rfl ?_
      refine g_iload_n (pc1 := 103) d_Mod_dish_102 rfl 1 rfl ?_
      refine g_iadd (pc1 := 104) d_Mod_dish_103 rfl ?_
      obtain ⟨g22, h⟩ := gdn h
      refine g_iald (pc1 := 105) d_Mod_dish_104 rfl sh_416 (by decide) g22 ?_
      refine g_callV0 (pc1 := 108) (As := [.int (p2 - 3), .int (M7 416 (((5 * (M7 401 18)) + p1) : Int32).toNatClampNeg)]) (rest := []) d_Mod_dish_105 rfl mo_Mod_359 mi_Mod_forceBy mv_Mod_forceBy rfl sh_401 (by decide) (by decide) rfl rfl (Nat.le_of_ble_eq_true rfl) ?_
      obtain ⟨r24, M25, hq23, h⟩ := bnd2 h
      refine f_Mod_forceBy hld  hq23 ?_
      dsimp only [psh]
      refine g_ireturn (Or.inl rfl) d_Mod_dish_108 rfl ?_
      cases h; exact hQ
    replace h := itn h c21
    by_cases c26 : p2 = 5
    · replace h := itp h c26
      refine g_tabK (tgt := 88) (off := 68) d_Mod_dish_20 c26 (by decide) (by decide) (by decide) (by decide) ?_
      refine g_aload_n (pc1 := 89) d_Mod_dish_88 rfl 0 rfl ?_
      refine g_iload_n (pc1 := 90) d_Mod_dish_89 rfl 2 rfl ?_
      refine g_iconst (pc1 := 91) (v := 3) d_Mod_dish_90 rfl (by decide) ?_
      refine g_isub (pc1 := 92) d_Mod_dish_91 rfl ?_
      refine g_aload_n (pc1 := 93) d_Mod_dish_92 rfl 0 rfl ?_
      refine g_getr (pc1 := 96) d_Mod_dish_93 rfl ⟨_, fo_Mod_61⟩ sh_401 (by decide) (rf_401_28 ld) ?_
      refine g_iconst (pc1 := 97) (v := 5) d_Mod_dish_96 rfl (by decide) ?_
      refine g_aload_n (pc1 := 98) d_Mod_dish_97 rfl 0 rfl ?_
      refine g_geti (pc1 := 101) d_Mod_dish_98 rfl ⟨_, fo_Mod_236⟩ sh_401 (by decide) ?_
      refine g_imul (pc1 := 102) d_Mod_dish_101 rfl ?_
      refine g_iload_n (pc1 := 103) d_Mod_dish_102 rfl 1 rfl ?_
      refine g_iadd (pc1 := 104) d_Mod_dish_103 rfl ?_
      obtain ⟨g27, h⟩ := gdn h
      refine g_iald (pc1 := 105) d_Mod_dish_104 rfl sh_416 (by decide) g27 ?_
      refine g_callV0 (pc1 := 108) (As := [.int (p2 - 3), .int (M7 416 (((5 * (M7 401 18)) + p1) : Int32).toNatClampNeg)]) (rest := []) d_Mod_dish_105 rfl mo_Mod_359 mi_Mod_forceBy mv_Mod_forceBy rfl sh_401 (by decide) (by decide) rfl rfl (Nat.le_of_ble_eq_true rfl) ?_
      obtain ⟨r29, M30, hq28, h⟩ := bnd2 h
      refine f_Mod_forceBy hld  hq28 ?_
      dsimp only [psh]
      refine g_ireturn (Or.inl rfl) d_Mod_dish_108 rfl ?_
      cases h; exact hQ
    replace h := itn h c26
    by_cases c31 : p2 = 6
    · replace h := itp h c31
      refine g_tabK (tgt := 109) (off := 89) d_Mod_dish_20 c31 (by decide) (by decide) (by decide) (by decide) ?_
      refine g_aload_n (pc1 := 110) d_Mod_dish_109 rfl 0 rfl ?_
      refine g_getr (pc1 := 113) d_Mod_dish_110 rfl ⟨_, fo_Mod_125⟩ sh_401 (by decide) (rf_401_53 ld) ?_
      refine g_bipush (pc1 := 115) (v := 6) d_Mod_dish_113 rfl (by decide) ?_
      refine g_iload_n (pc1 := 116) d_Mod_dish_115 rfl 1 rfl ?_
      refine g_iadd (pc1 := 117) d_Mod_dish_116 rfl ?_
      obtain ⟨g32, h⟩ := gdn h
      refine g_iald (pc1 := 118) d_Mod_dish_117 rfl sh_437 (by decide) g32 ?_
      refine g_ireturn (Or.inl rfl) d_Mod_dish_118 rfl ?_
      cases h; exact hQ
    replace h := itn h c31
    refine g_tabOut (tgt := 119) d_Mod_dish_20 (by
      have nc8 := neT (a := 0) c8 (by decide)
      have nc10 := neT (a := 1) c10 (by decide)
      have nc13 := neT (a := 2) c13 (by decide)
      have nc16 := neT (a := 3) c16 (by decide)
      have nc21 := neT (a := 4) c21 (by decide)
      have nc26 := neT (a := 5) c26 (by decide)
      have nc31 := neT (a := 6) c31 (by decide)
      omega) (by decide) ?_
    refine g_iconst (pc1 := 120) (v := (-1)) d_Mod_dish_119 rfl (by decide) ?_
    refine g_ireturn (Or.inl rfl) d_Mod_dish_120 rfl ?_
    cases h; exact hQ
  · replace h := itp h c3
    refine g_iconst (pc1 := 9) (v := (-1)) d_Mod_dish_8 rfl (by decide) ?_
    refine g_ireturn (Or.inl rfl) d_Mod_dish_9 rfl ?_
    cases h; exact hQ

def B_Mod_eatsDish_23 (v1 : Int32) (v2 : Int32) (K23 : Int32 → gM → Option (gM)) : Int32 → gM → Option (gM) := fun v3 M =>
  (if 3 ≤ v3 then some M else (if (((5 * (M 401 18)) + v2) : Int32) < 0 ∨ 10 ≤ (((5 * (M 401 18)) + v2) : Int32).toNatClampNeg then none else bI2 (F_Mod_forceBy v3 (M 416 (((5 * (M 401 18)) + v2) : Int32).toNatClampNeg) M) (fun r8 M9 => (if (((19 + (3 * v1)) + v3) : Int32) < 0 ∨ 38 ≤ (((19 + (3 * v1)) + v3) : Int32).toNatClampNeg then none else nmM (uM M9 437 (((19 + (3 * v1)) + v3) : Int32).toNatClampNeg r8) (fun M11 => nmI (v3 + 1) (fun x12 => K23 x12 M11))))))
def H_Mod_eatsDish_23 (v1 : Int32) (v2 : Int32) : Nat → Int32 → gM → Option (gM) := lpK (B_Mod_eatsDish_23 v1 v2) (fun _ _ => none)
set_option maxHeartbeats 4000000 in
set_option maxRecDepth 20000 in
theorem h_Mod_eatsDish_23 {l : Launch} {ld : Nat} {Q : Option Value → gM → gL → gR → Prop} (hld : isLa ld)   {q : gM} {L : gL} (hQ : Q none q L (rf ld))  {v1 : Int32} {v2 : Int32}  : ∀ (f : Nat) (v3 : Int32) (M : gM), H_Mod_eatsDish_23 v1 v2 f v3 M = some q → Wp l y_Mod_eatsDish (0, 0, 447) 447 0 0 23 [(0, .ref 401), (1, .int v1), (2, .int v2), (3, .int v3)] [] M L (rf ld) Q := by
  intro f
  induction f with
  | zero => intro v3 M h; cases h
  | succ f hK23 =>
    intro v3 M h
    replace h : B_Mod_eatsDish_23 v1 v2 (H_Mod_eatsDish_23 v1 v2 f) v3 M = some q := h
    unfold B_Mod_eatsDish_23 at h
    refine g_iload_n (pc1 := 24) d_Mod_eatsDish_23 rfl 3 rfl ?_
    refine g_iconst (pc1 := 25) (v := 3) d_Mod_eatsDish_24 rfl (by decide) ?_
    refine g_icmp_ge (pc1 := 28) (tgt := 65) d_Mod_eatsDish_25 (by decide) rfl (fun c5 => ?_) (fun c5 => ?_)
    · replace h := itp h c5
      refine g_return rfl d_Mod_eatsDish_65 rfl ?_
      cases h; exact hQ
    · replace h := itn h c5
      refine g_aload_n (pc1 := 29) d_Mod_eatsDish_28 rfl 0 rfl ?_
      refine g_getr (pc1 := 32) d_Mod_eatsDish_29 rfl ⟨_, fo_Mod_125⟩ sh_401 (by decide) (rf_401_53 ld) ?_
      refine g_bipush (pc1 := 34) (v := 19) d_Mod_eatsDish_32 rfl (by decide) ?_
      refine g_iconst (pc1 := 35) (v := 3) d_Mod_eatsDish_34 rfl (by decide) ?_
      refine g_iload_n (pc1 := 36) d_Mod_eatsDish_35 rfl 1 rfl ?_
      refine g_imul (pc1 := 37) d_Mod_eatsDish_36 rfl ?_
      refine g_iadd (pc1 := 38) d_Mod_eatsDish_37 rfl ?_
      refine g_iload_n (pc1 := 39) d_Mod_eatsDish_38 rfl 3 rfl ?_
      refine g_iadd (pc1 := 40) d_Mod_eatsDish_39 rfl ?_
      refine g_aload_n (pc1 := 41) d_Mod_eatsDish_40 rfl 0 rfl ?_
      refine g_iload_n (pc1 := 42) d_Mod_eatsDish_41 rfl 3 rfl ?_
      refine g_aload_n (pc1 := 43) d_Mod_eatsDish_42 rfl 0 rfl ?_
      refine g_getr (pc1 := 46) d_Mod_eatsDish_43 rfl ⟨_, fo_Mod_61⟩ sh_401 (by decide) (rf_401_28 ld) ?_
      refine g_iconst (pc1 := 47) (v := 5) d_Mod_eatsDish_46 rfl (by decide) ?_
      refine g_aload_n (pc1 := 48) d_Mod_eatsDish_47 rfl 0 rfl ?_
      refine g_geti (pc1 := 51) d_Mod_eatsDish_48 rfl ⟨_, fo_Mod_236⟩ sh_401 (by decide) ?_
      refine g_imul (pc1 := 52) d_Mod_eatsDish_51 rfl ?_
      refine g_iload_n (pc1 := 53) d_Mod_eatsDish_52 rfl 2 rfl ?_
      refine g_iadd (pc1 := 54) d_Mod_eatsDish_53 rfl ?_
      obtain ⟨g6, h⟩ := gdn h
      refine g_iald (pc1 := 55) d_Mod_eatsDish_54 rfl sh_416 (by decide) g6 ?_
      refine g_callV0 (pc1 := 58) (As := [.int v3, .int (M 416 (((5 * (M 401 18)) + v2) : Int32).toNatClampNeg)]) (rest := [.int ((19 + (3 * v1)) + v3), .ref 437]) d_Mod_eatsDish_55 rfl mo_Mod_359 mi_Mod_forceBy mv_Mod_forceBy rfl sh_401 (by decide) (by decide) rfl rfl (Nat.le_of_ble_eq_true rfl) ?_
      obtain ⟨r8, M9, hq7, h⟩ := bnd2 h
      refine f_Mod_forceBy hld  hq7 ?_
      dsimp only [psh]
      obtain ⟨g10, h⟩ := gdn h
      refine g_iast (pc1 := 59) d_Mod_eatsDish_58 rfl sh_437 (by decide) g10 ?_
      refine Wp.lM h (fun M11 h => ?_)
      obtain ⟨x12, ex12, h⟩ := ltI h
      refine g_iinc (pc1 := 62) (v := x12) (lv' := [(0, .ref 401), (1, .int v1), (2, .int v2), (3, .int x12)]) d_Mod_eatsDish_59 rfl 3 rfl (by rw [ex12]; rfl) (by decide) [1, 2, 3, 0] rfl ?_
      refine g_goto (tgt := 23) d_Mod_eatsDish_62 (by decide) ?_
      exact hK23 x12 M11 h
def F_Mod_eatsDish (p1 : Int32) (p2 : Int32) (M : gM) : Option (gM) :=
  bI (F_Mod_fillsPot p2 M) (fun M2 => (if ((15 + p1) : Int32) < 0 ∨ 38 ≤ ((15 + p1) : Int32).toNatClampNeg then none else nmM (uM M2 437 ((15 + p1) : Int32).toNatClampNeg (M2 437 35)) (fun M4 => H_Mod_eatsDish_23 p1 p2 FU 0 M4)))
set_option maxHeartbeats 4000000 in
set_option maxRecDepth 20000 in
theorem f_Mod_eatsDish {l : Launch} {ld : Nat} {M : gM} {L : gL} {Q : Option Value → gM → gL → gR → Prop} (hld : isLa ld) {p1 : Int32} {p2 : Int32}  {q : gM} (h : F_Mod_eatsDish p1 p2 M = some q) (hQ : Q none q L (rf ld)) : Tm l y_Mod_eatsDish (0, 0, 447) 447 [.ref 401, .int p1, .int p2] M L (rf ld) Q := by
  refine Tm.of (by decide) (Nat.le_of_ble_eq_true rfl) ?_
  show Wp l y_Mod_eatsDish (0, 0, 447) 447 0 0 0 [(0, .ref 401), (1, .int p1), (2, .int p2)] [] M L (rf ld) Q
  unfold F_Mod_eatsDish at h
  refine g_aload_n (pc1 := 1) d_Mod_eatsDish_0 rfl 0 rfl ?_
  refine g_iload_n (pc1 := 2) d_Mod_eatsDish_1 rfl 2 rfl ?_
  refine g_callV0 (pc1 := 5) (As := [.int p2]) (rest := []) d_Mod_eatsDish_2 rfl mo_Mod_356 mi_Mod_fillsPot mv_Mod_fillsPot rfl sh_401 (by decide) (by decide) rfl rfl (Nat.le_of_ble_eq_true rfl) ?_
  obtain ⟨M2, hq1, h⟩ := bnd h
  refine f_Mod_fillsPot hld  hq1 ?_
  dsimp only [psh]
  refine g_aload_n (pc1 := 6) d_Mod_eatsDish_5 rfl 0 rfl ?_
  refine g_getr (pc1 := 9) d_Mod_eatsDish_6 rfl ⟨_, fo_Mod_125⟩ sh_401 (by decide) (rf_401_53 ld) ?_
  refine g_bipush (pc1 := 11) (v := 15) d_Mod_eatsDish_9 rfl (by decide) ?_
  refine g_iload_n (pc1 := 12) d_Mod_eatsDish_11 rfl 1 rfl ?_
  refine g_iadd (pc1 := 13) d_Mod_eatsDish_12 rfl ?_
  refine g_aload_n (pc1 := 14) d_Mod_eatsDish_13 rfl 0 rfl ?_
  refine g_getr (pc1 := 17) d_Mod_eatsDish_14 rfl ⟨_, fo_Mod_125⟩ sh_401 (by decide) (rf_401_53 ld) ?_
  refine g_bipush (pc1 := 19) (v := 35) d_Mod_eatsDish_17 rfl (by decide) ?_
  refine g_iald (pc1 := 20) d_Mod_eatsDish_19 rfl sh_437 (by decide) (vin_lit (x := 35) (by decide)) ?_
  refine Wp.vali (y := (M2 437 35)) (congrArg (M2 437) (by decide)) ?_
  obtain ⟨g3, h⟩ := gdn h
  refine g_iast (pc1 := 21) d_Mod_eatsDish_20 rfl sh_437 (by decide) g3 ?_
  refine Wp.lM h (fun M4 h => ?_)
  refine g_iconst (pc1 := 22) (v := 0) d_Mod_eatsDish_21 rfl (by decide) ?_
  refine g_istore_n (pc1 := 23) (lv' := [(0, .ref 401), (1, .int p1), (2, .int p2), (3, .int 0)]) d_Mod_eatsDish_22 rfl rfl (by decide) [1, 2, 3, 0] rfl ?_
  exact h_Mod_eatsDish_23 hld  hQ  _ 0 M4 h

def B_Mod_goes_2 (v1 : Int32) (K2 : Int32 → gM → Option (gM)) : Int32 → gM → Option (gM) := fun v2 M =>
  (if v1 ≤ v2 then some M else bI (F_Mod_dayGoes M) (fun M3 => nmI (v2 + 1) (fun x4 => K2 x4 M3)))
def H_Mod_goes_2 (v1 : Int32) : Nat → Int32 → gM → Option (gM) := lpK (B_Mod_goes_2 v1) (fun _ _ => none)
set_option maxHeartbeats 4000000 in
set_option maxRecDepth 20000 in
theorem h_Mod_goes_2 {l : Launch} {ld : Nat} {Q : Option Value → gM → gL → gR → Prop} (hld : isLa ld)   {q : gM} {L : gL} (hQ : Q none q L (rf ld))  {v1 : Int32}  : ∀ (f : Nat) (v2 : Int32) (M : gM), H_Mod_goes_2 v1 f v2 M = some q → Wp l y_Mod_goes (0, 0, 447) 447 0 0 2 [(0, .ref 401), (1, .int v1), (2, .int v2)] [] M L (rf ld) Q := by
  intro f
  induction f with
  | zero => intro v2 M h; cases h
  | succ f hK2 =>
    intro v2 M h
    replace h : B_Mod_goes_2 v1 (H_Mod_goes_2 v1 f) v2 M = some q := h
    unfold B_Mod_goes_2 at h
    refine g_iload_n (pc1 := 3) d_Mod_goes_2 rfl 2 rfl ?_
    refine g_iload_n (pc1 := 4) d_Mod_goes_3 rfl 1 rfl ?_
    refine g_icmp_ge (pc1 := 7) (tgt := 17) d_Mod_goes_4 (by decide) rfl (fun c1 => ?_) (fun c1 => ?_)
    · replace h := itp h c1
      refine g_return rfl d_Mod_goes_17 rfl ?_
      cases h; exact hQ
    · replace h := itn h c1
      refine g_aload_n (pc1 := 8) d_Mod_goes_7 rfl 0 rfl ?_
      refine g_callV0 (pc1 := 11) (As := []) (rest := []) d_Mod_goes_8 rfl mo_Mod_368 mi_Mod_dayGoes mv_Mod_dayGoes rfl sh_401 (by decide) (by decide) rfl rfl (Nat.le_of_ble_eq_true rfl) ?_
      obtain ⟨M3, hq2, h⟩ := bnd h
      refine f_Mod_dayGoes hld  hq2 ?_
      dsimp only [psh]
      obtain ⟨x4, ex4, h⟩ := ltI h
      refine g_iinc (pc1 := 14) (v := x4) (lv' := [(0, .ref 401), (1, .int v1), (2, .int x4)]) d_Mod_goes_11 rfl 2 rfl (by rw [ex4]; rfl) (by decide) [1, 2, 0] rfl ?_
      refine g_goto (tgt := 2) d_Mod_goes_14 (by decide) ?_
      exact hK2 x4 M3 h
def F_Mod_goes (p1 : Int32) (M : gM) : Option (gM) :=
  H_Mod_goes_2 p1 FU 0 M
set_option maxHeartbeats 4000000 in
set_option maxRecDepth 20000 in
theorem f_Mod_goes {l : Launch} {ld : Nat} {M : gM} {L : gL} {Q : Option Value → gM → gL → gR → Prop} (hld : isLa ld) {p1 : Int32}  {q : gM} (h : F_Mod_goes p1 M = some q) (hQ : Q none q L (rf ld)) : Tm l y_Mod_goes (0, 0, 447) 447 [.ref 401, .int p1] M L (rf ld) Q := by
  refine Tm.of (by decide) (Nat.le_of_ble_eq_true rfl) ?_
  show Wp l y_Mod_goes (0, 0, 447) 447 0 0 0 [(0, .ref 401), (1, .int p1)] [] M L (rf ld) Q
  unfold F_Mod_goes at h
  refine g_iconst (pc1 := 1) (v := 0) d_Mod_goes_0 rfl (by decide) ?_
  refine g_istore_n (pc1 := 2) (lv' := [(0, .ref 401), (1, .int p1), (2, .int 0)]) d_Mod_goes_1 rfl rfl (by decide) [1, 2, 0] rfl ?_
  exact h_Mod_goes_2 hld  hQ  _ 0 M h

def B_Mod_isAsKnown_2 (v1 : Int32) (K2 : Int32 → gM → Option (Int32 × gM)) : Int32 → gM → Option (Int32 × gM) := fun v2 M =>
  (if v1 ≤ v2 then some (1, M) else (if (v2 : Int32) < 0 ∨ 20 ≤ (v2 : Int32).toNatClampNeg then none else (if (v2 : Int32) < 0 ∨ 20 ≤ (v2 : Int32).toNatClampNeg then none else bI2 (F_Mod_forceBy (M 441 (v2 : Int32).toNatClampNeg) (M 442 (v2 : Int32).toNatClampNeg) M) (fun r5 M6 => (if (v2 : Int32) < 0 ∨ 20 ≤ (v2 : Int32).toNatClampNeg then none else (if r5 = (M6 443 (v2 : Int32).toNatClampNeg) then nmI (v2 + 1) (fun x9 => K2 x9 M6) else some (0, M6)))))))
def H_Mod_isAsKnown_2 (v1 : Int32) : Nat → Int32 → gM → Option (Int32 × gM) := lpK (B_Mod_isAsKnown_2 v1) (fun _ _ => none)
set_option maxHeartbeats 4000000 in
set_option maxRecDepth 20000 in
theorem h_Mod_isAsKnown_2 {l : Launch} {ld : Nat} {Q : Option Value → gM → gL → gR → Prop} (hld : isLa ld)   {q : Int32 × gM} {L : gL} (hQ : Q (some (.int q.1)) q.2 L (rf ld))  {v1 : Int32}  : ∀ (f : Nat) (v2 : Int32) (M : gM), H_Mod_isAsKnown_2 v1 f v2 M = some q → Wp l y_Mod_isAsKnown (0, 0, 447) 447 0 0 2 [(0, .ref 401), (1, .int v1), (2, .int v2)] [] M L (rf ld) Q := by
  intro f
  induction f with
  | zero => intro v2 M h; cases h
  | succ f hK2 =>
    intro v2 M h
    replace h : B_Mod_isAsKnown_2 v1 (H_Mod_isAsKnown_2 v1 f) v2 M = some q := h
    unfold B_Mod_isAsKnown_2 at h
    refine g_iload_n (pc1 := 3) d_Mod_isAsKnown_2 rfl 2 rfl ?_
    refine g_iload_n (pc1 := 4) d_Mod_isAsKnown_3 rfl 1 rfl ?_
    refine g_icmp_ge (pc1 := 7) (tgt := 40) d_Mod_isAsKnown_4 (by decide) rfl (fun c1 => ?_) (fun c1 => ?_)
    · replace h := itp h c1
      refine g_iconst (pc1 := 41) (v := 1) d_Mod_isAsKnown_40 rfl (by decide) ?_
      refine g_ireturn (Or.inr ⟨rfl, rfl⟩) d_Mod_isAsKnown_41 rfl ?_
      cases h; exact hQ
    · replace h := itn h c1
      refine g_aload_n (pc1 := 8) d_Mod_isAsKnown_7 rfl 0 rfl ?_
      refine g_aload_n (pc1 := 9) d_Mod_isAsKnown_8 rfl 0 rfl ?_
      refine g_getr (pc1 := 12) d_Mod_isAsKnown_9 rfl ⟨_, fo_Mod_137⟩ sh_401 (by decide) (rf_401_65 ld) ?_
      refine g_iload_n (pc1 := 13) d_Mod_isAsKnown_12 rfl 2 rfl ?_
      obtain ⟨g2, h⟩ := gdn h
      refine g_iald (pc1 := 14) d_Mod_isAsKnown_13 rfl sh_441 (by decide) g2 ?_
      refine g_aload_n (pc1 := 15) d_Mod_isAsKnown_14 rfl 0 rfl ?_
      refine g_getr (pc1 := 18) d_Mod_isAsKnown_15 rfl ⟨_, fo_Mod_140⟩ sh_401 (by decide) (rf_401_66 ld) ?_
      refine g_iload_n (pc1 := 19) d_Mod_isAsKnown_18 rfl 2 rfl ?_
      obtain ⟨g3, h⟩ := gdn h
      refine g_iald (pc1 := 20) d_Mod_isAsKnown_19 rfl sh_442 (by decide) g3 ?_
      refine g_callV0 (pc1 := 23) (As := [.int (M 441 (v2 : Int32).toNatClampNeg), .int (M 442 (v2 : Int32).toNatClampNeg)]) (rest := []) d_Mod_isAsKnown_20 rfl mo_Mod_359 mi_Mod_forceBy mv_Mod_forceBy rfl sh_401 (by decide) (by decide) rfl rfl (Nat.le_of_ble_eq_true rfl) ?_
      obtain ⟨r5, M6, hq4, h⟩ := bnd2 h
      refine f_Mod_forceBy hld  hq4 ?_
      dsimp only [psh]
      refine g_aload_n (pc1 := 24) d_Mod_isAsKnown_23 rfl 0 rfl ?_
      refine g_getr (pc1 := 27) d_Mod_isAsKnown_24 rfl ⟨_, fo_Mod_143⟩ sh_401 (by decide) (rf_401_67 ld) ?_
      refine g_iload_n (pc1 := 28) d_Mod_isAsKnown_27 rfl 2 rfl ?_
      obtain ⟨g7, h⟩ := gdn h
      refine g_iald (pc1 := 29) d_Mod_isAsKnown_28 rfl sh_443 (by decide) g7 ?_
      refine g_icmp_eq (pc1 := 32) (tgt := 34) d_Mod_isAsKnown_29 (by decide) rfl (fun c8 => ?_) (fun c8 => ?_)
      · replace h := itp h c8
        obtain ⟨x9, ex9, h⟩ := ltI h
        refine g_iinc (pc1 := 37) (v := x9) (lv' := [(0, .ref 401), (1, .int v1), (2, .int x9)]) d_Mod_isAsKnown_34 rfl 2 rfl (by rw [ex9]; rfl) (by decide) [1, 2, 0] rfl ?_
        refine g_goto (tgt := 2) d_Mod_isAsKnown_37 (by decide) ?_
        exact hK2 x9 M6 h
      · replace h := itn h c8
        refine g_iconst (pc1 := 33) (v := 0) d_Mod_isAsKnown_32 rfl (by decide) ?_
        refine g_ireturn (Or.inr ⟨rfl, rfl⟩) d_Mod_isAsKnown_33 rfl ?_
        cases h; exact hQ
def F_Mod_isAsKnown (p1 : Int32) (M : gM) : Option (Int32 × gM) :=
  H_Mod_isAsKnown_2 p1 FU 0 M
set_option maxHeartbeats 4000000 in
set_option maxRecDepth 20000 in
theorem f_Mod_isAsKnown {l : Launch} {ld : Nat} {M : gM} {L : gL} {Q : Option Value → gM → gL → gR → Prop} (hld : isLa ld) {p1 : Int32}  {q : Int32 × gM} (h : F_Mod_isAsKnown p1 M = some q) (hQ : Q (some (.int q.1)) q.2 L (rf ld)) : Tm l y_Mod_isAsKnown (0, 0, 447) 447 [.ref 401, .int p1] M L (rf ld) Q := by
  refine Tm.of (by decide) (Nat.le_of_ble_eq_true rfl) ?_
  show Wp l y_Mod_isAsKnown (0, 0, 447) 447 0 0 0 [(0, .ref 401), (1, .int p1)] [] M L (rf ld) Q
  unfold F_Mod_isAsKnown at h
  refine g_iconst (pc1 := 1) (v := 0) d_Mod_isAsKnown_0 rfl (by decide) ?_
  refine g_istore_n (pc1 := 2) (lv' := [(0, .ref 401), (1, .int p1), (2, .int 0)]) d_Mod_isAsKnown_1 rfl rfl (by decide) [1, 2, 0] rfl ?_
  exact h_Mod_isAsKnown_2 hld  hQ  _ 0 M h

def J_Mod_pinch_144 (v2 : Int32) (v4 : Int32) (v5 : Int32) (M : gM) : Option (Int32 × gM) :=
  (if v2 = 0 then some (v4, M) else some (v5, M))
set_option maxHeartbeats 4000000 in
set_option maxRecDepth 20000 in
theorem j_Mod_pinch_144 {l : Launch} {ld : Nat} {Q : Option Value → gM → gL → gR → Prop} (hld : isLa ld)   {q : Int32 × gM} {M : gM} {L : gL} (hQ : Q (some (.int q.1)) q.2 L (rf ld))  {v2 : Int32} {v4 : Int32} {v5 : Int32}  (h : J_Mod_pinch_144 v2 v4 v5 M = some q) : Wp l y_Mod_pinch (0, 0, 447) 447 0 0 144 [(2, .int v2), (4, .int v4), (5, .int v5)] [] M L (rf ld) Q := by
  unfold J_Mod_pinch_144 at h
  refine g_iload_n (pc1 := 145) d_Mod_pinch_144 rfl 0 rfl ?_
  refine g_if_ne (pc1 := 148) (tgt := 153) d_Mod_pinch_145 (by decide) rfl (fun c13 => ?_) (fun c13 => ?_)
  · replace h := itn h c13
    refine g_iload (pc1 := 155) d_Mod_pinch_153 rfl 2 rfl ?_
    refine g_ireturn (Or.inl rfl) d_Mod_pinch_155 rfl ?_
    cases h; exact hQ
  · replace h := itp h c13
    refine g_iload (pc1 := 150) d_Mod_pinch_148 rfl 1 rfl ?_
    refine g_goto (tgt := 155) d_Mod_pinch_150 (by decide) ?_
    refine g_ireturn (Or.inl rfl) d_Mod_pinch_155 rfl ?_
    cases h; exact hQ
def J_Mod_pinch_138 (K46 : Int32 → Int32 → Int32 → gM → Option (Int32 × gM)) (v1 : Int32) (v2 : Int32) (v3 : Int32) (v4 : Int32) (v5 : Int32) (v6 : Int32) (M : gM) : Option (Int32 × gM) :=
  nmI (v6 + 1) (fun x16 => K46 v4 v5 x16 M)
set_option maxHeartbeats 4000000 in
set_option maxRecDepth 20000 in
theorem j_Mod_pinch_138 {l : Launch} {ld : Nat} {Q : Option Value → gM → gL → gR → Prop} (hld : isLa ld)   {q : Int32 × gM} {M : gM} {L : gL} (hQ : Q (some (.int q.1)) q.2 L (rf ld)) {K46 : Int32 → Int32 → Int32 → gM → Option (Int32 × gM)} {v1 : Int32} {v2 : Int32} {v3 : Int32} {v4 : Int32} {v5 : Int32} {v6 : Int32} (hK46 : ∀ (w4 : Int32) (w5 : Int32) (w6 : Int32) (M : gM), K46 w4 w5 w6 M = some q → Wp l y_Mod_pinch (0, 0, 447) 447 0 0 46 [(0, .ref 401), (1, .int v1), (2, .int v2), (3, .int v3), (4, .int w4), (5, .int w5), (6, .int w6)] [] M L (rf ld) Q) (h : J_Mod_pinch_138 K46 v1 v2 v3 v4 v5 v6 M = some q) : Wp l y_Mod_pinch (0, 0, 447) 447 0 0 138 [(0, .ref 401), (1, .int v1), (2, .int v2), (3, .int v3), (4, .int v4), (5, .int v5), (6, .int v6)] [] M L (rf ld) Q := by
  unfold J_Mod_pinch_138 at h
  obtain ⟨x16, ex16, h⟩ := ltI h
  refine g_iinc (pc1 := 141) (v := x16) (lv' := [(0, .ref 401), (1, .int v1), (2, .int v2), (3, .int v3), (4, .int v4), (5, .int v5), (6, .int x16)]) d_Mod_pinch_138 rfl 6 rfl (by rw [ex16]; rfl) (by decide) [1, 2, 3, 4, 5, 6, 0] rfl ?_
  refine g_goto (tgt := 46) d_Mod_pinch_141 (by decide) ?_
  exact hK46 v4 v5 x16 M h
def J_Mod_pinch_120 (K46 : Int32 → Int32 → Int32 → gM → Option (Int32 × gM)) (v1 : Int32) (v2 : Int32) (v3 : Int32) (v4 : Int32) (v5 : Int32) (v6 : Int32) (v7 : Int32) (M : gM) : Option (Int32 × gM) :=
  (if v5 < v7 then J_Mod_pinch_138 K46 v1 v2 v3 v6 v7 v6 M else J_Mod_pinch_138 K46 v1 v2 v3 v4 v5 v6 M)
set_option maxHeartbeats 4000000 in
set_option maxRecDepth 20000 in
theorem j_Mod_pinch_120 {l : Launch} {ld : Nat} {Q : Option Value → gM → gL → gR → Prop} (hld : isLa ld)   {q : Int32 × gM} {M : gM} {L : gL} (hQ : Q (some (.int q.1)) q.2 L (rf ld)) {K46 : Int32 → Int32 → Int32 → gM → Option (Int32 × gM)} {v1 : Int32} {v2 : Int32} {v3 : Int32} {v4 : Int32} {v5 : Int32} {v6 : Int32} {v7 : Int32} (hK46 : ∀ (w4 : Int32) (w5 : Int32) (w6 : Int32) (M : gM), K46 w4 w5 w6 M = some q → Wp l y_Mod_pinch (0, 0, 447) 447 0 0 46 [(0, .ref 401), (1, .int v1), (2, .int v2), (3, .int v3), (4, .int w4), (5, .int w5), (6, .int w6)] [] M L (rf ld) Q) (h : J_Mod_pinch_120 K46 v1 v2 v3 v4 v5 v6 v7 M = some q) : Wp l y_Mod_pinch (0, 0, 447) 447 0 0 120 [(0, .ref 401), (1, .int v1), (2, .int v2), (3, .int v3), (4, .int v4), (5, .int v5), (6, .int v6), (7, .int v7)] [] M L (rf ld) Q := by
  unfold J_Mod_pinch_120 at h
  refine g_iload (pc1 := 122) d_Mod_pinch_120 rfl 7 rfl ?_
  refine g_iload (pc1 := 124) d_Mod_pinch_122 rfl 5 rfl ?_
  refine g_icmp_gt (pc1 := 127) (tgt := 130) d_Mod_pinch_124 (by decide) rfl (fun c15 => ?_) (fun c15 => ?_)
  · replace h := itp h c15
    refine g_iload (pc1 := 132) d_Mod_pinch_130 rfl 6 rfl ?_
    refine g_istore (pc1 := 134) (lv' := [(0, .ref 401), (1, .int v1), (2, .int v2), (3, .int v3), (4, .int v6), (5, .int v5), (6, .int v6), (7, .int v7)]) d_Mod_pinch_132 rfl (by decide) [1, 2, 3, 4, 0, 5, 6, 7] rfl ?_
    refine g_iload (pc1 := 136) d_Mod_pinch_134 rfl 7 rfl ?_
    refine g_istore (pc1 := 138) (lv' := [(0, .ref 401), (1, .int v1), (2, .int v2), (3, .int v3), (4, .int v6), (5, .int v7), (6, .int v6), (7, .int v7)]) d_Mod_pinch_136 rfl (by decide) [1, 2, 3, 4, 5, 0, 6, 7] rfl ?_
    refine Wp.loc (lv' := [(0, .ref 401), (1, .int v1), (2, .int v2), (3, .int v3), (4, .int v6), (5, .int v7), (6, .int v6)]) [0, 1, 2, 3, 4, 5, 6] rfl ?_
    exact j_Mod_pinch_138 hld  hQ hK46 h
  · replace h := itn h c15
    refine g_goto (tgt := 138) d_Mod_pinch_127 (by decide) ?_
    refine Wp.loc (lv' := [(0, .ref 401), (1, .int v1), (2, .int v2), (3, .int v3), (4, .int v4), (5, .int v5), (6, .int v6)]) [0, 1, 2, 3, 4, 5, 6] rfl ?_
    exact j_Mod_pinch_138 hld  hQ hK46 h
def B_Mod_pinch_66 (K46 : Int32 → Int32 → Int32 → gM → Option (Int32 × gM)) (v1 : Int32) (v2 : Int32) (v3 : Int32) (v4 : Int32) (v5 : Int32) (v6 : Int32) (K66 : Int32 → Int32 → gM → Option (Int32 × gM)) : Int32 → Int32 → gM → Option (Int32 × gM) := fun v7 v8 M =>
  (if 3 ≤ v8 then J_Mod_pinch_120 K46 v1 v2 v3 v4 v5 v6 v7 M else bI (F_Mod_fillsPot v1 M) (fun M18 => bI2 (F_Mod_forceBy v8 v3 M18) (fun r20 M21 => (if (v6 : Int32) < 0 ∨ 6 ≤ (v6 : Int32).toNatClampNeg then none else (if (v6 : Int32) < 0 ∨ 6 ≤ (v6 : Int32).toNatClampNeg then none else nmM (uM M21 438 (v6 : Int32).toNatClampNeg ((M21 438 (v6 : Int32).toNatClampNeg) + 1)) (fun M24 => bI2 (F_Mod_forceBy v8 v3 M24) (fun r26 M27 => bI (F_Mod_off r20 r26) (fun r29 => nmI (v7 + r29) (fun x30 => nmI (v8 + 1) (fun x31 => K66 x30 x31 M27))))))))))
def H_Mod_pinch_66 (K46 : Int32 → Int32 → Int32 → gM → Option (Int32 × gM)) (v1 : Int32) (v2 : Int32) (v3 : Int32) (v4 : Int32) (v5 : Int32) (v6 : Int32) : Nat → Int32 → Int32 → gM → Option (Int32 × gM) := lpK (B_Mod_pinch_66 K46 v1 v2 v3 v4 v5 v6) (fun _ _ _ => none)
set_option maxHeartbeats 4000000 in
set_option maxRecDepth 20000 in
theorem h_Mod_pinch_66 {l : Launch} {ld : Nat} {Q : Option Value → gM → gL → gR → Prop} (hld : isLa ld)   {q : Int32 × gM} {L : gL} (hQ : Q (some (.int q.1)) q.2 L (rf ld)) {K46 : Int32 → Int32 → Int32 → gM → Option (Int32 × gM)} {v1 : Int32} {v2 : Int32} {v3 : Int32} {v4 : Int32} {v5 : Int32} {v6 : Int32} (hK46 : ∀ (w4 : Int32) (w5 : Int32) (w6 : Int32) (M : gM), K46 w4 w5 w6 M = some q → Wp l y_Mod_pinch (0, 0, 447) 447 0 0 46 [(0, .ref 401), (1, .int v1), (2, .int v2), (3, .int v3), (4, .int w4), (5, .int w5), (6, .int w6)] [] M L (rf ld) Q) : ∀ (f : Nat) (v7 : Int32) (v8 : Int32) (M : gM), H_Mod_pinch_66 K46 v1 v2 v3 v4 v5 v6 f v7 v8 M = some q → Wp l y_Mod_pinch (0, 0, 447) 447 0 0 66 [(0, .ref 401), (1, .int v1), (2, .int v2), (3, .int v3), (4, .int v4), (5, .int v5), (6, .int v6), (7, .int v7), (8, .int v8)] [] M L (rf ld) Q := by
  intro f
  induction f with
  | zero => intro v7 v8 M h; cases h
  | succ f hK66 =>
    intro v7 v8 M h
    replace h : B_Mod_pinch_66 K46 v1 v2 v3 v4 v5 v6 (H_Mod_pinch_66 K46 v1 v2 v3 v4 v5 v6 f) v7 v8 M = some q := h
    unfold B_Mod_pinch_66 at h
    refine g_iload (pc1 := 68) d_Mod_pinch_66 rfl 8 rfl ?_
    refine g_iconst (pc1 := 69) (v := 3) d_Mod_pinch_68 rfl (by decide) ?_
    refine g_icmp_ge (pc1 := 72) (tgt := 120) d_Mod_pinch_69 (by decide) rfl (fun c14 => ?_) (fun c14 => ?_)
    · replace h := itp h c14
      refine Wp.loc (lv' := [(0, .ref 401), (1, .int v1), (2, .int v2), (3, .int v3), (4, .int v4), (5, .int v5), (6, .int v6), (7, .int v7)]) [0, 1, 2, 3, 4, 5, 6, 7] rfl ?_
      exact j_Mod_pinch_120 hld  hQ hK46 h
    · replace h := itn h c14
      refine g_aload_n (pc1 := 73) d_Mod_pinch_72 rfl 0 rfl ?_
      refine g_iload_n (pc1 := 74) d_Mod_pinch_73 rfl 1 rfl ?_
      refine g_callV0 (pc1 := 77) (As := [.int v1]) (rest := []) d_Mod_pinch_74 rfl mo_Mod_356 mi_Mod_fillsPot mv_Mod_fillsPot rfl sh_401 (by decide) (by decide) rfl rfl (Nat.le_of_ble_eq_true rfl) ?_
      obtain ⟨M18, hq17, h⟩ := bnd h
      refine f_Mod_fillsPot hld  hq17 ?_
      dsimp only [psh]
      refine g_aload_n (pc1 := 78) d_Mod_pinch_77 rfl 0 rfl ?_
      refine g_iload (pc1 := 80) d_Mod_pinch_78 rfl 8 rfl ?_
      refine g_iload_n (pc1 := 81) d_Mod_pinch_80 rfl 3 rfl ?_
      refine g_callV0 (pc1 := 84) (As := [.int v8, .int v3]) (rest := []) d_Mod_pinch_81 rfl mo_Mod_359 mi_Mod_forceBy mv_Mod_forceBy rfl sh_401 (by decide) (by decide) rfl rfl (Nat.le_of_ble_eq_true rfl) ?_
      obtain ⟨r20, M21, hq19, h⟩ := bnd2 h
      refine f_Mod_forceBy hld  hq19 ?_
      dsimp only [psh]
      refine g_istore (pc1 := 86) (lv' := [(0, .ref 401), (1, .int v1), (2, .int v2), (3, .int v3), (4, .int v4), (5, .int v5), (6, .int v6), (7, .int v7), (8, .int v8), (9, .int r20)]) d_Mod_pinch_84 rfl (by decide) [1, 2, 3, 4, 5, 6, 7, 8, 9, 0] rfl ?_
      refine g_aload_n (pc1 := 87) d_Mod_pinch_86 rfl 0 rfl ?_
      refine g_getr (pc1 := 90) d_Mod_pinch_87 rfl ⟨_, fo_Mod_128⟩ sh_401 (by decide) (rf_401_55 ld) ?_
      refine g_iload (pc1 := 92) d_Mod_pinch_90 rfl 6 rfl ?_
      refine g_dup2 (pc1 := 93) d_Mod_pinch_92 rfl rfl rfl ?_
      obtain ⟨g22, h⟩ := gdn h
      refine g_iald (pc1 := 94) d_Mod_pinch_93 rfl sh_438 (by decide) g22 ?_
      refine g_iconst (pc1 := 95) (v := 1) d_Mod_pinch_94 rfl (by decide) ?_
      refine g_iadd (pc1 := 96) d_Mod_pinch_95 rfl ?_
      obtain ⟨g23, h⟩ := gdn h
      refine g_iast (pc1 := 97) d_Mod_pinch_96 rfl sh_438 (by decide) g23 ?_
      refine Wp.lM h (fun M24 h => ?_)
      refine g_iload (pc1 := 99) d_Mod_pinch_97 rfl 7 rfl ?_
      refine g_iload (pc1 := 101) d_Mod_pinch_99 rfl 9 rfl ?_
      refine g_aload_n (pc1 := 102) d_Mod_pinch_101 rfl 0 rfl ?_
      refine g_iload (pc1 := 104) d_Mod_pinch_102 rfl 8 rfl ?_
      refine g_iload_n (pc1 := 105) d_Mod_pinch_104 rfl 3 rfl ?_
      refine g_callV0 (pc1 := 108) (As := [.int v8, .int v3]) (rest := [.int r20, .int v7]) d_Mod_pinch_105 rfl mo_Mod_359 mi_Mod_forceBy mv_Mod_forceBy rfl sh_401 (by decide) (by decide) rfl rfl (Nat.le_of_ble_eq_true rfl) ?_
      obtain ⟨r26, M27, hq25, h⟩ := bnd2 h
      refine f_Mod_forceBy hld  hq25 ?_
      dsimp only [psh]
      refine g_callS0 (pc1 := 111) (As := [.int r20, .int r26]) (rest := [.int v7]) d_Mod_pinch_108 rfl mo_Mod_425 ms_Mod_off (by decide) rfl rfl (Nat.le_of_ble_eq_true rfl) ?_
      obtain ⟨r29, hq28, h⟩ := bnd h
      refine f_Mod_off hld  hq28 ?_
      dsimp only [psh]
      refine g_iadd (pc1 := 112) d_Mod_pinch_111 rfl ?_
      refine Wp.lI h (fun x30 h => ?_)
      refine g_istore (pc1 := 114) (lv' := [(0, .ref 401), (1, .int v1), (2, .int v2), (3, .int v3), (4, .int v4), (5, .int v5), (6, .int v6), (7, .int x30), (8, .int v8), (9, .int r20)]) d_Mod_pinch_112 rfl (by decide) [1, 2, 3, 4, 5, 6, 7, 0, 8, 9] rfl ?_
      obtain ⟨x31, ex31, h⟩ := ltI h
      refine g_iinc (pc1 := 117) (v := x31) (lv' := [(0, .ref 401), (1, .int v1), (2, .int v2), (3, .int v3), (4, .int v4), (5, .int v5), (6, .int v6), (7, .int x30), (8, .int x31), (9, .int r20)]) d_Mod_pinch_114 rfl 8 rfl (by rw [ex31]; rfl) (by decide) [1, 2, 3, 4, 5, 6, 7, 8, 0, 9] rfl ?_
      refine g_goto (tgt := 66) d_Mod_pinch_117 (by decide) ?_
      refine Wp.loc (lv' := [(0, .ref 401), (1, .int v1), (2, .int v2), (3, .int v3), (4, .int v4), (5, .int v5), (6, .int v6), (7, .int x30), (8, .int x31)]) [0, 1, 2, 3, 4, 5, 6, 7, 8] rfl ?_
      exact hK66 x30 x31 M27 h
def B_Mod_pinch_46 (v1 : Int32) (v2 : Int32) (v3 : Int32) (K46 : Int32 → Int32 → Int32 → gM → Option (Int32 × gM)) : Int32 → Int32 → Int32 → gM → Option (Int32 × gM) := fun v4 v5 v6 M =>
  (if ((M 401 18) : Int32) < 0 ∨ 2 ≤ ((M 401 18) : Int32).toNatClampNeg then none else (if (M 411 ((M 401 18) : Int32).toNatClampNeg) ≤ v6 then J_Mod_pinch_144 v2 v4 v5 M else H_Mod_pinch_66 K46 v1 v2 v3 v4 v5 v6 FU 0 0 M))
def H_Mod_pinch_46 (v1 : Int32) (v2 : Int32) (v3 : Int32) : Nat → Int32 → Int32 → Int32 → gM → Option (Int32 × gM) := lpK (B_Mod_pinch_46 v1 v2 v3) (fun _ _ _ _ => none)
set_option maxHeartbeats 4000000 in
set_option maxRecDepth 20000 in
theorem h_Mod_pinch_46 {l : Launch} {ld : Nat} {Q : Option Value → gM → gL → gR → Prop} (hld : isLa ld)   {q : Int32 × gM} {L : gL} (hQ : Q (some (.int q.1)) q.2 L (rf ld))  {v1 : Int32} {v2 : Int32} {v3 : Int32}  : ∀ (f : Nat) (v4 : Int32) (v5 : Int32) (v6 : Int32) (M : gM), H_Mod_pinch_46 v1 v2 v3 f v4 v5 v6 M = some q → Wp l y_Mod_pinch (0, 0, 447) 447 0 0 46 [(0, .ref 401), (1, .int v1), (2, .int v2), (3, .int v3), (4, .int v4), (5, .int v5), (6, .int v6)] [] M L (rf ld) Q := by
  intro f
  induction f with
  | zero => intro v4 v5 v6 M h; cases h
  | succ f hK46 =>
    intro v4 v5 v6 M h
    replace h : B_Mod_pinch_46 v1 v2 v3 (H_Mod_pinch_46 v1 v2 v3 f) v4 v5 v6 M = some q := h
    unfold B_Mod_pinch_46 at h
    refine g_iload (pc1 := 48) d_Mod_pinch_46 rfl 6 rfl ?_
    refine g_aload_n (pc1 := 49) d_Mod_pinch_48 rfl 0 rfl ?_
    refine g_getr (pc1 := 52) d_Mod_pinch_49 rfl ⟨_, fo_Mod_46⟩ sh_401 (by decide) (rf_401_23 ld) ?_
    refine g_aload_n (pc1 := 53) d_Mod_pinch_52 rfl 0 rfl ?_
    refine g_geti (pc1 := 56) d_Mod_pinch_53 rfl ⟨_, fo_Mod_236⟩ sh_401 (by decide) ?_
    obtain ⟨g11, h⟩ := gdn h
    refine g_iald (pc1 := 57) d_Mod_pinch_56 rfl sh_411 (by decide) g11 ?_
    refine g_icmp_ge (pc1 := 60) (tgt := 144) d_Mod_pinch_57 (by decide) rfl (fun c12 => ?_) (fun c12 => ?_)
    · replace h := itp h c12
      refine Wp.loc (lv' := [(2, .int v2), (4, .int v4), (5, .int v5)]) [2, 4, 5] rfl ?_
      exact j_Mod_pinch_144 hld  hQ  h
    · replace h := itn h c12
      refine g_iconst (pc1 := 61) (v := 0) d_Mod_pinch_60 rfl (by decide) ?_
      refine g_istore (pc1 := 63) (lv' := [(0, .ref 401), (1, .int v1), (2, .int v2), (3, .int v3), (4, .int v4), (5, .int v5), (6, .int v6), (7, .int 0)]) d_Mod_pinch_61 rfl (by decide) [1, 2, 3, 4, 5, 6, 7, 0] rfl ?_
      refine g_iconst (pc1 := 64) (v := 0) d_Mod_pinch_63 rfl (by decide) ?_
      refine g_istore (pc1 := 66) (lv' := [(0, .ref 401), (1, .int v1), (2, .int v2), (3, .int v3), (4, .int v4), (5, .int v5), (6, .int v6), (7, .int 0), (8, .int 0)]) d_Mod_pinch_64 rfl (by decide) [1, 2, 3, 4, 5, 6, 7, 8, 0] rfl ?_
      exact h_Mod_pinch_66 hld  hQ hK46 _ 0 0 M h
def F_Mod_pinch (p1 : Int32) (p2 : Int32) (M : gM) : Option (Int32 × gM) :=
  bI (F_Mod_isDish p1 M) (fun r2 => (if r2 = 0 then some ((-1), M) else bI (F_Mod_in p2 0 1) (fun r5 => (if r5 = 0 then some ((-1), M) else bI (F_Mod_copies M) (fun M8 => (if (((5 * (M8 401 18)) + p1) : Int32) < 0 ∨ 10 ≤ (((5 * (M8 401 18)) + p1) : Int32).toNatClampNeg then none else nmI (M8 416 (((5 * (M8 401 18)) + p1) : Int32).toNatClampNeg) (fun x10 => H_Mod_pinch_46 p1 p2 x10 FU 0 (-1) 0 M8)))))))
set_option maxHeartbeats 4000000 in
set_option maxRecDepth 20000 in
theorem f_Mod_pinch {l : Launch} {ld : Nat} {M : gM} {L : gL} {Q : Option Value → gM → gL → gR → Prop} (hld : isLa ld) {p1 : Int32} {p2 : Int32}  {q : Int32 × gM} (h : F_Mod_pinch p1 p2 M = some q) (hQ : Q (some (.int q.1)) q.2 L (rf ld)) : Tm l y_Mod_pinch (0, 0, 447) 447 [.ref 401, .int p1, .int p2] M L (rf ld) Q := by
  refine Tm.of (by decide) (Nat.le_of_ble_eq_true rfl) ?_
  show Wp l y_Mod_pinch (0, 0, 447) 447 0 0 0 [(0, .ref 401), (1, .int p1), (2, .int p2)] [] M L (rf ld) Q
  unfold F_Mod_pinch at h
  refine g_aload_n (pc1 := 1) d_Mod_pinch_0 rfl 0 rfl ?_
  refine g_iload_n (pc1 := 2) d_Mod_pinch_1 rfl 1 rfl ?_
  refine g_callV0 (pc1 := 5) (As := [.int p1]) (rest := []) d_Mod_pinch_2 rfl mo_Mod_374 mi_Mod_isDish mv_Mod_isDish rfl sh_401 (by decide) (by decide) rfl rfl (Nat.le_of_ble_eq_true rfl) ?_
  obtain ⟨r2, hq1, h⟩ := bnd h
  refine f_Mod_isDish hld  hq1 ?_
  dsimp only [psh]
  refine g_if_eq (pc1 := 8) (tgt := 17) d_Mod_pinch_5 (by decide) rfl (fun c3 => ?_) (fun c3 => ?_)
  · replace h := itp h c3
    refine g_iconst (pc1 := 18) (v := (-1)) d_Mod_pinch_17 rfl (by decide) ?_
    refine g_ireturn (Or.inl rfl) d_Mod_pinch_18 rfl ?_
    cases h; exact hQ
  · replace h := itn h c3
    refine g_iload_n (pc1 := 9) d_Mod_pinch_8 rfl 2 rfl ?_
    refine g_iconst (pc1 := 10) (v := 0) d_Mod_pinch_9 rfl (by decide) ?_
    refine g_iconst (pc1 := 11) (v := 1) d_Mod_pinch_10 rfl (by decide) ?_
    refine g_callS0 (pc1 := 14) (As := [.int p2, .int 0, .int 1]) (rest := []) d_Mod_pinch_11 rfl mo_Mod_316 ms_Mod_in (by decide) rfl rfl (Nat.le_of_ble_eq_true rfl) ?_
    obtain ⟨r5, hq4, h⟩ := bnd h
    refine f_Mod_in hld  hq4 ?_
    dsimp only [psh]
    refine g_if_ne (pc1 := 17) (tgt := 19) d_Mod_pinch_14 (by decide) rfl (fun c6 => ?_) (fun c6 => ?_)
    · replace h := itn h c6
      refine g_aload_n (pc1 := 20) d_Mod_pinch_19 rfl 0 rfl ?_
      refine g_callV0 (pc1 := 23) (As := []) (rest := []) d_Mod_pinch_20 rfl mo_Mod_377 mi_Mod_copies mv_Mod_copies rfl sh_401 (by decide) (by decide) rfl rfl (Nat.le_of_ble_eq_true rfl) ?_
      obtain ⟨M8, hq7, h⟩ := bnd h
      refine f_Mod_copies hld  hq7 ?_
      dsimp only [psh]
      refine g_aload_n (pc1 := 24) d_Mod_pinch_23 rfl 0 rfl ?_
      refine g_getr (pc1 := 27) d_Mod_pinch_24 rfl ⟨_, fo_Mod_61⟩ sh_401 (by decide) (rf_401_28 ld) ?_
      refine g_iconst (pc1 := 28) (v := 5) d_Mod_pinch_27 rfl (by decide) ?_
      refine g_aload_n (pc1 := 29) d_Mod_pinch_28 rfl 0 rfl ?_
      refine g_geti (pc1 := 32) d_Mod_pinch_29 rfl ⟨_, fo_Mod_236⟩ sh_401 (by decide) ?_
      refine g_imul (pc1 := 33) d_Mod_pinch_32 rfl ?_
      refine g_iload_n (pc1 := 34) d_Mod_pinch_33 rfl 1 rfl ?_
      refine g_iadd (pc1 := 35) d_Mod_pinch_34 rfl ?_
      obtain ⟨g9, h⟩ := gdn h
      refine g_iald (pc1 := 36) d_Mod_pinch_35 rfl sh_416 (by decide) g9 ?_
      refine Wp.lI h (fun x10 h => ?_)
      refine g_istore_n (pc1 := 37) (lv' := [(0, .ref 401), (1, .int p1), (2, .int p2), (3, .int x10)]) d_Mod_pinch_36 rfl rfl (by decide) [1, 2, 3, 0] rfl ?_
      refine g_iconst (pc1 := 38) (v := 0) d_Mod_pinch_37 rfl (by decide) ?_
      refine g_istore (pc1 := 40) (lv' := [(0, .ref 401), (1, .int p1), (2, .int p2), (3, .int x10), (4, .int 0)]) d_Mod_pinch_38 rfl (by decide) [1, 2, 3, 4, 0] rfl ?_
      refine g_iconst (pc1 := 41) (v := (-1)) d_Mod_pinch_40 rfl (by decide) ?_
      refine g_istore (pc1 := 43) (lv' := [(0, .ref 401), (1, .int p1), (2, .int p2), (3, .int x10), (4, .int 0), (5, .int (-1))]) d_Mod_pinch_41 rfl (by decide) [1, 2, 3, 4, 5, 0] rfl ?_
      refine g_iconst (pc1 := 44) (v := 0) d_Mod_pinch_43 rfl (by decide) ?_
      refine g_istore (pc1 := 46) (lv' := [(0, .ref 401), (1, .int p1), (2, .int p2), (3, .int x10), (4, .int 0), (5, .int (-1)), (6, .int 0)]) d_Mod_pinch_44 rfl (by decide) [1, 2, 3, 4, 5, 6, 0] rfl ?_
      exact h_Mod_pinch_46 hld  hQ  _ 0 (-1) 0 M8 h
    · replace h := itp h c6
      refine g_iconst (pc1 := 18) (v := (-1)) d_Mod_pinch_17 rfl (by decide) ?_
      refine g_ireturn (Or.inl rfl) d_Mod_pinch_18 rfl ?_
      cases h; exact hQ

def J_Mod_potAt_46 (K3 : Int32 → gM → Option (Int32 × gM)) (v1 : Int32) (v2 : Int32) (v3 : Int32) (v4 : Int32) (M : gM) : Option (Int32 × gM) :=
  nmI (v4 + 1) (fun x6 => K3 x6 M)
set_option maxHeartbeats 4000000 in
set_option maxRecDepth 20000 in
theorem j_Mod_potAt_46 {l : Launch} {ld : Nat} {Q : Option Value → gM → gL → gR → Prop} (hld : isLa ld)   {q : Int32 × gM} {M : gM} {L : gL} (hQ : Q (some (.int q.1)) q.2 L (rf ld)) {K3 : Int32 → gM → Option (Int32 × gM)} {v1 : Int32} {v2 : Int32} {v3 : Int32} {v4 : Int32} (hK3 : ∀ (w4 : Int32) (M : gM), K3 w4 M = some q → Wp l y_Mod_potAt (0, 0, 447) 447 0 0 3 [(0, .ref 401), (1, .int v1), (2, .int v2), (3, .int v3), (4, .int w4)] [] M L (rf ld) Q) (h : J_Mod_potAt_46 K3 v1 v2 v3 v4 M = some q) : Wp l y_Mod_potAt (0, 0, 447) 447 0 0 46 [(0, .ref 401), (1, .int v1), (2, .int v2), (3, .int v3), (4, .int v4)] [] M L (rf ld) Q := by
  unfold J_Mod_potAt_46 at h
  obtain ⟨x6, ex6, h⟩ := ltI h
  refine g_iinc (pc1 := 49) (v := x6) (lv' := [(0, .ref 401), (1, .int v1), (2, .int v2), (3, .int v3), (4, .int x6)]) d_Mod_potAt_46 rfl 4 rfl (by rw [ex6]; rfl) (by decide) [1, 2, 3, 4, 0] rfl ?_
  refine g_goto (tgt := 3) d_Mod_potAt_49 (by decide) ?_
  exact hK3 x6 M h
def B_Mod_potAt_3 (v1 : Int32) (v2 : Int32) (v3 : Int32) (K3 : Int32 → gM → Option (Int32 × gM)) : Int32 → gM → Option (Int32 × gM) := fun v4 M =>
  (if 9 < v4 then some ((-1), M) else bI2 (F_Mod_forceBy 0 v4 M) (fun r3 M4 => (if r3 < v1 then J_Mod_potAt_46 K3 v1 v2 v3 v4 M4 else bI2 (F_Mod_forceBy 1 v4 M4) (fun r8 M9 => (if r8 < v2 then J_Mod_potAt_46 K3 v1 v2 v3 v4 M9 else bI2 (F_Mod_forceBy 2 v4 M9) (fun r12 M13 => (if r12 < v3 then J_Mod_potAt_46 K3 v1 v2 v3 v4 M13 else some (v4, M13))))))))
def H_Mod_potAt_3 (v1 : Int32) (v2 : Int32) (v3 : Int32) : Nat → Int32 → gM → Option (Int32 × gM) := lpK (B_Mod_potAt_3 v1 v2 v3) (fun _ _ => none)
set_option maxHeartbeats 4000000 in
set_option maxRecDepth 20000 in
theorem h_Mod_potAt_3 {l : Launch} {ld : Nat} {Q : Option Value → gM → gL → gR → Prop} (hld : isLa ld)   {q : Int32 × gM} {L : gL} (hQ : Q (some (.int q.1)) q.2 L (rf ld))  {v1 : Int32} {v2 : Int32} {v3 : Int32}  : ∀ (f : Nat) (v4 : Int32) (M : gM), H_Mod_potAt_3 v1 v2 v3 f v4 M = some q → Wp l y_Mod_potAt (0, 0, 447) 447 0 0 3 [(0, .ref 401), (1, .int v1), (2, .int v2), (3, .int v3), (4, .int v4)] [] M L (rf ld) Q := by
  intro f
  induction f with
  | zero => intro v4 M h; cases h
  | succ f hK3 =>
    intro v4 M h
    replace h : B_Mod_potAt_3 v1 v2 v3 (H_Mod_potAt_3 v1 v2 v3 f) v4 M = some q := h
    unfold B_Mod_potAt_3 at h
    refine g_iload (pc1 := 5) d_Mod_potAt_3 rfl 4 rfl ?_
    refine g_bipush (pc1 := 7) (v := 9) d_Mod_potAt_5 rfl (by decide) ?_
    refine g_icmp_gt (pc1 := 10) (tgt := 52) d_Mod_potAt_7 (by decide) rfl (fun c1 => ?_) (fun c1 => ?_)
    · replace h := itp h c1
      refine g_iconst (pc1 := 53) (v := (-1)) d_Mod_potAt_52 rfl (by decide) ?_
      refine g_ireturn (Or.inl rfl) d_Mod_potAt_53 rfl ?_
      cases h; exact hQ
    · replace h := itn h c1
      refine g_aload_n (pc1 := 11) d_Mod_potAt_10 rfl 0 rfl ?_
      refine g_iconst (pc1 := 12) (v := 0) d_Mod_potAt_11 rfl (by decide) ?_
      refine g_iload (pc1 := 14) d_Mod_potAt_12 rfl 4 rfl ?_
      refine g_callV0 (pc1 := 17) (As := [.int 0, .int v4]) (rest := []) d_Mod_potAt_14 rfl mo_Mod_359 mi_Mod_forceBy mv_Mod_forceBy rfl sh_401 (by decide) (by decide) rfl rfl (Nat.le_of_ble_eq_true rfl) ?_
      obtain ⟨r3, M4, hq2, h⟩ := bnd2 h
      refine f_Mod_forceBy hld  hq2 ?_
      dsimp only [psh]
      refine g_iload_n (pc1 := 18) d_Mod_potAt_17 rfl 1 rfl ?_
      refine g_icmp_lt (pc1 := 21) (tgt := 46) d_Mod_potAt_18 (by decide) rfl (fun c5 => ?_) (fun c5 => ?_)
      · replace h := itp h c5
        exact j_Mod_potAt_46 hld  hQ hK3 h
      · replace h := itn h c5
        refine g_aload_n (pc1 := 22) d_Mod_potAt_21 rfl 0 rfl ?_
        refine g_iconst (pc1 := 23) (v := 1) d_Mod_potAt_22 rfl (by decide) ?_
        refine g_iload (pc1 := 25) d_Mod_potAt_23 rfl 4 rfl ?_
        refine g_callV0 (pc1 := 28) (As := [.int 1, .int v4]) (rest := []) d_Mod_potAt_25 rfl mo_Mod_359 mi_Mod_forceBy mv_Mod_forceBy rfl sh_401 (by decide) (by decide) rfl rfl (Nat.le_of_ble_eq_true rfl) ?_
        obtain ⟨r8, M9, hq7, h⟩ := bnd2 h
        refine f_Mod_forceBy hld  hq7 ?_
        dsimp only [psh]
        refine g_iload_n (pc1 := 29) d_Mod_potAt_28 rfl 2 rfl ?_
        refine g_icmp_lt (pc1 := 32) (tgt := 46) d_Mod_potAt_29 (by decide) rfl (fun c10 => ?_) (fun c10 => ?_)
        · replace h := itp h c10
          exact j_Mod_potAt_46 hld  hQ hK3 h
        · replace h := itn h c10
          refine g_aload_n (pc1 := 33) d_Mod_potAt_32 rfl 0 rfl ?_
          refine g_iconst (pc1 := 34) (v := 2) d_Mod_potAt_33 rfl (by decide) ?_
          refine g_iload (pc1 := 36) d_Mod_potAt_34 rfl 4 rfl ?_
          refine g_callV0 (pc1 := 39) (As := [.int 2, .int v4]) (rest := []) d_Mod_potAt_36 rfl mo_Mod_359 mi_Mod_forceBy mv_Mod_forceBy rfl sh_401 (by decide) (by decide) rfl rfl (Nat.le_of_ble_eq_true rfl) ?_
          obtain ⟨r12, M13, hq11, h⟩ := bnd2 h
          refine f_Mod_forceBy hld  hq11 ?_
          dsimp only [psh]
          refine g_iload_n (pc1 := 40) d_Mod_potAt_39 rfl 3 rfl ?_
          refine g_icmp_lt (pc1 := 43) (tgt := 46) d_Mod_potAt_40 (by decide) rfl (fun c14 => ?_) (fun c14 => ?_)
          · replace h := itp h c14
            exact j_Mod_potAt_46 hld  hQ hK3 h
          · replace h := itn h c14
            refine g_iload (pc1 := 45) d_Mod_potAt_43 rfl 4 rfl ?_
            refine g_ireturn (Or.inl rfl) d_Mod_potAt_45 rfl ?_
            cases h; exact hQ
def F_Mod_potAt (p1 : Int32) (p2 : Int32) (p3 : Int32) (M : gM) : Option (Int32 × gM) :=
  H_Mod_potAt_3 p1 p2 p3 FU 0 M
set_option maxHeartbeats 4000000 in
set_option maxRecDepth 20000 in
theorem f_Mod_potAt {l : Launch} {ld : Nat} {M : gM} {L : gL} {Q : Option Value → gM → gL → gR → Prop} (hld : isLa ld) {p1 : Int32} {p2 : Int32} {p3 : Int32}  {q : Int32 × gM} (h : F_Mod_potAt p1 p2 p3 M = some q) (hQ : Q (some (.int q.1)) q.2 L (rf ld)) : Tm l y_Mod_potAt (0, 0, 447) 447 [.ref 401, .int p1, .int p2, .int p3] M L (rf ld) Q := by
  refine Tm.of (by decide) (Nat.le_of_ble_eq_true rfl) ?_
  show Wp l y_Mod_potAt (0, 0, 447) 447 0 0 0 [(0, .ref 401), (1, .int p1), (2, .int p2), (3, .int p3)] [] M L (rf ld) Q
  unfold F_Mod_potAt at h
  refine g_iconst (pc1 := 1) (v := 0) d_Mod_potAt_0 rfl (by decide) ?_
  refine g_istore (pc1 := 3) (lv' := [(0, .ref 401), (1, .int p1), (2, .int p2), (3, .int p3), (4, .int 0)]) d_Mod_potAt_1 rfl (by decide) [1, 2, 3, 4, 0] rfl ?_
  exact h_Mod_potAt_3 hld  hQ  _ 0 M h

def J_Mod_tellDish_127 (v2 : Int32) (M : gM) (L : gL) : Option (gM × gL) :=
  bI2 (F_Mod_ends v2 (-1) M L) (fun M21 L22 => (if (M21 401 13) = 0 then (if ((M21 401 19) : Int32) < 0 ∨ 2 ≤ ((M21 401 19) : Int32).toNatClampNeg then none else (if ((M21 401 19) : Int32) < 0 ∨ 2 ≤ ((M21 401 19) : Int32).toNatClampNeg then none else nmM (uM M21 415 ((M21 401 19) : Int32).toNatClampNeg ((M21 415 ((M21 401 19) : Int32).toNatClampNeg) + 1)) (fun M26 => some (M26, L22)))) else some (M21, L22)))
set_option maxHeartbeats 4000000 in
set_option maxRecDepth 20000 in
theorem j_Mod_tellDish_127 {l : Launch} {ld : Nat} {Q : Option Value → gM → gL → gR → Prop} (hld : isLa ld)   {q : gM × gL} {M : gM} {L : gL} (hQ : Q none q.1 q.2 (rf ld))  {v2 : Int32}  (h : J_Mod_tellDish_127 v2 M L = some q) : Wp l y_Mod_tellDish (0, 0, 447) 447 0 0 127 [(0, .ref 401), (2, .int v2)] [] M L (rf ld) Q := by
  unfold J_Mod_tellDish_127 at h
  refine g_aload_n (pc1 := 128) d_Mod_tellDish_127 rfl 0 rfl ?_
  refine g_iload_n (pc1 := 129) d_Mod_tellDish_128 rfl 1 rfl ?_
  refine g_iconst (pc1 := 130) (v := (-1)) d_Mod_tellDish_129 rfl (by decide) ?_
  refine g_callV0 (pc1 := 133) (As := [.int v2, .int (-1)]) (rest := []) d_Mod_tellDish_130 rfl mo_Mod_278 mi_Mod_ends mv_Mod_ends rfl sh_401 (by decide) (by decide) rfl rfl (Nat.le_of_ble_eq_true rfl) ?_
  obtain ⟨M21, L22, hq20, h⟩ := bnd2 h
  refine f_Mod_ends hld  hq20 ?_
  dsimp only [psh]
  refine g_aload_n (pc1 := 134) d_Mod_tellDish_133 rfl 0 rfl ?_
  refine g_geti (pc1 := 137) d_Mod_tellDish_134 rfl ⟨_, fo_Mod_206⟩ sh_401 (by decide) ?_
  refine g_if_ne (pc1 := 140) (tgt := 153) d_Mod_tellDish_137 (by decide) rfl (fun c23 => ?_) (fun c23 => ?_)
  · replace h := itn h c23
    refine g_return rfl d_Mod_tellDish_153 rfl ?_
    cases h; exact hQ
  · replace h := itp h c23
    refine g_aload_n (pc1 := 141) d_Mod_tellDish_140 rfl 0 rfl ?_
    refine g_getr (pc1 := 144) d_Mod_tellDish_141 rfl ⟨_, fo_Mod_58⟩ sh_401 (by decide) (rf_401_27 ld) ?_
    refine g_aload_n (pc1 := 145) d_Mod_tellDish_144 rfl 0 rfl ?_
    refine g_geti (pc1 := 148) d_Mod_tellDish_145 rfl ⟨_, fo_Mod_239⟩ sh_401 (by decide) ?_
    refine g_dup2 (pc1 := 149) d_Mod_tellDish_148 rfl rfl rfl ?_
    obtain ⟨g24, h⟩ := gdn h
    refine g_iald (pc1 := 150) d_Mod_tellDish_149 rfl sh_415 (by decide) g24 ?_
    refine g_iconst (pc1 := 151) (v := 1) d_Mod_tellDish_150 rfl (by decide) ?_
    refine g_iadd (pc1 := 152) d_Mod_tellDish_151 rfl ?_
    obtain ⟨g25, h⟩ := gdn h
    refine g_iast (pc1 := 153) d_Mod_tellDish_152 rfl sh_415 (by decide) g25 ?_
    refine Wp.lM h (fun M26 h => ?_)
    refine g_return rfl d_Mod_tellDish_153 rfl ?_
    cases h; exact hQ
def J_Mod_tellDish_109 (K63 : Int32 → gM → Option (gM × gL)) (v1 : Int32) (v2 : Int32) (v3 : Int32) (M : gM) (L : gL) : Option (gM × gL) :=
  nmI (v3 + 1) (fun x18 => (if (M 401 13) = 0 then bI (F_Mod_is 1 M) (fun r28 => (if r28 = 0 then J_Mod_tellDish_127 v2 M L else K63 x18 M)) else J_Mod_tellDish_127 v2 M L))
set_option maxHeartbeats 4000000 in
set_option maxRecDepth 20000 in
theorem j_Mod_tellDish_109 {l : Launch} {ld : Nat} {Q : Option Value → gM → gL → gR → Prop} (hld : isLa ld)   {q : gM × gL} {M : gM} {L : gL} (hQ : Q none q.1 q.2 (rf ld)) {K63 : Int32 → gM → Option (gM × gL)} {v1 : Int32} {v2 : Int32} {v3 : Int32} (hK63 : ∀ (w3 : Int32) (M : gM), K63 w3 M = some q → Wp l y_Mod_tellDish (0, 0, 447) 447 0 0 63 [(0, .ref 401), (1, .int v1), (2, .int v2), (3, .int w3)] [] M L (rf ld) Q) (h : J_Mod_tellDish_109 K63 v1 v2 v3 M L = some q) : Wp l y_Mod_tellDish (0, 0, 447) 447 0 0 109 [(0, .ref 401), (1, .int v1), (2, .int v2), (3, .int v3)] [] M L (rf ld) Q := by
  unfold J_Mod_tellDish_109 at h
  obtain ⟨x18, ex18, h⟩ := ltI h
  refine g_iinc (pc1 := 112) (v := x18) (lv' := [(0, .ref 401), (1, .int v1), (2, .int v2), (3, .int x18)]) d_Mod_tellDish_109 rfl 3 rfl (by rw [ex18]; rfl) (by decide) [1, 2, 3, 0] rfl ?_
  refine g_aload_n (pc1 := 113) d_Mod_tellDish_112 rfl 0 rfl ?_
  refine g_geti (pc1 := 116) d_Mod_tellDish_113 rfl ⟨_, fo_Mod_206⟩ sh_401 (by decide) ?_
  refine g_if_ne (pc1 := 119) (tgt := 127) d_Mod_tellDish_116 (by decide) rfl (fun c19 => ?_) (fun c19 => ?_)
  · replace h := itn h c19
    refine Wp.loc (lv' := [(0, .ref 401), (2, .int v2)]) [0, 2] rfl ?_
    exact j_Mod_tellDish_127 hld  hQ  h
  · replace h := itp h c19
    refine g_aload_n (pc1 := 120) d_Mod_tellDish_119 rfl 0 rfl ?_
    refine g_iconst (pc1 := 121) (v := 1) d_Mod_tellDish_120 rfl (by decide) ?_
    refine g_callV0 (pc1 := 124) (As := [.int 1]) (rest := []) d_Mod_tellDish_121 rfl mo_Mod_224 mi_Mod_is mv_Mod_is rfl sh_401 (by decide) (by decide) rfl rfl (Nat.le_of_ble_eq_true rfl) ?_
    obtain ⟨r28, hq27, h⟩ := bnd h
    refine f_Mod_is hld  hq27 ?_
    dsimp only [psh]
    refine g_if_ne (pc1 := 127) (tgt := 63) d_Mod_tellDish_124 (by decide) rfl (fun c29 => ?_) (fun c29 => ?_)
    · replace h := itn h c29
      exact hK63 x18 M h
    · replace h := itp h c29
      refine Wp.loc (lv' := [(0, .ref 401), (2, .int v2)]) [0, 2] rfl ?_
      exact j_Mod_tellDish_127 hld  hQ  h
def J_Mod_tellDish_74 (K63 : Int32 → gM → Option (gM × gL)) (v1 : Int32) (v2 : Int32) (v3 : Int32) (M : gM) (L : gL) : Option (gM × gL) :=
  (if (M 401 13) ≤ 0 then bI2 (F_Mod_knownFood M L) (fun r15 M16 => (if r15 < 0 then J_Mod_tellDish_109 K63 v1 v2 v3 M16 L else (if (((6 * v1) + r15) : Int32) < 0 ∨ 60 ≤ (((6 * v1) + r15) : Int32).toNatClampNeg then none else (if (((6 * v1) + r15) : Int32) < 0 ∨ 60 ≤ (((6 * v1) + r15) : Int32).toNatClampNeg then none else nmM (uM M16 417 (((6 * v1) + r15) : Int32).toNatClampNeg ((M16 417 (((6 * v1) + r15) : Int32).toNatClampNeg) + 1)) (fun M32 => J_Mod_tellDish_109 K63 v1 v2 v3 M32 L))))) else some (M, L))
set_option maxHeartbeats 4000000 in
set_option maxRecDepth 20000 in
theorem j_Mod_tellDish_74 {l : Launch} {ld : Nat} {Q : Option Value → gM → gL → gR → Prop} (hld : isLa ld)   {q : gM × gL} {M : gM} {L : gL} (hQ : Q none q.1 q.2 (rf ld)) {K63 : Int32 → gM → Option (gM × gL)} {v1 : Int32} {v2 : Int32} {v3 : Int32} (hK63 : ∀ (w3 : Int32) (M : gM), K63 w3 M = some q → Wp l y_Mod_tellDish (0, 0, 447) 447 0 0 63 [(0, .ref 401), (1, .int v1), (2, .int v2), (3, .int w3)] [] M L (rf ld) Q) (h : J_Mod_tellDish_74 K63 v1 v2 v3 M L = some q) : Wp l y_Mod_tellDish (0, 0, 447) 447 0 0 74 [(0, .ref 401), (1, .int v1), (2, .int v2), (3, .int v3)] [] M L (rf ld) Q := by
  unfold J_Mod_tellDish_74 at h
  refine g_aload_n (pc1 := 75) d_Mod_tellDish_74 rfl 0 rfl ?_
  refine g_geti (pc1 := 78) d_Mod_tellDish_75 rfl ⟨_, fo_Mod_206⟩ sh_401 (by decide) ?_
  refine g_if_le (pc1 := 81) (tgt := 82) d_Mod_tellDish_78 (by decide) rfl (fun c13 => ?_) (fun c13 => ?_)
  · replace h := itp h c13
    refine g_aload_n (pc1 := 83) d_Mod_tellDish_82 rfl 0 rfl ?_
    refine g_callV0 (pc1 := 86) (As := []) (rest := []) d_Mod_tellDish_83 rfl mo_Mod_290 mi_Mod_knownFood mv_Mod_knownFood rfl sh_401 (by decide) (by decide) rfl rfl (Nat.le_of_ble_eq_true rfl) ?_
    obtain ⟨r15, M16, hq14, h⟩ := bnd2 h
    refine f_Mod_knownFood hld  hq14 ?_
    dsimp only [psh]
    refine g_istore (pc1 := 88) (lv' := [(0, .ref 401), (1, .int v1), (2, .int v2), (3, .int v3), (4, .int r15)]) d_Mod_tellDish_86 rfl (by decide) [1, 2, 3, 4, 0] rfl ?_
    refine g_iload (pc1 := 90) d_Mod_tellDish_88 rfl 4 rfl ?_
    refine g_if_lt (pc1 := 93) (tgt := 109) d_Mod_tellDish_90 (by decide) rfl (fun c17 => ?_) (fun c17 => ?_)
    · replace h := itp h c17
      refine Wp.loc (lv' := [(0, .ref 401), (1, .int v1), (2, .int v2), (3, .int v3)]) [0, 1, 2, 3] rfl ?_
      exact j_Mod_tellDish_109 hld  hQ hK63 h
    · replace h := itn h c17
      refine g_aload_n (pc1 := 94) d_Mod_tellDish_93 rfl 0 rfl ?_
      refine g_getr (pc1 := 97) d_Mod_tellDish_94 rfl ⟨_, fo_Mod_64⟩ sh_401 (by decide) (rf_401_29 ld) ?_
      refine g_bipush (pc1 := 99) (v := 6) d_Mod_tellDish_97 rfl (by decide) ?_
      refine g_iload_n (pc1 := 100) d_Mod_tellDish_99 rfl 1 rfl ?_
      refine g_imul (pc1 := 101) d_Mod_tellDish_100 rfl ?_
      refine g_iload (pc1 := 103) d_Mod_tellDish_101 rfl 4 rfl ?_
      refine g_iadd (pc1 := 104) d_Mod_tellDish_103 rfl ?_
      refine g_dup2 (pc1 := 105) d_Mod_tellDish_104 rfl rfl rfl ?_
      obtain ⟨g30, h⟩ := gdn h
      refine g_iald (pc1 := 106) d_Mod_tellDish_105 rfl sh_417 (by decide) g30 ?_
      refine g_iconst (pc1 := 107) (v := 1) d_Mod_tellDish_106 rfl (by decide) ?_
      refine g_iadd (pc1 := 108) d_Mod_tellDish_107 rfl ?_
      obtain ⟨g31, h⟩ := gdn h
      refine g_iast (pc1 := 109) d_Mod_tellDish_108 rfl sh_417 (by decide) g31 ?_
      refine Wp.lM h (fun M32 h => ?_)
      refine Wp.loc (lv' := [(0, .ref 401), (1, .int v1), (2, .int v2), (3, .int v3)]) [0, 1, 2, 3] rfl ?_
      exact j_Mod_tellDish_109 hld  hQ hK63 h
  · replace h := itn h c13
    refine g_return rfl d_Mod_tellDish_81 rfl ?_
    cases h; exact hQ
def B_Mod_tellDish_63 (v1 : Int32) (v2 : Int32) (L : gL) (K63 : Int32 → gM → Option (gM × gL)) : Int32 → gM → Option (gM × gL) := fun v3 M =>
  (if v3 = 6 then bI (F_Mod_fail 2 M) (fun M34 => J_Mod_tellDish_74 K63 v1 v2 v3 M34 L) else J_Mod_tellDish_74 K63 v1 v2 v3 M L)
def H_Mod_tellDish_63 (v1 : Int32) (v2 : Int32) (L : gL) : Nat → Int32 → gM → Option (gM × gL) := lpK (B_Mod_tellDish_63 v1 v2 L) (fun _ _ => none)
set_option maxHeartbeats 4000000 in
set_option maxRecDepth 20000 in
theorem h_Mod_tellDish_63 {l : Launch} {ld : Nat} {Q : Option Value → gM → gL → gR → Prop} (hld : isLa ld)   {q : gM × gL} {L : gL} (hQ : Q none q.1 q.2 (rf ld))  {v1 : Int32} {v2 : Int32}  : ∀ (f : Nat) (v3 : Int32) (M : gM), H_Mod_tellDish_63 v1 v2 L f v3 M = some q → Wp l y_Mod_tellDish (0, 0, 447) 447 0 0 63 [(0, .ref 401), (1, .int v1), (2, .int v2), (3, .int v3)] [] M L (rf ld) Q := by
  intro f
  induction f with
  | zero => intro v3 M h; cases h
  | succ f hK63 =>
    intro v3 M h
    replace h : B_Mod_tellDish_63 v1 v2 L (H_Mod_tellDish_63 v1 v2 L f) v3 M = some q := h
    unfold B_Mod_tellDish_63 at h
    refine g_iload_n (pc1 := 64) d_Mod_tellDish_63 rfl 3 rfl ?_
    refine g_bipush (pc1 := 66) (v := 6) d_Mod_tellDish_64 rfl (by decide) ?_
    refine g_icmp_ne (pc1 := 69) (tgt := 74) d_Mod_tellDish_66 (by decide) rfl (fun c12 => ?_) (fun c12 => ?_)
    · replace h := itn h c12
      exact j_Mod_tellDish_74 hld  hQ hK63 h
    · replace h := itp h c12
      refine g_aload_n (pc1 := 70) d_Mod_tellDish_69 rfl 0 rfl ?_
      refine g_iconst (pc1 := 71) (v := 2) d_Mod_tellDish_70 rfl (by decide) ?_
      refine g_callV0 (pc1 := 74) (As := [.int 2]) (rest := []) d_Mod_tellDish_71 rfl mo_Mod_221 mi_Mod_fail mv_Mod_fail rfl sh_401 (by decide) (by decide) rfl rfl (Nat.le_of_ble_eq_true rfl) ?_
      obtain ⟨M34, hq33, h⟩ := bnd h
      refine f_Mod_fail hld  hq33 ?_
      dsimp only [psh]
      exact j_Mod_tellDish_74 hld  hQ hK63 h
def J_Mod_tellDish_61 (v1 : Int32) (v2 : Int32) (M : gM) (L : gL) : Option (gM × gL) :=
  H_Mod_tellDish_63 v1 v2 L FU 0 M
set_option maxHeartbeats 4000000 in
set_option maxRecDepth 20000 in
theorem j_Mod_tellDish_61 {l : Launch} {ld : Nat} {Q : Option Value → gM → gL → gR → Prop} (hld : isLa ld)   {q : gM × gL} {M : gM} {L : gL} (hQ : Q none q.1 q.2 (rf ld))  {v1 : Int32} {v2 : Int32}  (h : J_Mod_tellDish_61 v1 v2 M L = some q) : Wp l y_Mod_tellDish (0, 0, 447) 447 0 0 61 [(0, .ref 401), (1, .int v1), (2, .int v2)] [] M L (rf ld) Q := by
  unfold J_Mod_tellDish_61 at h
  refine g_iconst (pc1 := 62) (v := 0) d_Mod_tellDish_61 rfl (by decide) ?_
  refine g_istore_n (pc1 := 63) (lv' := [(0, .ref 401), (1, .int v1), (2, .int v2), (3, .int 0)]) d_Mod_tellDish_62 rfl rfl (by decide) [1, 2, 3, 0] rfl ?_
  exact h_Mod_tellDish_63 hld  hQ  _ 0 M h
def B_Mod_tellDish_37 (v1 : Int32) (v2 : Int32) (L : gL) (K37 : Int32 → gM → Option (gM × gL)) : Int32 → gM → Option (gM × gL) := fun v3 M =>
  (if 6 ≤ v3 then J_Mod_tellDish_61 v1 v2 M L else (if (((6 * v1) + v3) : Int32) < 0 ∨ 60 ≤ (((6 * v1) + v3) : Int32).toNatClampNeg then none else nmM (uM M 417 (((6 * v1) + v3) : Int32).toNatClampNeg 0) (fun M36 => nmI (v3 + 1) (fun x37 => K37 x37 M36))))
def H_Mod_tellDish_37 (v1 : Int32) (v2 : Int32) (L : gL) : Nat → Int32 → gM → Option (gM × gL) := lpK (B_Mod_tellDish_37 v1 v2 L) (fun _ _ => none)
set_option maxHeartbeats 4000000 in
set_option maxRecDepth 20000 in
theorem h_Mod_tellDish_37 {l : Launch} {ld : Nat} {Q : Option Value → gM → gL → gR → Prop} (hld : isLa ld)   {q : gM × gL} {L : gL} (hQ : Q none q.1 q.2 (rf ld))  {v1 : Int32} {v2 : Int32}  : ∀ (f : Nat) (v3 : Int32) (M : gM), H_Mod_tellDish_37 v1 v2 L f v3 M = some q → Wp l y_Mod_tellDish (0, 0, 447) 447 0 0 37 [(0, .ref 401), (1, .int v1), (2, .int v2), (3, .int v3)] [] M L (rf ld) Q := by
  intro f
  induction f with
  | zero => intro v3 M h; cases h
  | succ f hK37 =>
    intro v3 M h
    replace h : B_Mod_tellDish_37 v1 v2 L (H_Mod_tellDish_37 v1 v2 L f) v3 M = some q := h
    unfold B_Mod_tellDish_37 at h
    refine g_iload_n (pc1 := 38) d_Mod_tellDish_37 rfl 3 rfl ?_
    refine g_bipush (pc1 := 40) (v := 6) d_Mod_tellDish_38 rfl (by decide) ?_
    refine g_icmp_ge (pc1 := 43) (tgt := 61) d_Mod_tellDish_40 (by decide) rfl (fun c11 => ?_) (fun c11 => ?_)
    · replace h := itp h c11
      refine Wp.loc (lv' := [(0, .ref 401), (1, .int v1), (2, .int v2)]) [0, 1, 2] rfl ?_
      exact j_Mod_tellDish_61 hld  hQ  h
    · replace h := itn h c11
      refine g_aload_n (pc1 := 44) d_Mod_tellDish_43 rfl 0 rfl ?_
      refine g_getr (pc1 := 47) d_Mod_tellDish_44 rfl ⟨_, fo_Mod_64⟩ sh_401 (by decide) (rf_401_29 ld) ?_
      refine g_bipush (pc1 := 49) (v := 6) d_Mod_tellDish_47 rfl (by decide) ?_
      refine g_iload_n (pc1 := 50) d_Mod_tellDish_49 rfl 1 rfl ?_
      refine g_imul (pc1 := 51) d_Mod_tellDish_50 rfl ?_
      refine g_iload_n (pc1 := 52) d_Mod_tellDish_51 rfl 3 rfl ?_
      refine g_iadd (pc1 := 53) d_Mod_tellDish_52 rfl ?_
      refine g_iconst (pc1 := 54) (v := 0) d_Mod_tellDish_53 rfl (by decide) ?_
      obtain ⟨g35, h⟩ := gdn h
      refine g_iast (pc1 := 55) d_Mod_tellDish_54 rfl sh_417 (by decide) g35 ?_
      refine Wp.lM h (fun M36 h => ?_)
      obtain ⟨x37, ex37, h⟩ := ltI h
      refine g_iinc (pc1 := 58) (v := x37) (lv' := [(0, .ref 401), (1, .int v1), (2, .int v2), (3, .int x37)]) d_Mod_tellDish_55 rfl 3 rfl (by rw [ex37]; rfl) (by decide) [1, 2, 3, 0] rfl ?_
      refine g_goto (tgt := 37) d_Mod_tellDish_58 (by decide) ?_
      exact hK37 x37 M36 h
def F_Mod_tellDish (M : gM) (L : gL) : Option (gM × gL) :=
  (if ((M 401 19) : Int32) < 0 ∨ 2 ≤ ((M 401 19) : Int32).toNatClampNeg then none else nmI ((5 * (M 401 19)) + (M 415 ((M 401 19) : Int32).toNatClampNeg)) (fun x2 => bI2 (F_Mod_named M L) (fun r4 M5 => bI2 (F_Mod_bounded 0 9 M5) (fun r7 M8 => (if (x2 : Int32) < 0 ∨ 10 ≤ (x2 : Int32).toNatClampNeg then none else nmM (uM M8 416 (x2 : Int32).toNatClampNeg r7) (fun M10 => H_Mod_tellDish_37 x2 r4 L FU 0 M10))))))
set_option maxHeartbeats 4000000 in
set_option maxRecDepth 20000 in
theorem f_Mod_tellDish {l : Launch} {ld : Nat} {M : gM} {L : gL} {Q : Option Value → gM → gL → gR → Prop} (hld : isLa ld)   {q : gM × gL} (h : F_Mod_tellDish M L = some q) (hQ : Q none q.1 q.2 (rf ld)) : Tm l y_Mod_tellDish (0, 0, 447) 447 [.ref 401] M L (rf ld) Q := by
  refine Tm.of (by decide) (Nat.le_of_ble_eq_true rfl) ?_
  show Wp l y_Mod_tellDish (0, 0, 447) 447 0 0 0 [(0, .ref 401)] [] M L (rf ld) Q
  unfold F_Mod_tellDish at h
  refine g_iconst (pc1 := 1) (v := 5) d_Mod_tellDish_0 rfl (by decide) ?_
  refine g_aload_n (pc1 := 2) d_Mod_tellDish_1 rfl 0 rfl ?_
  refine g_geti (pc1 := 5) d_Mod_tellDish_2 rfl ⟨_, fo_Mod_239⟩ sh_401 (by decide) ?_
  refine g_imul (pc1 := 6) d_Mod_tellDish_5 rfl ?_
  refine g_aload_n (pc1 := 7) d_Mod_tellDish_6 rfl 0 rfl ?_
  refine g_getr (pc1 := 10) d_Mod_tellDish_7 rfl ⟨_, fo_Mod_58⟩ sh_401 (by decide) (rf_401_27 ld) ?_
  refine g_aload_n (pc1 := 11) d_Mod_tellDish_10 rfl 0 rfl ?_
  refine g_geti (pc1 := 14) d_Mod_tellDish_11 rfl ⟨_, fo_Mod_239⟩ sh_401 (by decide) ?_
  obtain ⟨g1, h⟩ := gdn h
  refine g_iald (pc1 := 15) d_Mod_tellDish_14 rfl sh_415 (by decide) g1 ?_
  refine g_iadd (pc1 := 16) d_Mod_tellDish_15 rfl ?_
  refine Wp.lI h (fun x2 h => ?_)
  refine g_istore_n (pc1 := 17) (lv' := [(0, .ref 401), (1, .int x2)]) d_Mod_tellDish_16 rfl rfl (by decide) [1, 0] rfl ?_
  refine g_aload_n (pc1 := 18) d_Mod_tellDish_17 rfl 0 rfl ?_
  refine g_callV0 (pc1 := 21) (As := []) (rest := []) d_Mod_tellDish_18 rfl mo_Mod_270 mi_Mod_named mv_Mod_named rfl sh_401 (by decide) (by decide) rfl rfl (Nat.le_of_ble_eq_true rfl) ?_
  obtain ⟨r4, M5, hq3, h⟩ := bnd2 h
  refine f_Mod_named hld  hq3 ?_
  dsimp only [psh]
  refine g_istore_n (pc1 := 22) (lv' := [(0, .ref 401), (1, .int x2), (2, .int r4)]) d_Mod_tellDish_21 rfl rfl (by decide) [1, 2, 0] rfl ?_
  refine g_aload_n (pc1 := 23) d_Mod_tellDish_22 rfl 0 rfl ?_
  refine g_getr (pc1 := 26) d_Mod_tellDish_23 rfl ⟨_, fo_Mod_61⟩ sh_401 (by decide) (rf_401_28 ld) ?_
  refine g_iload_n (pc1 := 27) d_Mod_tellDish_26 rfl 1 rfl ?_
  refine g_aload_n (pc1 := 28) d_Mod_tellDish_27 rfl 0 rfl ?_
  refine g_iconst (pc1 := 29) (v := 0) d_Mod_tellDish_28 rfl (by decide) ?_
  refine g_bipush (pc1 := 31) (v := 9) d_Mod_tellDish_29 rfl (by decide) ?_
  refine g_callV0 (pc1 := 34) (As := [.int 0, .int 9]) (rest := [.int x2, .ref 416]) d_Mod_tellDish_31 rfl mo_Mod_274 mi_Mod_bounded mv_Mod_bounded rfl sh_401 (by decide) (by decide) rfl rfl (Nat.le_of_ble_eq_true rfl) ?_
  obtain ⟨r7, M8, hq6, h⟩ := bnd2 h
  refine f_Mod_bounded hld  hq6 ?_
  dsimp only [psh]
  obtain ⟨g9, h⟩ := gdn h
  refine g_iast (pc1 := 35) d_Mod_tellDish_34 rfl sh_416 (by decide) g9 ?_
  refine Wp.lM h (fun M10 h => ?_)
  refine g_iconst (pc1 := 36) (v := 0) d_Mod_tellDish_35 rfl (by decide) ?_
  refine g_istore_n (pc1 := 37) (lv' := [(0, .ref 401), (1, .int x2), (2, .int r4), (3, .int 0)]) d_Mod_tellDish_36 rfl rfl (by decide) [1, 2, 3, 0] rfl ?_
  exact h_Mod_tellDish_37 hld  hQ  _ 0 M10 h

def J_Mod_tellFood_79 (v2 : Int32) (M : gM) (L : gL) : Option (gM × gL) :=
  (if ((M 401 19) : Int32) < 0 ∨ 2 ≤ ((M 401 19) : Int32).toNatClampNeg then none else bI2 (F_Mod_ends v2 (M 411 ((M 401 19) : Int32).toNatClampNeg) M L) (fun M19 L20 => (if (M19 401 13) = 0 then (if ((M19 401 19) : Int32) < 0 ∨ 2 ≤ ((M19 401 19) : Int32).toNatClampNeg then none else (if ((M19 401 19) : Int32) < 0 ∨ 2 ≤ ((M19 401 19) : Int32).toNatClampNeg then none else nmM (uM M19 411 ((M19 401 19) : Int32).toNatClampNeg ((M19 411 ((M19 401 19) : Int32).toNatClampNeg) + 1)) (fun M24 => some (M24, L20)))) else some (M19, L20))))
set_option maxHeartbeats 4000000 in
set_option maxRecDepth 20000 in
theorem j_Mod_tellFood_79 {l : Launch} {ld : Nat} {Q : Option Value → gM → gL → gR → Prop} (hld : isLa ld)   {q : gM × gL} {M : gM} {L : gL} (hQ : Q none q.1 q.2 (rf ld))  {v2 : Int32}  (h : J_Mod_tellFood_79 v2 M L = some q) : Wp l y_Mod_tellFood (0, 0, 447) 447 0 0 79 [(0, .ref 401), (2, .int v2)] [] M L (rf ld) Q := by
  unfold J_Mod_tellFood_79 at h
  refine g_aload_n (pc1 := 80) d_Mod_tellFood_79 rfl 0 rfl ?_
  refine g_iload_n (pc1 := 81) d_Mod_tellFood_80 rfl 1 rfl ?_
  refine g_aload_n (pc1 := 82) d_Mod_tellFood_81 rfl 0 rfl ?_
  refine g_getr (pc1 := 85) d_Mod_tellFood_82 rfl ⟨_, fo_Mod_46⟩ sh_401 (by decide) (rf_401_23 ld) ?_
  refine g_aload_n (pc1 := 86) d_Mod_tellFood_85 rfl 0 rfl ?_
  refine g_geti (pc1 := 89) d_Mod_tellFood_86 rfl ⟨_, fo_Mod_239⟩ sh_401 (by decide) ?_
  obtain ⟨g17, h⟩ := gdn h
  refine g_iald (pc1 := 90) d_Mod_tellFood_89 rfl sh_411 (by decide) g17 ?_
  refine g_callV0 (pc1 := 93) (As := [.int v2, .int (M 411 ((M 401 19) : Int32).toNatClampNeg)]) (rest := []) d_Mod_tellFood_90 rfl mo_Mod_278 mi_Mod_ends mv_Mod_ends rfl sh_401 (by decide) (by decide) rfl rfl (Nat.le_of_ble_eq_true rfl) ?_
  obtain ⟨M19, L20, hq18, h⟩ := bnd2 h
  refine f_Mod_ends hld  hq18 ?_
  dsimp only [psh]
  refine g_aload_n (pc1 := 94) d_Mod_tellFood_93 rfl 0 rfl ?_
  refine g_geti (pc1 := 97) d_Mod_tellFood_94 rfl ⟨_, fo_Mod_206⟩ sh_401 (by decide) ?_
  refine g_if_ne (pc1 := 100) (tgt := 113) d_Mod_tellFood_97 (by decide) rfl (fun c21 => ?_) (fun c21 => ?_)
  · replace h := itn h c21
    refine g_return rfl d_Mod_tellFood_113 rfl ?_
    cases h; exact hQ
  · replace h := itp h c21
    refine g_aload_n (pc1 := 101) d_Mod_tellFood_100 rfl 0 rfl ?_
    refine g_getr (pc1 := 104) d_Mod_tellFood_101 rfl ⟨_, fo_Mod_46⟩ sh_401 (by decide) (rf_401_23 ld) ?_
    refine g_aload_n (pc1 := 105) d_Mod_tellFood_104 rfl 0 rfl ?_
    refine g_geti (pc1 := 108) d_Mod_tellFood_105 rfl ⟨_, fo_Mod_239⟩ sh_401 (by decide) ?_
    refine g_dup2 (pc1 := 109) d_Mod_tellFood_108 rfl rfl rfl ?_
    obtain ⟨g22, h⟩ := gdn h
    refine g_iald (pc1 := 110) d_Mod_tellFood_109 rfl sh_411 (by decide) g22 ?_
    refine g_iconst (pc1 := 111) (v := 1) d_Mod_tellFood_110 rfl (by decide) ?_
    refine g_iadd (pc1 := 112) d_Mod_tellFood_111 rfl ?_
    obtain ⟨g23, h⟩ := gdn h
    refine g_iast (pc1 := 113) d_Mod_tellFood_112 rfl sh_411 (by decide) g23 ?_
    refine Wp.lM h (fun M24 h => ?_)
    refine g_return rfl d_Mod_tellFood_113 rfl ?_
    cases h; exact hQ
def B_Mod_tellFood_51 (v1 : Int32) (v2 : Int32) (L : gL) (K51 : Int32 → gM → Option (gM × gL)) : Int32 → gM → Option (gM × gL) := fun v3 M =>
  (if 3 ≤ v3 then J_Mod_tellFood_79 v2 M L else bI2 (F_Mod_bounded 0 9 M) (fun r26 M27 => (if (((3 * v1) + v3) : Int32) < 0 ∨ 36 ≤ (((3 * v1) + v3) : Int32).toNatClampNeg then none else nmM (uM M27 414 (((3 * v1) + v3) : Int32).toNatClampNeg r26) (fun M29 => nmI (v3 + 1) (fun x30 => K51 x30 M29)))))
def H_Mod_tellFood_51 (v1 : Int32) (v2 : Int32) (L : gL) : Nat → Int32 → gM → Option (gM × gL) := lpK (B_Mod_tellFood_51 v1 v2 L) (fun _ _ => none)
set_option maxHeartbeats 4000000 in
set_option maxRecDepth 20000 in
theorem h_Mod_tellFood_51 {l : Launch} {ld : Nat} {Q : Option Value → gM → gL → gR → Prop} (hld : isLa ld)   {q : gM × gL} {L : gL} (hQ : Q none q.1 q.2 (rf ld))  {v1 : Int32} {v2 : Int32}  : ∀ (f : Nat) (v3 : Int32) (M : gM), H_Mod_tellFood_51 v1 v2 L f v3 M = some q → Wp l y_Mod_tellFood (0, 0, 447) 447 0 0 51 [(0, .ref 401), (1, .int v1), (2, .int v2), (3, .int v3)] [] M L (rf ld) Q := by
  intro f
  induction f with
  | zero => intro v3 M h; cases h
  | succ f hK51 =>
    intro v3 M h
    replace h : B_Mod_tellFood_51 v1 v2 L (H_Mod_tellFood_51 v1 v2 L f) v3 M = some q := h
    unfold B_Mod_tellFood_51 at h
    refine g_iload_n (pc1 := 52) d_Mod_tellFood_51 rfl 3 rfl ?_
    refine g_iconst (pc1 := 53) (v := 3) d_Mod_tellFood_52 rfl (by decide) ?_
    refine g_icmp_ge (pc1 := 56) (tgt := 79) d_Mod_tellFood_53 (by decide) rfl (fun c16 => ?_) (fun c16 => ?_)
    · replace h := itp h c16
      refine Wp.loc (lv' := [(0, .ref 401), (2, .int v2)]) [0, 2] rfl ?_
      exact j_Mod_tellFood_79 hld  hQ  h
    · replace h := itn h c16
      refine g_aload_n (pc1 := 57) d_Mod_tellFood_56 rfl 0 rfl ?_
      refine g_getr (pc1 := 60) d_Mod_tellFood_57 rfl ⟨_, fo_Mod_55⟩ sh_401 (by decide) (rf_401_26 ld) ?_
      refine g_iconst (pc1 := 61) (v := 3) d_Mod_tellFood_60 rfl (by decide) ?_
      refine g_iload_n (pc1 := 62) d_Mod_tellFood_61 rfl 1 rfl ?_
      refine g_imul (pc1 := 63) d_Mod_tellFood_62 rfl ?_
      refine g_iload_n (pc1 := 64) d_Mod_tellFood_63 rfl 3 rfl ?_
      refine g_iadd (pc1 := 65) d_Mod_tellFood_64 rfl ?_
      refine g_aload_n (pc1 := 66) d_Mod_tellFood_65 rfl 0 rfl ?_
      refine g_iconst (pc1 := 67) (v := 0) d_Mod_tellFood_66 rfl (by decide) ?_
      refine g_bipush (pc1 := 69) (v := 9) d_Mod_tellFood_67 rfl (by decide) ?_
      refine g_callV0 (pc1 := 72) (As := [.int 0, .int 9]) (rest := [.int ((3 * v1) + v3), .ref 414]) d_Mod_tellFood_69 rfl mo_Mod_274 mi_Mod_bounded mv_Mod_bounded rfl sh_401 (by decide) (by decide) rfl rfl (Nat.le_of_ble_eq_true rfl) ?_
      obtain ⟨r26, M27, hq25, h⟩ := bnd2 h
      refine f_Mod_bounded hld  hq25 ?_
      dsimp only [psh]
      obtain ⟨g28, h⟩ := gdn h
      refine g_iast (pc1 := 73) d_Mod_tellFood_72 rfl sh_414 (by decide) g28 ?_
      refine Wp.lM h (fun M29 h => ?_)
      obtain ⟨x30, ex30, h⟩ := ltI h
      refine g_iinc (pc1 := 76) (v := x30) (lv' := [(0, .ref 401), (1, .int v1), (2, .int v2), (3, .int x30)]) d_Mod_tellFood_73 rfl 3 rfl (by rw [ex30]; rfl) (by decide) [1, 2, 3, 0] rfl ?_
      refine g_goto (tgt := 51) d_Mod_tellFood_76 (by decide) ?_
      exact hK51 x30 M29 h
def F_Mod_tellFood (M : gM) (L : gL) : Option (gM × gL) :=
  (if ((M 401 19) : Int32) < 0 ∨ 2 ≤ ((M 401 19) : Int32).toNatClampNeg then none else nmI ((6 * (M 401 19)) + (M 411 ((M 401 19) : Int32).toNatClampNeg)) (fun x2 => bI2 (F_Mod_named M L) (fun r4 M5 => bI2 (F_Mod_bounded 0 99 M5) (fun r7 M8 => (if (x2 : Int32) < 0 ∨ 12 ≤ (x2 : Int32).toNatClampNeg then none else nmM (uM M8 412 (x2 : Int32).toNatClampNeg r7) (fun M10 => bI2 (F_Mod_bounded 0 9 M10) (fun r12 M13 => (if (x2 : Int32) < 0 ∨ 12 ≤ (x2 : Int32).toNatClampNeg then none else nmM (uM M13 413 (x2 : Int32).toNatClampNeg r12) (fun M15 => H_Mod_tellFood_51 x2 r4 L FU 0 M15)))))))))
set_option maxHeartbeats 4000000 in
set_option maxRecDepth 20000 in
theorem f_Mod_tellFood {l : Launch} {ld : Nat} {M : gM} {L : gL} {Q : Option Value → gM → gL → gR → Prop} (hld : isLa ld)   {q : gM × gL} (h : F_Mod_tellFood M L = some q) (hQ : Q none q.1 q.2 (rf ld)) : Tm l y_Mod_tellFood (0, 0, 447) 447 [.ref 401] M L (rf ld) Q := by
  refine Tm.of (by decide) (Nat.le_of_ble_eq_true rfl) ?_
  show Wp l y_Mod_tellFood (0, 0, 447) 447 0 0 0 [(0, .ref 401)] [] M L (rf ld) Q
  unfold F_Mod_tellFood at h
  refine g_bipush (pc1 := 2) (v := 6) d_Mod_tellFood_0 rfl (by decide) ?_
  refine g_aload_n (pc1 := 3) d_Mod_tellFood_2 rfl 0 rfl ?_
  refine g_geti (pc1 := 6) d_Mod_tellFood_3 rfl ⟨_, fo_Mod_239⟩ sh_401 (by decide) ?_
  refine g_imul (pc1 := 7) d_Mod_tellFood_6 rfl ?_
  refine g_aload_n (pc1 := 8) d_Mod_tellFood_7 rfl 0 rfl ?_
  refine g_getr (pc1 := 11) d_Mod_tellFood_8 rfl ⟨_, fo_Mod_46⟩ sh_401 (by decide) (rf_401_23 ld) ?_
  refine g_aload_n (pc1 := 12) d_Mod_tellFood_11 rfl 0 rfl ?_
  refine g_geti (pc1 := 15) d_Mod_tellFood_12 rfl ⟨_, fo_Mod_239⟩ sh_401 (by decide) ?_
  obtain ⟨g1, h⟩ := gdn h
  refine g_iald (pc1 := 16) d_Mod_tellFood_15 rfl sh_411 (by decide) g1 ?_
  refine g_iadd (pc1 := 17) d_Mod_tellFood_16 rfl ?_
  refine Wp.lI h (fun x2 h => ?_)
  refine g_istore_n (pc1 := 18) (lv' := [(0, .ref 401), (1, .int x2)]) d_Mod_tellFood_17 rfl rfl (by decide) [1, 0] rfl ?_
  refine g_aload_n (pc1 := 19) d_Mod_tellFood_18 rfl 0 rfl ?_
  refine g_callV0 (pc1 := 22) (As := []) (rest := []) d_Mod_tellFood_19 rfl mo_Mod_270 mi_Mod_named mv_Mod_named rfl sh_401 (by decide) (by decide) rfl rfl (Nat.le_of_ble_eq_true rfl) ?_
  obtain ⟨r4, M5, hq3, h⟩ := bnd2 h
  refine f_Mod_named hld  hq3 ?_
  dsimp only [psh]
  refine g_istore_n (pc1 := 23) (lv' := [(0, .ref 401), (1, .int x2), (2, .int r4)]) d_Mod_tellFood_22 rfl rfl (by decide) [1, 2, 0] rfl ?_
  refine g_aload_n (pc1 := 24) d_Mod_tellFood_23 rfl 0 rfl ?_
  refine g_getr (pc1 := 27) d_Mod_tellFood_24 rfl ⟨_, fo_Mod_49⟩ sh_401 (by decide) (rf_401_24 ld) ?_
  refine g_iload_n (pc1 := 28) d_Mod_tellFood_27 rfl 1 rfl ?_
  refine g_aload_n (pc1 := 29) d_Mod_tellFood_28 rfl 0 rfl ?_
  refine g_iconst (pc1 := 30) (v := 0) d_Mod_tellFood_29 rfl (by decide) ?_
  refine g_bipush (pc1 := 32) (v := 99) d_Mod_tellFood_30 rfl (by decide) ?_
  refine g_callV0 (pc1 := 35) (As := [.int 0, .int 99]) (rest := [.int x2, .ref 412]) d_Mod_tellFood_32 rfl mo_Mod_274 mi_Mod_bounded mv_Mod_bounded rfl sh_401 (by decide) (by decide) rfl rfl (Nat.le_of_ble_eq_true rfl) ?_
  obtain ⟨r7, M8, hq6, h⟩ := bnd2 h
  refine f_Mod_bounded hld  hq6 ?_
  dsimp only [psh]
  obtain ⟨g9, h⟩ := gdn h
  refine g_iast (pc1 := 36) d_Mod_tellFood_35 rfl sh_412 (by decide) g9 ?_
  refine Wp.lM h (fun M10 h => ?_)
  refine g_aload_n (pc1 := 37) d_Mod_tellFood_36 rfl 0 rfl ?_
  refine g_getr (pc1 := 40) d_Mod_tellFood_37 rfl ⟨_, fo_Mod_52⟩ sh_401 (by decide) (rf_401_25 ld) ?_
  refine g_iload_n (pc1 := 41) d_Mod_tellFood_40 rfl 1 rfl ?_
  refine g_aload_n (pc1 := 42) d_Mod_tellFood_41 rfl 0 rfl ?_
  refine g_iconst (pc1 := 43) (v := 0) d_Mod_tellFood_42 rfl (by decide) ?_
  refine g_bipush (pc1 := 45) (v := 9) d_Mod_tellFood_43 rfl (by decide) ?_
  refine g_callV0 (pc1 := 48) (As := [.int 0, .int 9]) (rest := [.int x2, .ref 413]) d_Mod_tellFood_45 rfl mo_Mod_274 mi_Mod_bounded mv_Mod_bounded rfl sh_401 (by decide) (by decide) rfl rfl (Nat.le_of_ble_eq_true rfl) ?_
  obtain ⟨r12, M13, hq11, h⟩ := bnd2 h
  refine f_Mod_bounded hld  hq11 ?_
  dsimp only [psh]
  obtain ⟨g14, h⟩ := gdn h
  refine g_iast (pc1 := 49) d_Mod_tellFood_48 rfl sh_413 (by decide) g14 ?_
  refine Wp.lM h (fun M15 h => ?_)
  refine g_iconst (pc1 := 50) (v := 0) d_Mod_tellFood_49 rfl (by decide) ?_
  refine g_istore_n (pc1 := 51) (lv' := [(0, .ref 401), (1, .int x2), (2, .int r4), (3, .int 0)]) d_Mod_tellFood_50 rfl rfl (by decide) [1, 2, 3, 0] rfl ?_
  exact h_Mod_tellFood_51 hld  hQ  _ 0 M15 h

def J_Mod_term_24 (M : gM) : Option (gM) :=
  (if ((M 401 38) : Int32) < 0 ∨ 260 ≤ ((M 401 38) : Int32).toNatClampNeg then none else nmM (uM M 430 ((M 401 38) : Int32).toNatClampNeg (M 401 44)) (fun M5 => nmM (uM M5 401 38 ((M5 401 38) + 1)) (fun M6 => some M6)))
set_option maxHeartbeats 4000000 in
set_option maxRecDepth 20000 in
theorem j_Mod_term_24 {l : Launch} {ld : Nat} {Q : Option Value → gM → gL → gR → Prop} (hld : isLa ld)   {q : gM} {M : gM} {L : gL} (hQ : Q none q L (rf ld))    (h : J_Mod_term_24 M = some q) : Wp l y_Mod_term (0, 0, 447) 447 0 0 24 [(0, .ref 401)] [] M L (rf ld) Q := by
  unfold J_Mod_term_24 at h
  refine g_aload_n (pc1 := 25) d_Mod_term_24 rfl 0 rfl ?_
  refine g_getr (pc1 := 28) d_Mod_term_25 rfl ⟨_, fo_Mod_104⟩ sh_401 (by decide) (rf_401_43 ld) ?_
  refine g_aload_n (pc1 := 29) d_Mod_term_28 rfl 0 rfl ?_
  refine g_geti (pc1 := 32) d_Mod_term_29 rfl ⟨_, fo_Mod_245⟩ sh_401 (by decide) ?_
  refine g_aload_n (pc1 := 33) d_Mod_term_32 rfl 0 rfl ?_
  refine g_geti (pc1 := 36) d_Mod_term_33 rfl ⟨_, fo_Mod_248⟩ sh_401 (by decide) ?_
  obtain ⟨g4, h⟩ := gdn h
  refine g_iast (pc1 := 37) d_Mod_term_36 rfl sh_430 (by decide) g4 ?_
  refine Wp.lM h (fun M5 h => ?_)
  refine g_aload_n (pc1 := 38) d_Mod_term_37 rfl 0 rfl ?_
  refine g_dup (pc1 := 39) d_Mod_term_38 rfl rfl ?_
  refine g_geti (pc1 := 42) d_Mod_term_39 rfl ⟨_, fo_Mod_245⟩ sh_401 (by decide) ?_
  refine g_iconst (pc1 := 43) (v := 1) d_Mod_term_42 rfl (by decide) ?_
  refine g_iadd (pc1 := 44) d_Mod_term_43 rfl ?_
  refine g_puti (pc1 := 47) d_Mod_term_44 rfl fo_Mod_245 (po_12_38 _) sh_401 (by decide) ?_
  refine Wp.lM h (fun M6 h => ?_)
  refine g_return rfl d_Mod_term_47 rfl ?_
  cases h; exact hQ
def F_Mod_term (M : gM) : Option (gM) :=
  (if ((M 401 38) : Int32) < 0 ∨ 260 ≤ ((M 401 38) : Int32).toNatClampNeg then none else nmM (uM M 429 ((M 401 38) : Int32).toNatClampNeg (M 401 44)) (fun M2 => (if (M2 401 13) = 0 then bI (F_Mod_expression M2) (fun M8 => J_Mod_term_24 M8) else J_Mod_term_24 M2)))
set_option maxHeartbeats 4000000 in
set_option maxRecDepth 20000 in
theorem f_Mod_term {l : Launch} {ld : Nat} {M : gM} {L : gL} {Q : Option Value → gM → gL → gR → Prop} (hld : isLa ld)   {q : gM} (h : F_Mod_term M = some q) (hQ : Q none q L (rf ld)) : Tm l y_Mod_term (0, 0, 447) 447 [.ref 401] M L (rf ld) Q := by
  refine Tm.of (by decide) (Nat.le_of_ble_eq_true rfl) ?_
  show Wp l y_Mod_term (0, 0, 447) 447 0 0 0 [(0, .ref 401)] [] M L (rf ld) Q
  unfold F_Mod_term at h
  refine g_aload_n (pc1 := 1) d_Mod_term_0 rfl 0 rfl ?_
  refine g_getr (pc1 := 4) d_Mod_term_1 rfl ⟨_, fo_Mod_101⟩ sh_401 (by decide) (rf_401_42 ld) ?_
  refine g_aload_n (pc1 := 5) d_Mod_term_4 rfl 0 rfl ?_
  refine g_geti (pc1 := 8) d_Mod_term_5 rfl ⟨_, fo_Mod_245⟩ sh_401 (by decide) ?_
  refine g_aload_n (pc1 := 9) d_Mod_term_8 rfl 0 rfl ?_
  refine g_geti (pc1 := 12) d_Mod_term_9 rfl ⟨_, fo_Mod_248⟩ sh_401 (by decide) ?_
  obtain ⟨g1, h⟩ := gdn h
  refine g_iast (pc1 := 13) d_Mod_term_12 rfl sh_429 (by decide) g1 ?_
  refine Wp.lM h (fun M2 h => ?_)
  refine g_aload_n (pc1 := 14) d_Mod_term_13 rfl 0 rfl ?_
  refine g_geti (pc1 := 17) d_Mod_term_14 rfl ⟨_, fo_Mod_206⟩ sh_401 (by decide) ?_
  refine g_if_ne (pc1 := 20) (tgt := 24) d_Mod_term_17 (by decide) rfl (fun c3 => ?_) (fun c3 => ?_)
  · replace h := itn h c3
    exact j_Mod_term_24 hld  hQ  h
  · replace h := itp h c3
    refine g_aload_n (pc1 := 21) d_Mod_term_20 rfl 0 rfl ?_
    refine g_callV0 (pc1 := 24) (As := []) (rest := []) d_Mod_term_21 rfl mo_Mod_293 mi_Mod_expression mv_Mod_expression rfl sh_401 (by decide) (by decide) rfl rfl (Nat.le_of_ble_eq_true rfl) ?_
    obtain ⟨M8, hq7, h⟩ := bnd h
    refine f_Mod_expression hld  hq7 ?_
    dsimp only [psh]
    exact j_Mod_term_24 hld  hQ  h

def F_Mod_boundIn (p1 : Int32) (p2 : Int32) (p3 : Int32) (M : gM) : Option (Int32 × gM) :=
  bI (F_Mod_isGuest p1 M) (fun r2 => (if r2 = 0 then some ((-1), M) else bI (F_Mod_in p2 0 2) (fun r5 => (if r5 = 0 then some ((-1), M) else bI (F_Mod_isLong p3) (fun r8 => (if r8 = 0 then some ((-1), M) else bI (F_Mod_copies M) (fun M11 => nmM (uM M11 437 35 ((M11 437 35) + p3)) (fun M12 => bI2 (F_Mod_boundNow p1 p2 M12) (fun r14 M15 => some (r14, M15))))))))))
set_option maxHeartbeats 4000000 in
set_option maxRecDepth 20000 in
theorem f_Mod_boundIn {l : Launch} {ld : Nat} {M : gM} {L : gL} {Q : Option Value → gM → gL → gR → Prop} (hld : isLa ld) {p1 : Int32} {p2 : Int32} {p3 : Int32}  {q : Int32 × gM} (h : F_Mod_boundIn p1 p2 p3 M = some q) (hQ : Q (some (.int q.1)) q.2 L (rf ld)) : Tm l y_Mod_boundIn (0, 0, 447) 447 [.ref 401, .int p1, .int p2, .int p3] M L (rf ld) Q := by
  refine Tm.of (by decide) (Nat.le_of_ble_eq_true rfl) ?_
  show Wp l y_Mod_boundIn (0, 0, 447) 447 0 0 0 [(0, .ref 401), (1, .int p1), (2, .int p2), (3, .int p3)] [] M L (rf ld) Q
  unfold F_Mod_boundIn at h
  refine g_aload_n (pc1 := 1) d_Mod_boundIn_0 rfl 0 rfl ?_
  refine g_iload_n (pc1 := 2) d_Mod_boundIn_1 rfl 1 rfl ?_
  refine g_callV0 (pc1 := 5) (As := [.int p1]) (rest := []) d_Mod_boundIn_2 rfl mo_Mod_380 mi_Mod_isGuest mv_Mod_isGuest rfl sh_401 (by decide) (by decide) rfl rfl (Nat.le_of_ble_eq_true rfl) ?_
  obtain ⟨r2, hq1, h⟩ := bnd h
  refine f_Mod_isGuest hld  hq1 ?_
  dsimp only [psh]
  refine g_if_eq (pc1 := 8) (tgt := 24) d_Mod_boundIn_5 (by decide) rfl (fun c3 => ?_) (fun c3 => ?_)
  · replace h := itp h c3
    refine g_iconst (pc1 := 25) (v := (-1)) d_Mod_boundIn_24 rfl (by decide) ?_
    refine g_ireturn (Or.inl rfl) d_Mod_boundIn_25 rfl ?_
    cases h; exact hQ
  · replace h := itn h c3
    refine g_iload_n (pc1 := 9) d_Mod_boundIn_8 rfl 2 rfl ?_
    refine g_iconst (pc1 := 10) (v := 0) d_Mod_boundIn_9 rfl (by decide) ?_
    refine g_iconst (pc1 := 11) (v := 2) d_Mod_boundIn_10 rfl (by decide) ?_
    refine g_callS0 (pc1 := 14) (As := [.int p2, .int 0, .int 2]) (rest := []) d_Mod_boundIn_11 rfl mo_Mod_316 ms_Mod_in (by decide) rfl rfl (Nat.le_of_ble_eq_true rfl) ?_
    obtain ⟨r5, hq4, h⟩ := bnd h
    refine f_Mod_in hld  hq4 ?_
    dsimp only [psh]
    refine g_if_eq (pc1 := 17) (tgt := 24) d_Mod_boundIn_14 (by decide) rfl (fun c6 => ?_) (fun c6 => ?_)
    · replace h := itp h c6
      refine g_iconst (pc1 := 25) (v := (-1)) d_Mod_boundIn_24 rfl (by decide) ?_
      refine g_ireturn (Or.inl rfl) d_Mod_boundIn_25 rfl ?_
      cases h; exact hQ
    · replace h := itn h c6
      refine g_iload_n (pc1 := 18) d_Mod_boundIn_17 rfl 3 rfl ?_
      refine g_callS0 (pc1 := 21) (As := [.int p3]) (rest := []) d_Mod_boundIn_18 rfl mo_Mod_446 ms_Mod_isLong (by decide) rfl rfl (Nat.le_of_ble_eq_true rfl) ?_
      obtain ⟨r8, hq7, h⟩ := bnd h
      refine f_Mod_isLong hld  hq7 ?_
      dsimp only [psh]
      refine g_if_ne (pc1 := 24) (tgt := 26) d_Mod_boundIn_21 (by decide) rfl (fun c9 => ?_) (fun c9 => ?_)
      · replace h := itn h c9
        refine g_aload_n (pc1 := 27) d_Mod_boundIn_26 rfl 0 rfl ?_
        refine g_callV0 (pc1 := 30) (As := []) (rest := []) d_Mod_boundIn_27 rfl mo_Mod_377 mi_Mod_copies mv_Mod_copies rfl sh_401 (by decide) (by decide) rfl rfl (Nat.le_of_ble_eq_true rfl) ?_
        obtain ⟨M11, hq10, h⟩ := bnd h
        refine f_Mod_copies hld  hq10 ?_
        dsimp only [psh]
        refine g_aload_n (pc1 := 31) d_Mod_boundIn_30 rfl 0 rfl ?_
        refine g_getr (pc1 := 34) d_Mod_boundIn_31 rfl ⟨_, fo_Mod_125⟩ sh_401 (by decide) (rf_401_53 ld) ?_
        refine g_bipush (pc1 := 36) (v := 35) d_Mod_boundIn_34 rfl (by decide) ?_
        refine g_dup2 (pc1 := 37) d_Mod_boundIn_36 rfl rfl rfl ?_
        refine g_iald (pc1 := 38) d_Mod_boundIn_37 rfl sh_437 (by decide) (vin_lit (x := 35) (by decide)) ?_
        refine Wp.vali (y := (M11 437 35)) (congrArg (M11 437) (by decide)) ?_
        refine g_iload_n (pc1 := 39) d_Mod_boundIn_38 rfl 3 rfl ?_
        refine g_iadd (pc1 := 40) d_Mod_boundIn_39 rfl ?_
        refine g_iast (pc1 := 41) d_Mod_boundIn_40 rfl sh_437 (by decide) (vin_lit (x := 35) (by decide)) ?_
        refine Wp.eqM (M' := uM M11 437 35 ((M11 437 35) + p3)) (congrArg (fun z => uM M11 437 z ((M11 437 35) + p3)) (by decide)) ?_
        refine Wp.lM h (fun M12 h => ?_)
        refine g_aload_n (pc1 := 42) d_Mod_boundIn_41 rfl 0 rfl ?_
        refine g_iload_n (pc1 := 43) d_Mod_boundIn_42 rfl 1 rfl ?_
        refine g_iload_n (pc1 := 44) d_Mod_boundIn_43 rfl 2 rfl ?_
        refine g_callV0 (pc1 := 47) (As := [.int p1, .int p2]) (rest := []) d_Mod_boundIn_44 rfl mo_Mod_349 mi_Mod_boundNow mv_Mod_boundNow rfl sh_401 (by decide) (by decide) rfl rfl (Nat.le_of_ble_eq_true rfl) ?_
        obtain ⟨r14, M15, hq13, h⟩ := bnd2 h
        refine f_Mod_boundNow hld  hq13 ?_
        dsimp only [psh]
        refine g_ireturn (Or.inl rfl) d_Mod_boundIn_47 rfl ?_
        cases h; exact hQ
      · replace h := itp h c9
        refine g_iconst (pc1 := 25) (v := (-1)) d_Mod_boundIn_24 rfl (by decide) ?_
        refine g_ireturn (Or.inl rfl) d_Mod_boundIn_25 rfl ?_
        cases h; exact hQ

def F_Mod_cook (p1 : Int32) (M : gM) : Option (Int32 × gM) :=
  bI (F_Mod_isDish p1 M) (fun r2 => (if r2 = 0 then some ((-1), M) else bI (F_Mod_copies M) (fun M5 => bI2 (F_Mod_isInStore p1 M5) (fun r7 M8 => (if r7 = 0 then some ((-3), M8) else bI2 (F_Mod_cooks p1 M8) (fun r11 M12 => bI (F_Mod_records M12) (fun M14 => some (r11, M14))))))))
set_option maxHeartbeats 4000000 in
set_option maxRecDepth 20000 in
theorem f_Mod_cook {l : Launch} {ld : Nat} {M : gM} {L : gL} {Q : Option Value → gM → gL → gR → Prop} (hld : isLa ld) {p1 : Int32}  {q : Int32 × gM} (h : F_Mod_cook p1 M = some q) (hQ : Q (some (.int q.1)) q.2 L (rf ld)) : Tm l y_Mod_cook (0, 0, 447) 447 [.ref 401, .int p1] M L (rf ld) Q := by
  refine Tm.of (by decide) (Nat.le_of_ble_eq_true rfl) ?_
  show Wp l y_Mod_cook (0, 0, 447) 447 0 0 0 [(0, .ref 401), (1, .int p1)] [] M L (rf ld) Q
  unfold F_Mod_cook at h
  refine g_aload_n (pc1 := 1) d_Mod_cook_0 rfl 0 rfl ?_
  refine g_iload_n (pc1 := 2) d_Mod_cook_1 rfl 1 rfl ?_
  refine g_callV0 (pc1 := 5) (As := [.int p1]) (rest := []) d_Mod_cook_2 rfl mo_Mod_374 mi_Mod_isDish mv_Mod_isDish rfl sh_401 (by decide) (by decide) rfl rfl (Nat.le_of_ble_eq_true rfl) ?_
  obtain ⟨r2, hq1, h⟩ := bnd h
  refine f_Mod_isDish hld  hq1 ?_
  dsimp only [psh]
  refine g_if_ne (pc1 := 8) (tgt := 10) d_Mod_cook_5 (by decide) rfl (fun c3 => ?_) (fun c3 => ?_)
  · replace h := itn h c3
    refine g_aload_n (pc1 := 11) d_Mod_cook_10 rfl 0 rfl ?_
    refine g_callV0 (pc1 := 14) (As := []) (rest := []) d_Mod_cook_11 rfl mo_Mod_377 mi_Mod_copies mv_Mod_copies rfl sh_401 (by decide) (by decide) rfl rfl (Nat.le_of_ble_eq_true rfl) ?_
    obtain ⟨M5, hq4, h⟩ := bnd h
    refine f_Mod_copies hld  hq4 ?_
    dsimp only [psh]
    refine g_aload_n (pc1 := 15) d_Mod_cook_14 rfl 0 rfl ?_
    refine g_iload_n (pc1 := 16) d_Mod_cook_15 rfl 1 rfl ?_
    refine g_callV0 (pc1 := 19) (As := [.int p1]) (rest := []) d_Mod_cook_16 rfl mo_Mod_386 mi_Mod_isInStore mv_Mod_isInStore rfl sh_401 (by decide) (by decide) rfl rfl (Nat.le_of_ble_eq_true rfl) ?_
    obtain ⟨r7, M8, hq6, h⟩ := bnd2 h
    refine f_Mod_isInStore hld  hq6 ?_
    dsimp only [psh]
    refine g_if_ne (pc1 := 22) (tgt := 25) d_Mod_cook_19 (by decide) rfl (fun c9 => ?_) (fun c9 => ?_)
    · replace h := itn h c9
      refine g_aload_n (pc1 := 26) d_Mod_cook_25 rfl 0 rfl ?_
      refine g_iload_n (pc1 := 27) d_Mod_cook_26 rfl 1 rfl ?_
      refine g_callV0 (pc1 := 30) (As := [.int p1]) (rest := []) d_Mod_cook_27 rfl mo_Mod_389 mi_Mod_cooks mv_Mod_cooks rfl sh_401 (by decide) (by decide) rfl rfl (Nat.le_of_ble_eq_true rfl) ?_
      obtain ⟨r11, M12, hq10, h⟩ := bnd2 h
      refine f_Mod_cooks hld  hq10 ?_
      dsimp only [psh]
      refine g_istore_n (pc1 := 31) (lv' := [(0, .ref 401), (1, .int p1), (2, .int r11)]) d_Mod_cook_30 rfl rfl (by decide) [1, 2, 0] rfl ?_
      refine g_aload_n (pc1 := 32) d_Mod_cook_31 rfl 0 rfl ?_
      refine g_callV0 (pc1 := 35) (As := []) (rest := []) d_Mod_cook_32 rfl mo_Mod_392 mi_Mod_records mv_Mod_records rfl sh_401 (by decide) (by decide) rfl rfl (Nat.le_of_ble_eq_true rfl) ?_
      obtain ⟨M14, hq13, h⟩ := bnd h
      refine f_Mod_records hld  hq13 ?_
      dsimp only [psh]
      refine g_iload_n (pc1 := 36) d_Mod_cook_35 rfl 2 rfl ?_
      refine g_ireturn (Or.inl rfl) d_Mod_cook_36 rfl ?_
      cases h; exact hQ
    · replace h := itp h c9
      refine g_bipush (pc1 := 24) (v := (-3)) d_Mod_cook_22 rfl (by decide) ?_
      refine g_ireturn (Or.inl rfl) d_Mod_cook_24 rfl ?_
      cases h; exact hQ
  · replace h := itp h c3
    refine g_iconst (pc1 := 9) (v := (-1)) d_Mod_cook_8 rfl (by decide) ?_
    refine g_ireturn (Or.inl rfl) d_Mod_cook_9 rfl ?_
    cases h; exact hQ

def F_Mod_days (p1 : Int32) (M : gM) : Option (Int32 × gM) :=
  bI (F_Mod_in p1 0 60) (fun r2 => (if r2 = 0 then some ((-1), M) else (if p1 = 0 then some ((M 436 35), M) else bI (F_Mod_copies M) (fun M6 => bI (F_Mod_goes p1 M6) (fun M8 => bI (F_Mod_records M8) (fun M10 => some ((M10 436 35), M10)))))))
set_option maxHeartbeats 4000000 in
set_option maxRecDepth 20000 in
theorem f_Mod_days {l : Launch} {ld : Nat} {M : gM} {L : gL} {Q : Option Value → gM → gL → gR → Prop} (hld : isLa ld) {p1 : Int32}  {q : Int32 × gM} (h : F_Mod_days p1 M = some q) (hQ : Q (some (.int q.1)) q.2 L (rf ld)) : Tm l y_Mod_days (0, 0, 447) 447 [.ref 401, .int p1] M L (rf ld) Q := by
  refine Tm.of (by decide) (Nat.le_of_ble_eq_true rfl) ?_
  show Wp l y_Mod_days (0, 0, 447) 447 0 0 0 [(0, .ref 401), (1, .int p1)] [] M L (rf ld) Q
  unfold F_Mod_days at h
  refine g_iload_n (pc1 := 1) d_Mod_days_0 rfl 1 rfl ?_
  refine g_iconst (pc1 := 2) (v := 0) d_Mod_days_1 rfl (by decide) ?_
  refine g_bipush (pc1 := 4) (v := 60) d_Mod_days_2 rfl (by decide) ?_
  refine g_callS0 (pc1 := 7) (As := [.int p1, .int 0, .int 60]) (rest := []) d_Mod_days_4 rfl mo_Mod_316 ms_Mod_in (by decide) rfl rfl (Nat.le_of_ble_eq_true rfl) ?_
  obtain ⟨r2, hq1, h⟩ := bnd h
  refine f_Mod_in hld  hq1 ?_
  dsimp only [psh]
  refine g_if_ne (pc1 := 10) (tgt := 12) d_Mod_days_7 (by decide) rfl (fun c3 => ?_) (fun c3 => ?_)
  · replace h := itn h c3
    refine g_iload_n (pc1 := 13) d_Mod_days_12 rfl 1 rfl ?_
    refine g_if_ne (pc1 := 16) (tgt := 24) d_Mod_days_13 (by decide) rfl (fun c4 => ?_) (fun c4 => ?_)
    · replace h := itn h c4
      refine g_aload_n (pc1 := 25) d_Mod_days_24 rfl 0 rfl ?_
      refine g_callV0 (pc1 := 28) (As := []) (rest := []) d_Mod_days_25 rfl mo_Mod_377 mi_Mod_copies mv_Mod_copies rfl sh_401 (by decide) (by decide) rfl rfl (Nat.le_of_ble_eq_true rfl) ?_
      obtain ⟨M6, hq5, h⟩ := bnd h
      refine f_Mod_copies hld  hq5 ?_
      dsimp only [psh]
      refine g_aload_n (pc1 := 29) d_Mod_days_28 rfl 0 rfl ?_
      refine g_iload_n (pc1 := 30) d_Mod_days_29 rfl 1 rfl ?_
      refine g_callV0 (pc1 := 33) (As := [.int p1]) (rest := []) d_Mod_days_30 rfl mo_Mod_398 mi_Mod_goes mv_Mod_goes rfl sh_401 (by decide) (by decide) rfl rfl (Nat.le_of_ble_eq_true rfl) ?_
      obtain ⟨M8, hq7, h⟩ := bnd h
      refine f_Mod_goes hld  hq7 ?_
      dsimp only [psh]
      refine g_aload_n (pc1 := 34) d_Mod_days_33 rfl 0 rfl ?_
      refine g_callV0 (pc1 := 37) (As := []) (rest := []) d_Mod_days_34 rfl mo_Mod_392 mi_Mod_records mv_Mod_records rfl sh_401 (by decide) (by decide) rfl rfl (Nat.le_of_ble_eq_true rfl) ?_
      obtain ⟨M10, hq9, h⟩ := bnd h
      refine f_Mod_records hld  hq9 ?_
      dsimp only [psh]
      refine g_aload_n (pc1 := 38) d_Mod_days_37 rfl 0 rfl ?_
      refine g_getr (pc1 := 41) d_Mod_days_38 rfl ⟨_, fo_Mod_122⟩ sh_401 (by decide) (rf_401_52 ld) ?_
      refine g_bipush (pc1 := 43) (v := 35) d_Mod_days_41 rfl (by decide) ?_
      refine g_iald (pc1 := 44) d_Mod_days_43 rfl sh_436 (by decide) (vin_lit (x := 35) (by decide)) ?_
      refine Wp.vali (y := (M10 436 35)) (congrArg (M10 436) (by decide)) ?_
      refine g_ireturn (Or.inl rfl) d_Mod_days_44 rfl ?_
      cases h; exact hQ
    · replace h := itp h c4
      refine g_aload_n (pc1 := 17) d_Mod_days_16 rfl 0 rfl ?_
      refine g_getr (pc1 := 20) d_Mod_days_17 rfl ⟨_, fo_Mod_122⟩ sh_401 (by decide) (rf_401_52 ld) ?_
      refine g_bipush (pc1 := 22) (v := 35) d_Mod_days_20 rfl (by decide) ?_
      refine g_iald (pc1 := 23) d_Mod_days_22 rfl sh_436 (by decide) (vin_lit (x := 35) (by decide)) ?_
      refine Wp.vali (y := (M 436 35)) (congrArg (M 436) (by decide)) ?_
      refine g_ireturn (Or.inl rfl) d_Mod_days_23 rfl ?_
      cases h; exact hQ
  · replace h := itp h c3
    refine g_iconst (pc1 := 11) (v := (-1)) d_Mod_days_10 rfl (by decide) ?_
    refine g_ireturn (Or.inl rfl) d_Mod_days_11 rfl ?_
    cases h; exact hQ

def F_Mod_guest (p1 : Int32) (p2 : Int32) (M : gM) : Option (Int32 × gM) :=
  bI (F_Mod_isGuest p1 M) (fun r2 => (if r2 = 0 then some ((-1), M) else bI (F_Mod_copies M) (fun M5 => (if p2 = 0 then (if (((4 * (M5 401 18)) + p1) : Int32) < 0 ∨ 8 ≤ (((4 * (M5 401 18)) + p1) : Int32).toNatClampNeg then none else some ((M5 419 (((4 * (M5 401 18)) + p1) : Int32).toNatClampNeg), M5)) else (if p2 = 1 then (if ((15 + p1) : Int32) < 0 ∨ 38 ≤ ((15 + p1) : Int32).toNatClampNeg then none else (if 0 ≤ (M5 437 ((15 + p1) : Int32).toNatClampNeg) then (if ((15 + p1) : Int32) < 0 ∨ 38 ≤ ((15 + p1) : Int32).toNatClampNeg then none else some (((M5 437 35) - (M5 437 ((15 + p1) : Int32).toNatClampNeg)), M5)) else some ((-2), M5))) else (if p2 = 2 then (if ((31 + p1) : Int32) < 0 ∨ 38 ≤ ((31 + p1) : Int32).toNatClampNeg then none else some ((M5 437 ((31 + p1) : Int32).toNatClampNeg), M5)) else (if p2 = 3 then bI2 (F_Mod_boundNow p1 (p2 - 3) M5) (fun r16 M17 => some (r16, M17)) else (if p2 = 4 then bI2 (F_Mod_boundNow p1 (p2 - 3) M5) (fun r20 M21 => some (r20, M21)) else (if p2 = 5 then bI2 (F_Mod_boundNow p1 (p2 - 3) M5) (fun r24 M25 => some (r24, M25)) else some ((-1), M5))))))))))
set_option maxHeartbeats 4000000 in
set_option maxRecDepth 20000 in
theorem f_Mod_guest {l : Launch} {ld : Nat} {M : gM} {L : gL} {Q : Option Value → gM → gL → gR → Prop} (hld : isLa ld) {p1 : Int32} {p2 : Int32}  {q : Int32 × gM} (h : F_Mod_guest p1 p2 M = some q) (hQ : Q (some (.int q.1)) q.2 L (rf ld)) : Tm l y_Mod_guest (0, 0, 447) 447 [.ref 401, .int p1, .int p2] M L (rf ld) Q := by
  refine Tm.of (by decide) (Nat.le_of_ble_eq_true rfl) ?_
  show Wp l y_Mod_guest (0, 0, 447) 447 0 0 0 [(0, .ref 401), (1, .int p1), (2, .int p2)] [] M L (rf ld) Q
  unfold F_Mod_guest at h
  refine g_aload_n (pc1 := 1) d_Mod_guest_0 rfl 0 rfl ?_
  refine g_iload_n (pc1 := 2) d_Mod_guest_1 rfl 1 rfl ?_
  refine g_callV0 (pc1 := 5) (As := [.int p1]) (rest := []) d_Mod_guest_2 rfl mo_Mod_380 mi_Mod_isGuest mv_Mod_isGuest rfl sh_401 (by decide) (by decide) rfl rfl (Nat.le_of_ble_eq_true rfl) ?_
  obtain ⟨r2, hq1, h⟩ := bnd h
  refine f_Mod_isGuest hld  hq1 ?_
  dsimp only [psh]
  refine g_if_ne (pc1 := 8) (tgt := 10) d_Mod_guest_5 (by decide) rfl (fun c3 => ?_) (fun c3 => ?_)
  · replace h := itn h c3
    refine g_aload_n (pc1 := 11) d_Mod_guest_10 rfl 0 rfl ?_
    refine g_callV0 (pc1 := 14) (As := []) (rest := []) d_Mod_guest_11 rfl mo_Mod_377 mi_Mod_copies mv_Mod_copies rfl sh_401 (by decide) (by decide) rfl rfl (Nat.le_of_ble_eq_true rfl) ?_
    obtain ⟨M5, hq4, h⟩ := bnd h
    refine f_Mod_copies hld  hq4 ?_
    dsimp only [psh]
    refine g_iload_n (pc1 := 15) d_Mod_guest_14 rfl 2 rfl ?_
    by_cases c6 : p2 = 0
    · replace h := itp h c6
      refine g_tabK (tgt := 52) (off := 37) d_Mod_guest_15 c6 (by decide) (by decide) (by decide) (by decide) ?_
      refine g_aload_n (pc1 := 53) d_Mod_guest_52 rfl 0 rfl ?_
      refine g_getr (pc1 := 56) d_Mod_guest_53 rfl ⟨_, fo_Mod_70⟩ sh_401 (by decide) (rf_401_31 ld) ?_
      refine g_iconst (pc1 := 57) (v := 4) d_Mod_guest_56 rfl (by decide) ?_
      refine g_aload_n (pc1 := 58) d_Mod_guest_57 rfl 0 rfl ?_
      refine g_geti (pc1 := 61) d_Mod_guest_58 rfl ⟨_, fo_Mod_236⟩ sh_401 (by decide) ?_
      refine g_imul (pc1 := 62) d_Mod_guest_61 rfl ?_
      refine g_iload_n (pc1 := 63) d_Mod_guest_62 rfl 1 rfl ?_
      refine g_iadd (pc1 := 64) d_Mod_guest_63 rfl ?_
      obtain ⟨g7, h⟩ := gdn h
      refine g_iald (pc1 := 65) d_Mod_guest_64 rfl sh_419 (by decide) g7 ?_
      refine g_ireturn (Or.inl rfl) d_Mod_guest_65 rfl ?_
      cases h; exact hQ
    replace h := itn h c6
    by_cases c8 : p2 = 1
    · replace h := itp h c8
      refine g_tabK (tgt := 66) (off := 51) d_Mod_guest_15 c8 (by decide) (by decide) (by decide) (by decide) ?_
      refine g_aload_n (pc1 := 67) d_Mod_guest_66 rfl 0 rfl ?_
      refine g_getr (pc1 := 70) d_Mod_guest_67 rfl ⟨_, fo_Mod_125⟩ sh_401 (by decide) (rf_401_53 ld) ?_
      refine g_bipush (pc1 := 72) (v := 15) d_Mod_guest_70 rfl (by decide) ?_
      refine g_iload_n (pc1 := 73) d_Mod_guest_72 rfl 1 rfl ?_
      refine g_iadd (pc1 := 74) d_Mod_guest_73 rfl ?_
      obtain ⟨g9, h⟩ := gdn h
      refine g_iald (pc1 := 75) d_Mod_guest_74 rfl sh_437 (by decide) g9 ?_
      refine g_if_ge (pc1 := 78) (tgt := 83) d_Mod_guest_75 (by decide) rfl (fun c10 => ?_) (fun c10 => ?_)
      · replace h := itp h c10
        refine g_aload_n (pc1 := 84) d_Mod_guest_83 rfl 0 rfl ?_
        refine g_getr (pc1 := 87) d_Mod_guest_84 rfl ⟨_, fo_Mod_125⟩ sh_401 (by decide) (rf_401_53 ld) ?_
        refine g_bipush (pc1 := 89) (v := 35) d_Mod_guest_87 rfl (by decide) ?_
        refine g_iald (pc1 := 90) d_Mod_guest_89 rfl sh_437 (by decide) (vin_lit (x := 35) (by decide)) ?_
        refine Wp.vali (y := (M5 437 35)) (congrArg (M5 437) (by decide)) ?_
        refine g_aload_n (pc1 := 91) d_Mod_guest_90 rfl 0 rfl ?_
        refine g_getr (pc1 := 94) d_Mod_guest_91 rfl ⟨_, fo_Mod_125⟩ sh_401 (by decide) (rf_401_53 ld) ?_
        refine g_bipush (pc1 := 96) (v := 15) d_Mod_guest_94 rfl (by decide) ?_
        refine g_iload_n (pc1 := 97) d_Mod_guest_96 rfl 1 rfl ?_
        refine g_iadd (pc1 := 98) d_Mod_guest_97 rfl ?_
        obtain ⟨g11, h⟩ := gdn h
        refine g_iald (pc1 := 99) d_Mod_guest_98 rfl sh_437 (by decide) g11 ?_
        refine g_isub (pc1 := 100) d_Mod_guest_99 rfl ?_
        refine g_ireturn (Or.inl rfl) d_Mod_guest_100 rfl ?_
        cases h; exact hQ
      · replace h := itn h c10
        refine g_bipush (pc1 := 80) (v := (-2)) d_Mod_guest_78 rfl (by decide) ?_
        refine g_goto (tgt := 100) d_Mod_guest_80 (by decide) ?_
        refine g_ireturn (Or.inl rfl) d_Mod_guest_100 rfl ?_
        cases h; exact hQ
    replace h := itn h c8
    by_cases c12 : p2 = 2
    · replace h := itp h c12
      refine g_tabK (tgt := 101) (off := 86) d_Mod_guest_15 c12 (by decide) (by decide) (by decide) (by decide) ?_
      refine g_aload_n (pc1 := 102) d_Mod_guest_101 rfl 0 rfl ?_
      refine g_getr (pc1 := 105) d_Mod_guest_102 rfl ⟨_, fo_Mod_125⟩ sh_401 (by decide) (rf_401_53 ld) ?_
      refine g_bipush (pc1 := 107) (v := 31) d_Mod_guest_105 rfl (by decide) ?_
      refine g_iload_n (pc1 := 108) d_Mod_guest_107 rfl 1 rfl ?_
      refine g_iadd (pc1 := 109) d_Mod_guest_108 rfl ?_
      obtain ⟨g13, h⟩ := gdn h
      refine g_iald (pc1 := 110) d_Mod_guest_109 rfl sh_437 (by decide) g13 ?_
      refine g_ireturn (Or.inl rfl) d_Mod_guest_110 rfl ?_
      cases h; exact hQ
    replace h := itn h c12
    by_cases c14 : p2 = 3
    · replace h := itp h c14
      refine g_tabK (tgt := 111) (off := 96) d_Mod_guest_15 c14 (by decide) (by decide) (by decide) (by decide) ?_
      refine g_aload_n (pc1 := 112) d_Mod_guest_111 rfl 0 rfl ?_
      refine g_iload_n (pc1 := 113) d_Mod_guest_112 rfl 1 rfl ?_
      refine g_iload_n (pc1 := 114) d_Mod_guest_113 rfl 2 rfl ?_
      refine g_iconst (pc1 := 115) (v := 3) d_Mod_guest_114 rfl (by decide) ?_
      refine g_isub (pc1 := 116) d_Mod_guest_115 rfl ?_
      refine g_callV0 (pc1 := 119) (As := [.int p1, .int (p2 - 3)]) (rest := []) d_Mod_guest_116 rfl mo_Mod_349 mi_Mod_boundNow mv_Mod_boundNow rfl sh_401 (by decide) (by decide) rfl rfl (Nat.le_of_ble_eq_true rfl) ?_
      obtain ⟨r16, M17, hq15, h⟩ := bnd2 h
      refine f_Mod_boundNow hld  hq15 ?_
      dsimp only [psh]
      refine g_ireturn (Or.inl rfl) d_Mod_guest_119 rfl ?_
      cases h; exact hQ
    replace h := itn h c14
    by_cases c18 : p2 = 4
    · replace h := itp h c18
      refine g_tabK (tgt := 111) (off := 96) d_Mod_guest_15 c18 (by decide) (by decide) (by decide) (by decide) ?_
      refine g_aload_n (pc1 := 112) d_Mod_guest_111 rfl 0 rfl ?_
      refine g_iload_n (pc1 := 113) d_Mod_guest_112 rfl 1 rfl ?_
      refine g_iload_n (pc1 := 114) d_Mod_guest_113 rfl 2 rfl ?_
      refine g_iconst (pc1 := 115) (v := 3) d_Mod_guest_114 rfl (by decide) ?_
      refine g_isub (pc1 := 116) d_Mod_guest_115 rfl ?_
      refine g_callV0 (pc1 := 119) (As := [.int p1, .int (p2 - 3)]) (rest := []) d_Mod_guest_116 rfl mo_Mod_349 mi_Mod_boundNow mv_Mod_boundNow rfl sh_401 (by decide) (by decide) rfl rfl (Nat.le_of_ble_eq_true rfl) ?_
      obtain ⟨r20, M21, hq19, h⟩ := bnd2 h
      refine f_Mod_boundNow hld  hq19 ?_
      dsimp only [psh]
      refine g_ireturn (Or.inl rfl) d_Mod_guest_119 rfl ?_
      cases h; exact hQ
    replace h := itn h c18
    by_cases c22 : p2 = 5
    · replace h := itp h c22
      refine g_tabK (tgt := 111) (off := 96) d_Mod_guest_15 c22 (by decide) (by decide) (by decide) (by decide) ?_
      refine g_aload_n (pc1 := 112) d_Mod_guest_111 rfl 0 rfl ?_
      refine g_iload_n (pc1 := 113) d_Mod_guest_112 rfl 1 rfl ?_
      refine g_iload_n (pc1 := 114) d_Mod_guest_113 rfl 2 rfl ?_
      refine g_iconst (pc1 := 115) (v := 3) d_Mod_guest_114 rfl (by decide) ?_
      refine g_isub (pc1 := 116) d_Mod_guest_115 rfl ?_
      refine g_callV0 (pc1 := 119) (As := [.int p1, .int (p2 - 3)]) (rest := []) d_Mod_guest_116 rfl mo_Mod_349 mi_Mod_boundNow mv_Mod_boundNow rfl sh_401 (by decide) (by decide) rfl rfl (Nat.le_of_ble_eq_true rfl) ?_
      obtain ⟨r24, M25, hq23, h⟩ := bnd2 h
      refine f_Mod_boundNow hld  hq23 ?_
      dsimp only [psh]
      refine g_ireturn (Or.inl rfl) d_Mod_guest_119 rfl ?_
      cases h; exact hQ
    replace h := itn h c22
    refine g_tabOut (tgt := 120) d_Mod_guest_15 (by
      have nc6 := neT (a := 0) c6 (by decide)
      have nc8 := neT (a := 1) c8 (by decide)
      have nc12 := neT (a := 2) c12 (by decide)
      have nc14 := neT (a := 3) c14 (by decide)
      have nc18 := neT (a := 4) c18 (by decide)
      have nc22 := neT (a := 5) c22 (by decide)
      omega) (by decide) ?_
    refine g_iconst (pc1 := 121) (v := (-1)) d_Mod_guest_120 rfl (by decide) ?_
    refine g_ireturn (Or.inl rfl) d_Mod_guest_121 rfl ?_
    cases h; exact hQ
  · replace h := itp h c3
    refine g_iconst (pc1 := 9) (v := (-1)) d_Mod_guest_8 rfl (by decide) ?_
    refine g_ireturn (Or.inl rfl) d_Mod_guest_9 rfl ?_
    cases h; exact hQ

def F_Mod_isFree (p1 : Int32) (p2 : Int32) (M : gM) : Option (Int32 × gM) :=
  (if (((6 * (M 401 18)) + p2) : Int32) < 0 ∨ 12 ≤ (((6 * (M 401 18)) + p2) : Int32).toNatClampNeg then none else bI2 (F_Mod_boundNow p1 (M 421 (((6 * (M 401 18)) + p2) : Int32).toNatClampNeg) M) (fun r3 M4 => (if (((6 * (M4 401 18)) + p2) : Int32) < 0 ∨ 12 ≤ (((6 * (M4 401 18)) + p2) : Int32).toNatClampNeg then none else (if (M4 422 (((6 * (M4 401 18)) + p2) : Int32).toNatClampNeg) ≤ r3 then some (0, M4) else some (1, M4)))))
set_option maxHeartbeats 4000000 in
set_option maxRecDepth 20000 in
theorem f_Mod_isFree {l : Launch} {ld : Nat} {M : gM} {L : gL} {Q : Option Value → gM → gL → gR → Prop} (hld : isLa ld) {p1 : Int32} {p2 : Int32}  {q : Int32 × gM} (h : F_Mod_isFree p1 p2 M = some q) (hQ : Q (some (.int q.1)) q.2 L (rf ld)) : Tm l y_Mod_isFree (0, 0, 447) 447 [.ref 401, .int p1, .int p2] M L (rf ld) Q := by
  refine Tm.of (by decide) (Nat.le_of_ble_eq_true rfl) ?_
  show Wp l y_Mod_isFree (0, 0, 447) 447 0 0 0 [(0, .ref 401), (1, .int p1), (2, .int p2)] [] M L (rf ld) Q
  unfold F_Mod_isFree at h
  refine g_aload_n (pc1 := 1) d_Mod_isFree_0 rfl 0 rfl ?_
  refine g_iload_n (pc1 := 2) d_Mod_isFree_1 rfl 1 rfl ?_
  refine g_aload_n (pc1 := 3) d_Mod_isFree_2 rfl 0 rfl ?_
  refine g_getr (pc1 := 6) d_Mod_isFree_3 rfl ⟨_, fo_Mod_76⟩ sh_401 (by decide) (rf_401_33 ld) ?_
  refine g_bipush (pc1 := 8) (v := 6) d_Mod_isFree_6 rfl (by decide) ?_
  refine g_aload_n (pc1 := 9) d_Mod_isFree_8 rfl 0 rfl ?_
  refine g_geti (pc1 := 12) d_Mod_isFree_9 rfl ⟨_, fo_Mod_236⟩ sh_401 (by decide) ?_
  refine g_imul (pc1 := 13) d_Mod_isFree_12 rfl ?_
  refine g_iload_n (pc1 := 14) d_Mod_isFree_13 rfl 2 rfl ?_
  refine g_iadd (pc1 := 15) d_Mod_isFree_14 rfl ?_
  obtain ⟨g1, h⟩ := gdn h
  refine g_iald (pc1 := 16) d_Mod_isFree_15 rfl sh_421 (by decide) g1 ?_
  refine g_callV0 (pc1 := 19) (As := [.int p1, .int (M 421 (((6 * (M 401 18)) + p2) : Int32).toNatClampNeg)]) (rest := []) d_Mod_isFree_16 rfl mo_Mod_349 mi_Mod_boundNow mv_Mod_boundNow rfl sh_401 (by decide) (by decide) rfl rfl (Nat.le_of_ble_eq_true rfl) ?_
  obtain ⟨r3, M4, hq2, h⟩ := bnd2 h
  refine f_Mod_boundNow hld  hq2 ?_
  dsimp only [psh]
  refine g_aload_n (pc1 := 20) d_Mod_isFree_19 rfl 0 rfl ?_
  refine g_getr (pc1 := 23) d_Mod_isFree_20 rfl ⟨_, fo_Mod_79⟩ sh_401 (by decide) (rf_401_34 ld) ?_
  refine g_bipush (pc1 := 25) (v := 6) d_Mod_isFree_23 rfl (by decide) ?_
  refine g_aload_n (pc1 := 26) d_Mod_isFree_25 rfl 0 rfl ?_
  refine g_geti (pc1 := 29) d_Mod_isFree_26 rfl ⟨_, fo_Mod_236⟩ sh_401 (by decide) ?_
  refine g_imul (pc1 := 30) d_Mod_isFree_29 rfl ?_
  refine g_iload_n (pc1 := 31) d_Mod_isFree_30 rfl 2 rfl ?_
  refine g_iadd (pc1 := 32) d_Mod_isFree_31 rfl ?_
  obtain ⟨g5, h⟩ := gdn h
  refine g_iald (pc1 := 33) d_Mod_isFree_32 rfl sh_422 (by decide) g5 ?_
  refine g_icmp_ge (pc1 := 36) (tgt := 40) d_Mod_isFree_33 (by decide) rfl (fun c6 => ?_) (fun c6 => ?_)
  · replace h := itp h c6
    refine g_iconst (pc1 := 41) (v := 0) d_Mod_isFree_40 rfl (by decide) ?_
    refine g_ireturn (Or.inr ⟨rfl, rfl⟩) d_Mod_isFree_41 rfl ?_
    cases h; exact hQ
  · replace h := itn h c6
    refine g_iconst (pc1 := 37) (v := 1) d_Mod_isFree_36 rfl (by decide) ?_
    refine g_goto (tgt := 41) d_Mod_isFree_37 (by decide) ?_
    refine g_ireturn (Or.inr ⟨rfl, rfl⟩) d_Mod_isFree_41 rfl ?_
    cases h; exact hQ

def F_Mod_isWay (p1 : Int32) (p2 : Int32) (M : gM) : Option (Int32 × gM) :=
  bI2 (F_Mod_fillsWay p1 M) (fun r2 M3 => (if r2 = 0 then some (0, M3) else bI2 (F_Mod_isAsKnown p2 M3) (fun r6 M7 => (if r6 = 0 then some (0, M7) else some (1, M7)))))
set_option maxHeartbeats 4000000 in
set_option maxRecDepth 20000 in
theorem f_Mod_isWay {l : Launch} {ld : Nat} {M : gM} {L : gL} {Q : Option Value → gM → gL → gR → Prop} (hld : isLa ld) {p1 : Int32} {p2 : Int32}  {q : Int32 × gM} (h : F_Mod_isWay p1 p2 M = some q) (hQ : Q (some (.int q.1)) q.2 L (rf ld)) : Tm l y_Mod_isWay (0, 0, 447) 447 [.ref 401, .int p1, .int p2] M L (rf ld) Q := by
  refine Tm.of (by decide) (Nat.le_of_ble_eq_true rfl) ?_
  show Wp l y_Mod_isWay (0, 0, 447) 447 0 0 0 [(0, .ref 401), (1, .int p1), (2, .int p2)] [] M L (rf ld) Q
  unfold F_Mod_isWay at h
  refine g_aload_n (pc1 := 1) d_Mod_isWay_0 rfl 0 rfl ?_
  refine g_iload_n (pc1 := 2) d_Mod_isWay_1 rfl 1 rfl ?_
  refine g_callV0 (pc1 := 5) (As := [.int p1]) (rest := []) d_Mod_isWay_2 rfl mo_Mod_449 mi_Mod_fillsWay mv_Mod_fillsWay rfl sh_401 (by decide) (by decide) rfl rfl (Nat.le_of_ble_eq_true rfl) ?_
  obtain ⟨r2, M3, hq1, h⟩ := bnd2 h
  refine f_Mod_fillsWay hld  hq1 ?_
  dsimp only [psh]
  refine g_if_eq (pc1 := 8) (tgt := 20) d_Mod_isWay_5 (by decide) rfl (fun c4 => ?_) (fun c4 => ?_)
  · replace h := itp h c4
    refine g_iconst (pc1 := 21) (v := 0) d_Mod_isWay_20 rfl (by decide) ?_
    refine g_ireturn (Or.inr ⟨rfl, rfl⟩) d_Mod_isWay_21 rfl ?_
    cases h; exact hQ
  · replace h := itn h c4
    refine g_aload_n (pc1 := 9) d_Mod_isWay_8 rfl 0 rfl ?_
    refine g_iload_n (pc1 := 10) d_Mod_isWay_9 rfl 2 rfl ?_
    refine g_callV0 (pc1 := 13) (As := [.int p2]) (rest := []) d_Mod_isWay_10 rfl mo_Mod_452 mi_Mod_isAsKnown mv_Mod_isAsKnown rfl sh_401 (by decide) (by decide) rfl rfl (Nat.le_of_ble_eq_true rfl) ?_
    obtain ⟨r6, M7, hq5, h⟩ := bnd2 h
    refine f_Mod_isAsKnown hld  hq5 ?_
    dsimp only [psh]
    refine g_if_eq (pc1 := 16) (tgt := 20) d_Mod_isWay_13 (by decide) rfl (fun c8 => ?_) (fun c8 => ?_)
    · replace h := itp h c8
      refine g_iconst (pc1 := 21) (v := 0) d_Mod_isWay_20 rfl (by decide) ?_
      refine g_ireturn (Or.inr ⟨rfl, rfl⟩) d_Mod_isWay_21 rfl ?_
      cases h; exact hQ
    · replace h := itn h c8
      refine g_iconst (pc1 := 17) (v := 1) d_Mod_isWay_16 rfl (by decide) ?_
      refine g_goto (tgt := 21) d_Mod_isWay_17 (by decide) ?_
      refine g_ireturn (Or.inr ⟨rfl, rfl⟩) d_Mod_isWay_21 rfl ?_
      cases h; exact hQ
end MG5x2
section MG5x3
def J_Mod_pot_156 (v4 : Int32) (M : gM) : Option (Int32 × gM) :=
  (if 0 ≤ (M 401 59) then (if v4 = 0 then some ((M 401 60), M) else (if v4 = 1 then some ((M 401 62), M) else bI (F_Mod_sevens (7 - v4)) (fun r24 => (if r24 = 0 then none else some ((((M 401 59) / r24) - ((M 401 59) / r24) / 7 * 7), M))))) else some ((-2), M))
set_option maxHeartbeats 4000000 in
set_option maxRecDepth 20000 in
theorem j_Mod_pot_156 {l : Launch} {ld : Nat} {Q : Option Value → gM → gL → gR → Prop} (hld : isLa ld)   {q : Int32 × gM} {M : gM} {L : gL} (hQ : Q (some (.int q.1)) q.2 L (rf ld))  {v4 : Int32}  (h : J_Mod_pot_156 v4 M = some q) : Wp l y_Mod_pot (0, 0, 447) 447 0 0 156 [(0, .ref 401), (4, .int v4)] [] M L (rf ld) Q := by
  unfold J_Mod_pot_156 at h
  refine g_aload_n (pc1 := 157) d_Mod_pot_156 rfl 0 rfl ?_
  refine g_geti (pc1 := 160) d_Mod_pot_157 rfl ⟨_, fo_Mod_404⟩ sh_401 (by decide) ?_
  refine g_if_ge (pc1 := 163) (tgt := 166) d_Mod_pot_160 (by decide) rfl (fun c20 => ?_) (fun c20 => ?_)
  · replace h := itp h c20
    refine g_iload (pc1 := 168) d_Mod_pot_166 rfl 1 rfl ?_
    refine g_if_ne (pc1 := 171) (tgt := 178) d_Mod_pot_168 (by decide) rfl (fun c21 => ?_) (fun c21 => ?_)
    · replace h := itn h c21
      refine g_iload (pc1 := 180) d_Mod_pot_178 rfl 1 rfl ?_
      refine g_iconst (pc1 := 181) (v := 1) d_Mod_pot_180 rfl (by decide) ?_
      refine g_icmp_ne (pc1 := 184) (tgt := 191) d_Mod_pot_181 (by decide) rfl (fun c22 => ?_) (fun c22 => ?_)
      · replace h := itn h c22
        refine g_aload_n (pc1 := 192) d_Mod_pot_191 rfl 0 rfl ?_
        refine g_geti (pc1 := 195) d_Mod_pot_192 rfl ⟨_, fo_Mod_404⟩ sh_401 (by decide) ?_
        refine g_bipush (pc1 := 197) (v := 7) d_Mod_pot_195 rfl (by decide) ?_
        refine g_iload (pc1 := 199) d_Mod_pot_197 rfl 1 rfl ?_
        refine g_isub (pc1 := 200) d_Mod_pot_199 rfl ?_
        refine g_callS0 (pc1 := 203) (As := [.int (7 - v4)]) (rest := [.int (M 401 59)]) d_Mod_pot_200 rfl mo_Mod_401 ms_Mod_sevens (by decide) rfl rfl (Nat.le_of_ble_eq_true rfl) ?_
        obtain ⟨r24, hq23, h⟩ := bnd h
        refine f_Mod_sevens hld  hq23 ?_
        dsimp only [psh]
        obtain ⟨g25, h⟩ := gdn h
        refine g_idiv (pc1 := 204) d_Mod_pot_203 rfl g25 ?_
        refine g_bipush (pc1 := 206) (v := 7) d_Mod_pot_204 rfl (by decide) ?_
        refine g_irem (pc1 := 207) d_Mod_pot_206 rfl (by decide) ?_
        refine g_ireturn (Or.inl rfl) d_Mod_pot_207 rfl ?_
        cases h; exact hQ
      · replace h := itp h c22
        refine g_aload_n (pc1 := 185) d_Mod_pot_184 rfl 0 rfl ?_
        refine g_geti (pc1 := 188) d_Mod_pot_185 rfl ⟨_, fo_Mod_413⟩ sh_401 (by decide) ?_
        refine g_goto (tgt := 207) d_Mod_pot_188 (by decide) ?_
        refine g_ireturn (Or.inl rfl) d_Mod_pot_207 rfl ?_
        cases h; exact hQ
    · replace h := itp h c21
      refine g_aload_n (pc1 := 172) d_Mod_pot_171 rfl 0 rfl ?_
      refine g_geti (pc1 := 175) d_Mod_pot_172 rfl ⟨_, fo_Mod_407⟩ sh_401 (by decide) ?_
      refine g_goto (tgt := 207) d_Mod_pot_175 (by decide) ?_
      refine g_ireturn (Or.inl rfl) d_Mod_pot_207 rfl ?_
      cases h; exact hQ
  · replace h := itn h c20
    refine g_bipush (pc1 := 165) (v := (-2)) d_Mod_pot_163 rfl (by decide) ?_
    refine g_ireturn (Or.inl rfl) d_Mod_pot_165 rfl ?_
    cases h; exact hQ
def J_Mod_pot_150 (K61 : Int32 → gM → Option (Int32 × gM)) (v1 : Int32) (v2 : Int32) (v3 : Int32) (v4 : Int32) (v5 : Int32) (M : gM) : Option (Int32 × gM) :=
  nmI (v5 + (-1)) (fun x30 => K61 x30 M)
set_option maxHeartbeats 4000000 in
set_option maxRecDepth 20000 in
theorem j_Mod_pot_150 {l : Launch} {ld : Nat} {Q : Option Value → gM → gL → gR → Prop} (hld : isLa ld)   {q : Int32 × gM} {M : gM} {L : gL} (hQ : Q (some (.int q.1)) q.2 L (rf ld)) {K61 : Int32 → gM → Option (Int32 × gM)} {v1 : Int32} {v2 : Int32} {v3 : Int32} {v4 : Int32} {v5 : Int32} (hK61 : ∀ (w5 : Int32) (M : gM), K61 w5 M = some q → Wp l y_Mod_pot (0, 0, 447) 447 0 0 61 [(0, .ref 401), (1, .int v1), (2, .int v2), (3, .int v3), (4, .int v4), (5, .int w5)] [] M L (rf ld) Q) (h : J_Mod_pot_150 K61 v1 v2 v3 v4 v5 M = some q) : Wp l y_Mod_pot (0, 0, 447) 447 0 0 150 [(0, .ref 401), (1, .int v1), (2, .int v2), (3, .int v3), (4, .int v4), (5, .int v5)] [] M L (rf ld) Q := by
  unfold J_Mod_pot_150 at h
  obtain ⟨x30, ex30, h⟩ := ltI h
  refine g_iinc (pc1 := 153) (v := x30) (lv' := [(0, .ref 401), (1, .int v1), (2, .int v2), (3, .int v3), (4, .int v4), (5, .int x30)]) d_Mod_pot_150 rfl 5 rfl (by rw [ex30]; rfl) (by decide) [1, 2, 3, 4, 5, 0] rfl ?_
  refine g_goto (tgt := 61) d_Mod_pot_153 (by decide) ?_
  exact hK61 x30 M h
def J_Mod_pot_96 (K61 : Int32 → gM → Option (Int32 × gM)) (v1 : Int32) (v2 : Int32) (v3 : Int32) (v4 : Int32) (v5 : Int32) (M : gM) : Option (Int32 × gM) :=
  bI2 (F_Mod_potAt v1 v2 v3 M) (fun r33 M34 => (if r33 < 0 then J_Mod_pot_150 K61 v1 v2 v3 v4 v5 M34 else bI (F_Mod_isBetter r33 M34) (fun r37 => (if r37 = 0 then J_Mod_pot_150 K61 v1 v2 v3 v4 v5 M34 else nmM (uM M34 401 59 v5) (fun M39 => bI (F_Mod_potPrice M39) (fun r41 => nmM (uM M39 401 60 r41) (fun M42 => bI (F_Mod_potMany M42) (fun r44 => nmM (uM M42 401 61 r44) (fun M45 => nmM (uM M45 401 62 r33) (fun M46 => J_Mod_pot_150 K61 v1 v2 v3 v4 v5 M46))))))))))
set_option maxHeartbeats 4000000 in
set_option maxRecDepth 20000 in
theorem j_Mod_pot_96 {l : Launch} {ld : Nat} {Q : Option Value → gM → gL → gR → Prop} (hld : isLa ld)   {q : Int32 × gM} {M : gM} {L : gL} (hQ : Q (some (.int q.1)) q.2 L (rf ld)) {K61 : Int32 → gM → Option (Int32 × gM)} {v1 : Int32} {v2 : Int32} {v3 : Int32} {v4 : Int32} {v5 : Int32} (hK61 : ∀ (w5 : Int32) (M : gM), K61 w5 M = some q → Wp l y_Mod_pot (0, 0, 447) 447 0 0 61 [(0, .ref 401), (1, .int v1), (2, .int v2), (3, .int v3), (4, .int v4), (5, .int w5)] [] M L (rf ld) Q) (h : J_Mod_pot_96 K61 v1 v2 v3 v4 v5 M = some q) : Wp l y_Mod_pot (0, 0, 447) 447 0 0 96 [(0, .ref 401), (1, .int v1), (2, .int v2), (3, .int v3), (4, .int v4), (5, .int v5)] [] M L (rf ld) Q := by
  unfold J_Mod_pot_96 at h
  refine g_aload_n (pc1 := 97) d_Mod_pot_96 rfl 0 rfl ?_
  refine g_iload_n (pc1 := 98) d_Mod_pot_97 rfl 1 rfl ?_
  refine g_iload_n (pc1 := 99) d_Mod_pot_98 rfl 2 rfl ?_
  refine g_iload_n (pc1 := 100) d_Mod_pot_99 rfl 3 rfl ?_
  refine g_callV0 (pc1 := 103) (As := [.int v1, .int v2, .int v3]) (rest := []) d_Mod_pot_100 rfl mo_Mod_419 mi_Mod_potAt mv_Mod_potAt rfl sh_401 (by decide) (by decide) rfl rfl (Nat.le_of_ble_eq_true rfl) ?_
  obtain ⟨r33, M34, hq32, h⟩ := bnd2 h
  refine f_Mod_potAt hld  hq32 ?_
  dsimp only [psh]
  refine g_istore (pc1 := 105) (lv' := [(0, .ref 401), (1, .int v1), (2, .int v2), (3, .int v3), (4, .int v4), (5, .int v5), (6, .int r33)]) d_Mod_pot_103 rfl (by decide) [1, 2, 3, 4, 5, 6, 0] rfl ?_
  refine g_iload (pc1 := 107) d_Mod_pot_105 rfl 6 rfl ?_
  refine g_if_lt (pc1 := 110) (tgt := 150) d_Mod_pot_107 (by decide) rfl (fun c35 => ?_) (fun c35 => ?_)
  · replace h := itp h c35
    refine Wp.loc (lv' := [(0, .ref 401), (1, .int v1), (2, .int v2), (3, .int v3), (4, .int v4), (5, .int v5)]) [0, 1, 2, 3, 4, 5] rfl ?_
    exact j_Mod_pot_150 hld  hQ hK61 h
  · replace h := itn h c35
    refine g_aload_n (pc1 := 111) d_Mod_pot_110 rfl 0 rfl ?_
    refine g_iload (pc1 := 113) d_Mod_pot_111 rfl 6 rfl ?_
    refine g_callV0 (pc1 := 116) (As := [.int r33]) (rest := []) d_Mod_pot_113 rfl mo_Mod_422 mi_Mod_isBetter mv_Mod_isBetter rfl sh_401 (by decide) (by decide) rfl rfl (Nat.le_of_ble_eq_true rfl) ?_
    obtain ⟨r37, hq36, h⟩ := bnd h
    refine f_Mod_isBetter hld  hq36 ?_
    dsimp only [psh]
    refine g_if_ne (pc1 := 119) (tgt := 122) d_Mod_pot_116 (by decide) rfl (fun c38 => ?_) (fun c38 => ?_)
    · replace h := itn h c38
      refine g_aload_n (pc1 := 123) d_Mod_pot_122 rfl 0 rfl ?_
      refine g_iload (pc1 := 125) d_Mod_pot_123 rfl 5 rfl ?_
      refine g_puti (pc1 := 128) d_Mod_pot_125 rfl fo_Mod_404 (po_12_59 _) sh_401 (by decide) ?_
      refine Wp.lM h (fun M39 h => ?_)
      refine g_aload_n (pc1 := 129) d_Mod_pot_128 rfl 0 rfl ?_
      refine g_aload_n (pc1 := 130) d_Mod_pot_129 rfl 0 rfl ?_
      refine g_callV0 (pc1 := 133) (As := []) (rest := [.ref 401]) d_Mod_pot_130 rfl mo_Mod_362 mi_Mod_potPrice mv_Mod_potPrice rfl sh_401 (by decide) (by decide) rfl rfl (Nat.le_of_ble_eq_true rfl) ?_
      obtain ⟨r41, hq40, h⟩ := bnd h
      refine f_Mod_potPrice hld  hq40 ?_
      dsimp only [psh]
      refine g_puti (pc1 := 136) d_Mod_pot_133 rfl fo_Mod_407 (po_12_60 _) sh_401 (by decide) ?_
      refine Wp.lM h (fun M42 h => ?_)
      refine g_aload_n (pc1 := 137) d_Mod_pot_136 rfl 0 rfl ?_
      refine g_aload_n (pc1 := 138) d_Mod_pot_137 rfl 0 rfl ?_
      refine g_callV0 (pc1 := 141) (As := []) (rest := [.ref 401]) d_Mod_pot_138 rfl mo_Mod_339 mi_Mod_potMany mv_Mod_potMany rfl sh_401 (by decide) (by decide) rfl rfl (Nat.le_of_ble_eq_true rfl) ?_
      obtain ⟨r44, hq43, h⟩ := bnd h
      refine f_Mod_potMany hld  hq43 ?_
      dsimp only [psh]
      refine g_puti (pc1 := 144) d_Mod_pot_141 rfl fo_Mod_410 (po_12_61 _) sh_401 (by decide) ?_
      refine Wp.lM h (fun M45 h => ?_)
      refine g_aload_n (pc1 := 145) d_Mod_pot_144 rfl 0 rfl ?_
      refine g_iload (pc1 := 147) d_Mod_pot_145 rfl 6 rfl ?_
      refine g_puti (pc1 := 150) d_Mod_pot_147 rfl fo_Mod_413 (po_12_62 _) sh_401 (by decide) ?_
      refine Wp.lM h (fun M46 h => ?_)
      refine Wp.loc (lv' := [(0, .ref 401), (1, .int v1), (2, .int v2), (3, .int v3), (4, .int v4), (5, .int v5)]) [0, 1, 2, 3, 4, 5] rfl ?_
      exact j_Mod_pot_150 hld  hQ hK61 h
    · replace h := itp h c38
      refine g_goto (tgt := 150) d_Mod_pot_119 (by decide) ?_
      refine Wp.loc (lv' := [(0, .ref 401), (1, .int v1), (2, .int v2), (3, .int v3), (4, .int v4), (5, .int v5)]) [0, 1, 2, 3, 4, 5] rfl ?_
      exact j_Mod_pot_150 hld  hQ hK61 h
def B_Mod_pot_61 (v1 : Int32) (v2 : Int32) (v3 : Int32) (v4 : Int32) (K61 : Int32 → gM → Option (Int32 × gM)) : Int32 → gM → Option (Int32 × gM) := fun v5 M =>
  (if v5 ≤ 0 then J_Mod_pot_156 v4 M else bI2 (F_Mod_isPot v5 M) (fun r27 M28 => (if r27 = 0 then J_Mod_pot_150 K61 v1 v2 v3 v4 v5 M28 else (if (M28 401 59) < 0 then J_Mod_pot_96 K61 v1 v2 v3 v4 v5 M28 else bI (F_Mod_potPrice M28) (fun r48 => (if r48 ≤ (M28 401 60) then J_Mod_pot_96 K61 v1 v2 v3 v4 v5 M28 else J_Mod_pot_150 K61 v1 v2 v3 v4 v5 M28))))))
def H_Mod_pot_61 (v1 : Int32) (v2 : Int32) (v3 : Int32) (v4 : Int32) : Nat → Int32 → gM → Option (Int32 × gM) := lpK (B_Mod_pot_61 v1 v2 v3 v4) (fun _ _ => none)
set_option maxHeartbeats 4000000 in
set_option maxRecDepth 20000 in
theorem h_Mod_pot_61 {l : Launch} {ld : Nat} {Q : Option Value → gM → gL → gR → Prop} (hld : isLa ld)   {q : Int32 × gM} {L : gL} (hQ : Q (some (.int q.1)) q.2 L (rf ld))  {v1 : Int32} {v2 : Int32} {v3 : Int32} {v4 : Int32}  : ∀ (f : Nat) (v5 : Int32) (M : gM), H_Mod_pot_61 v1 v2 v3 v4 f v5 M = some q → Wp l y_Mod_pot (0, 0, 447) 447 0 0 61 [(0, .ref 401), (1, .int v1), (2, .int v2), (3, .int v3), (4, .int v4), (5, .int v5)] [] M L (rf ld) Q := by
  intro f
  induction f with
  | zero => intro v5 M h; cases h
  | succ f hK61 =>
    intro v5 M h
    replace h : B_Mod_pot_61 v1 v2 v3 v4 (H_Mod_pot_61 v1 v2 v3 v4 f) v5 M = some q := h
    unfold B_Mod_pot_61 at h
    refine g_iload (pc1 := 63) d_Mod_pot_61 rfl 5 rfl ?_
    refine g_if_le (pc1 := 66) (tgt := 156) d_Mod_pot_63 (by decide) rfl (fun c19 => ?_) (fun c19 => ?_)
    · replace h := itp h c19
      refine Wp.loc (lv' := [(0, .ref 401), (4, .int v4)]) [0, 4] rfl ?_
      exact j_Mod_pot_156 hld  hQ  h
    · replace h := itn h c19
      refine g_aload_n (pc1 := 67) d_Mod_pot_66 rfl 0 rfl ?_
      refine g_iload (pc1 := 69) d_Mod_pot_67 rfl 5 rfl ?_
      refine g_callV0 (pc1 := 72) (As := [.int v5]) (rest := []) d_Mod_pot_69 rfl mo_Mod_416 mi_Mod_isPot mv_Mod_isPot rfl sh_401 (by decide) (by decide) rfl rfl (Nat.le_of_ble_eq_true rfl) ?_
      obtain ⟨r27, M28, hq26, h⟩ := bnd2 h
      refine f_Mod_isPot hld  hq26 ?_
      dsimp only [psh]
      refine g_if_eq (pc1 := 75) (tgt := 150) d_Mod_pot_72 (by decide) rfl (fun c29 => ?_) (fun c29 => ?_)
      · replace h := itp h c29
        exact j_Mod_pot_150 hld  hQ hK61 h
      · replace h := itn h c29
        refine g_aload_n (pc1 := 76) d_Mod_pot_75 rfl 0 rfl ?_
        refine g_geti (pc1 := 79) d_Mod_pot_76 rfl ⟨_, fo_Mod_404⟩ sh_401 (by decide) ?_
        refine g_if_lt (pc1 := 82) (tgt := 96) d_Mod_pot_79 (by decide) rfl (fun c31 => ?_) (fun c31 => ?_)
        · replace h := itp h c31
          exact j_Mod_pot_96 hld  hQ hK61 h
        · replace h := itn h c31
          refine g_aload_n (pc1 := 83) d_Mod_pot_82 rfl 0 rfl ?_
          refine g_callV0 (pc1 := 86) (As := []) (rest := []) d_Mod_pot_83 rfl mo_Mod_362 mi_Mod_potPrice mv_Mod_potPrice rfl sh_401 (by decide) (by decide) rfl rfl (Nat.le_of_ble_eq_true rfl) ?_
          obtain ⟨r48, hq47, h⟩ := bnd h
          refine f_Mod_potPrice hld  hq47 ?_
          dsimp only [psh]
          refine g_aload_n (pc1 := 87) d_Mod_pot_86 rfl 0 rfl ?_
          refine g_geti (pc1 := 90) d_Mod_pot_87 rfl ⟨_, fo_Mod_407⟩ sh_401 (by decide) ?_
          refine g_icmp_le (pc1 := 93) (tgt := 96) d_Mod_pot_90 (by decide) rfl (fun c49 => ?_) (fun c49 => ?_)
          · replace h := itp h c49
            exact j_Mod_pot_96 hld  hQ hK61 h
          · replace h := itn h c49
            refine g_goto (tgt := 150) d_Mod_pot_93 (by decide) ?_
            exact j_Mod_pot_150 hld  hQ hK61 h
def F_Mod_pot (p1 : Int32) (p2 : Int32) (p3 : Int32) (p4 : Int32) (M : gM) : Option (Int32 × gM) :=
  bI (F_Mod_in p1 0 99) (fun r2 => (if r2 = 0 then some ((-1), M) else bI (F_Mod_in p2 0 99) (fun r5 => (if r5 = 0 then some ((-1), M) else bI (F_Mod_in p3 0 99) (fun r8 => (if r8 = 0 then some ((-1), M) else bI (F_Mod_in p4 0 7) (fun r11 => (if r11 = 0 then some ((-1), M) else bI (F_Mod_copies M) (fun M14 => nmM (uM M14 401 59 (-1)) (fun M15 => bI (F_Mod_sevens 6) (fun r17 => nmI (r17 - 1) (fun x18 => H_Mod_pot_61 p1 p2 p3 p4 FU x18 M15))))))))))))
set_option maxHeartbeats 4000000 in
set_option maxRecDepth 20000 in
theorem f_Mod_pot {l : Launch} {ld : Nat} {M : gM} {L : gL} {Q : Option Value → gM → gL → gR → Prop} (hld : isLa ld) {p1 : Int32} {p2 : Int32} {p3 : Int32} {p4 : Int32}  {q : Int32 × gM} (h : F_Mod_pot p1 p2 p3 p4 M = some q) (hQ : Q (some (.int q.1)) q.2 L (rf ld)) : Tm l y_Mod_pot (0, 0, 447) 447 [.ref 401, .int p1, .int p2, .int p3, .int p4] M L (rf ld) Q := by
  refine Tm.of (by decide) (Nat.le_of_ble_eq_true rfl) ?_
  show Wp l y_Mod_pot (0, 0, 447) 447 0 0 0 [(0, .ref 401), (1, .int p1), (2, .int p2), (3, .int p3), (4, .int p4)] [] M L (rf ld) Q
  unfold F_Mod_pot at h
  refine g_iload_n (pc1 := 1) d_Mod_pot_0 rfl 1 rfl ?_
  refine g_iconst (pc1 := 2) (v := 0) d_Mod_pot_1 rfl (by decide) ?_
  refine g_bipush (pc1 := 4) (v := 99) d_Mod_pot_2 rfl (by decide) ?_
  refine g_callS0 (pc1 := 7) (As := [.int p1, .int 0, .int 99]) (rest := []) d_Mod_pot_4 rfl mo_Mod_316 ms_Mod_in (by decide) rfl rfl (Nat.le_of_ble_eq_true rfl) ?_
  obtain ⟨r2, hq1, h⟩ := bnd h
  refine f_Mod_in hld  hq1 ?_
  dsimp only [psh]
  refine g_if_eq (pc1 := 10) (tgt := 41) d_Mod_pot_7 (by decide) rfl (fun c3 => ?_) (fun c3 => ?_)
  · replace h := itp h c3
    refine g_iconst (pc1 := 42) (v := (-1)) d_Mod_pot_41 rfl (by decide) ?_
    refine g_ireturn (Or.inl rfl) d_Mod_pot_42 rfl ?_
    cases h; exact hQ
  · replace h := itn h c3
    refine g_iload_n (pc1 := 11) d_Mod_pot_10 rfl 2 rfl ?_
    refine g_iconst (pc1 := 12) (v := 0) d_Mod_pot_11 rfl (by decide) ?_
    refine g_bipush (pc1 := 14) (v := 99) d_Mod_pot_12 rfl (by decide) ?_
    refine g_callS0 (pc1 := 17) (As := [.int p2, .int 0, .int 99]) (rest := []) d_Mod_pot_14 rfl mo_Mod_316 ms_Mod_in (by decide) rfl rfl (Nat.le_of_ble_eq_true rfl) ?_
    obtain ⟨r5, hq4, h⟩ := bnd h
    refine f_Mod_in hld  hq4 ?_
    dsimp only [psh]
    refine g_if_eq (pc1 := 20) (tgt := 41) d_Mod_pot_17 (by decide) rfl (fun c6 => ?_) (fun c6 => ?_)
    · replace h := itp h c6
      refine g_iconst (pc1 := 42) (v := (-1)) d_Mod_pot_41 rfl (by decide) ?_
      refine g_ireturn (Or.inl rfl) d_Mod_pot_42 rfl ?_
      cases h; exact hQ
    · replace h := itn h c6
      refine g_iload_n (pc1 := 21) d_Mod_pot_20 rfl 3 rfl ?_
      refine g_iconst (pc1 := 22) (v := 0) d_Mod_pot_21 rfl (by decide) ?_
      refine g_bipush (pc1 := 24) (v := 99) d_Mod_pot_22 rfl (by decide) ?_
      refine g_callS0 (pc1 := 27) (As := [.int p3, .int 0, .int 99]) (rest := []) d_Mod_pot_24 rfl mo_Mod_316 ms_Mod_in (by decide) rfl rfl (Nat.le_of_ble_eq_true rfl) ?_
      obtain ⟨r8, hq7, h⟩ := bnd h
      refine f_Mod_in hld  hq7 ?_
      dsimp only [psh]
      refine g_if_eq (pc1 := 30) (tgt := 41) d_Mod_pot_27 (by decide) rfl (fun c9 => ?_) (fun c9 => ?_)
      · replace h := itp h c9
        refine g_iconst (pc1 := 42) (v := (-1)) d_Mod_pot_41 rfl (by decide) ?_
        refine g_ireturn (Or.inl rfl) d_Mod_pot_42 rfl ?_
        cases h; exact hQ
      · replace h := itn h c9
        refine g_iload (pc1 := 32) d_Mod_pot_30 rfl 4 rfl ?_
        refine g_iconst (pc1 := 33) (v := 0) d_Mod_pot_32 rfl (by decide) ?_
        refine g_bipush (pc1 := 35) (v := 7) d_Mod_pot_33 rfl (by decide) ?_
        refine g_callS0 (pc1 := 38) (As := [.int p4, .int 0, .int 7]) (rest := []) d_Mod_pot_35 rfl mo_Mod_316 ms_Mod_in (by decide) rfl rfl (Nat.le_of_ble_eq_true rfl) ?_
        obtain ⟨r11, hq10, h⟩ := bnd h
        refine f_Mod_in hld  hq10 ?_
        dsimp only [psh]
        refine g_if_ne (pc1 := 41) (tgt := 43) d_Mod_pot_38 (by decide) rfl (fun c12 => ?_) (fun c12 => ?_)
        · replace h := itn h c12
          refine g_aload_n (pc1 := 44) d_Mod_pot_43 rfl 0 rfl ?_
          refine g_callV0 (pc1 := 47) (As := []) (rest := []) d_Mod_pot_44 rfl mo_Mod_377 mi_Mod_copies mv_Mod_copies rfl sh_401 (by decide) (by decide) rfl rfl (Nat.le_of_ble_eq_true rfl) ?_
          obtain ⟨M14, hq13, h⟩ := bnd h
          refine f_Mod_copies hld  hq13 ?_
          dsimp only [psh]
          refine g_aload_n (pc1 := 48) d_Mod_pot_47 rfl 0 rfl ?_
          refine g_iconst (pc1 := 49) (v := (-1)) d_Mod_pot_48 rfl (by decide) ?_
          refine g_puti (pc1 := 52) d_Mod_pot_49 rfl fo_Mod_404 (po_12_59 _) sh_401 (by decide) ?_
          refine Wp.lM h (fun M15 h => ?_)
          refine g_bipush (pc1 := 54) (v := 6) d_Mod_pot_52 rfl (by decide) ?_
          refine g_callS0 (pc1 := 57) (As := [.int 6]) (rest := []) d_Mod_pot_54 rfl mo_Mod_401 ms_Mod_sevens (by decide) rfl rfl (Nat.le_of_ble_eq_true rfl) ?_
          obtain ⟨r17, hq16, h⟩ := bnd h
          refine f_Mod_sevens hld  hq16 ?_
          dsimp only [psh]
          refine g_iconst (pc1 := 58) (v := 1) d_Mod_pot_57 rfl (by decide) ?_
          refine g_isub (pc1 := 59) d_Mod_pot_58 rfl ?_
          refine Wp.lI h (fun x18 h => ?_)
          refine g_istore (pc1 := 61) (lv' := [(0, .ref 401), (1, .int p1), (2, .int p2), (3, .int p3), (4, .int p4), (5, .int x18)]) d_Mod_pot_59 rfl (by decide) [1, 2, 3, 4, 5, 0] rfl ?_
          exact h_Mod_pot_61 hld  hQ  _ x18 M15 h
        · replace h := itp h c12
          refine g_iconst (pc1 := 42) (v := (-1)) d_Mod_pot_41 rfl (by decide) ?_
          refine g_ireturn (Or.inl rfl) d_Mod_pot_42 rfl ?_
          cases h; exact hQ

def F_Mod_stockIn (p1 : Int32) (p2 : Int32) (M : gM) : Option (Int32 × gM) :=
  bI (F_Mod_isFood p1 M) (fun r2 => (if r2 = 0 then some ((-1), M) else bI (F_Mod_isLong p2) (fun r5 => (if r5 = 0 then some ((-1), M) else bI (F_Mod_copies M) (fun M8 => bI (F_Mod_goes p2 M8) (fun M10 => (if (p1 : Int32) < 0 ∨ 38 ≤ (p1 : Int32).toNatClampNeg then none else some ((M10 437 (p1 : Int32).toNatClampNeg), M10))))))))
set_option maxHeartbeats 4000000 in
set_option maxRecDepth 20000 in
theorem f_Mod_stockIn {l : Launch} {ld : Nat} {M : gM} {L : gL} {Q : Option Value → gM → gL → gR → Prop} (hld : isLa ld) {p1 : Int32} {p2 : Int32}  {q : Int32 × gM} (h : F_Mod_stockIn p1 p2 M = some q) (hQ : Q (some (.int q.1)) q.2 L (rf ld)) : Tm l y_Mod_stockIn (0, 0, 447) 447 [.ref 401, .int p1, .int p2] M L (rf ld) Q := by
  refine Tm.of (by decide) (Nat.le_of_ble_eq_true rfl) ?_
  show Wp l y_Mod_stockIn (0, 0, 447) 447 0 0 0 [(0, .ref 401), (1, .int p1), (2, .int p2)] [] M L (rf ld) Q
  unfold F_Mod_stockIn at h
  refine g_aload_n (pc1 := 1) d_Mod_stockIn_0 rfl 0 rfl ?_
  refine g_iload_n (pc1 := 2) d_Mod_stockIn_1 rfl 1 rfl ?_
  refine g_callV0 (pc1 := 5) (As := [.int p1]) (rest := []) d_Mod_stockIn_2 rfl mo_Mod_371 mi_Mod_isFood mv_Mod_isFood rfl sh_401 (by decide) (by decide) rfl rfl (Nat.le_of_ble_eq_true rfl) ?_
  obtain ⟨r2, hq1, h⟩ := bnd h
  refine f_Mod_isFood hld  hq1 ?_
  dsimp only [psh]
  refine g_if_eq (pc1 := 8) (tgt := 15) d_Mod_stockIn_5 (by decide) rfl (fun c3 => ?_) (fun c3 => ?_)
  · replace h := itp h c3
    refine g_iconst (pc1 := 16) (v := (-1)) d_Mod_stockIn_15 rfl (by decide) ?_
    refine g_ireturn (Or.inl rfl) d_Mod_stockIn_16 rfl ?_
    cases h; exact hQ
  · replace h := itn h c3
    refine g_iload_n (pc1 := 9) d_Mod_stockIn_8 rfl 2 rfl ?_
    refine g_callS0 (pc1 := 12) (As := [.int p2]) (rest := []) d_Mod_stockIn_9 rfl mo_Mod_446 ms_Mod_isLong (by decide) rfl rfl (Nat.le_of_ble_eq_true rfl) ?_
    obtain ⟨r5, hq4, h⟩ := bnd h
    refine f_Mod_isLong hld  hq4 ?_
    dsimp only [psh]
    refine g_if_ne (pc1 := 15) (tgt := 17) d_Mod_stockIn_12 (by decide) rfl (fun c6 => ?_) (fun c6 => ?_)
    · replace h := itn h c6
      refine g_aload_n (pc1 := 18) d_Mod_stockIn_17 rfl 0 rfl ?_
      refine g_callV0 (pc1 := 21) (As := []) (rest := []) d_Mod_stockIn_18 rfl mo_Mod_377 mi_Mod_copies mv_Mod_copies rfl sh_401 (by decide) (by decide) rfl rfl (Nat.le_of_ble_eq_true rfl) ?_
      obtain ⟨M8, hq7, h⟩ := bnd h
      refine f_Mod_copies hld  hq7 ?_
      dsimp only [psh]
      refine g_aload_n (pc1 := 22) d_Mod_stockIn_21 rfl 0 rfl ?_
      refine g_iload_n (pc1 := 23) d_Mod_stockIn_22 rfl 2 rfl ?_
      refine g_callV0 (pc1 := 26) (As := [.int p2]) (rest := []) d_Mod_stockIn_23 rfl mo_Mod_398 mi_Mod_goes mv_Mod_goes rfl sh_401 (by decide) (by decide) rfl rfl (Nat.le_of_ble_eq_true rfl) ?_
      obtain ⟨M10, hq9, h⟩ := bnd h
      refine f_Mod_goes hld  hq9 ?_
      dsimp only [psh]
      refine g_aload_n (pc1 := 27) d_Mod_stockIn_26 rfl 0 rfl ?_
      refine g_getr (pc1 := 30) d_Mod_stockIn_27 rfl ⟨_, fo_Mod_125⟩ sh_401 (by decide) (rf_401_53 ld) ?_
      refine g_iload_n (pc1 := 31) d_Mod_stockIn_30 rfl 1 rfl ?_
      obtain ⟨g11, h⟩ := gdn h
      refine g_iald (pc1 := 32) d_Mod_stockIn_31 rfl sh_437 (by decide) g11 ?_
      refine g_ireturn (Or.inl rfl) d_Mod_stockIn_32 rfl ?_
      cases h; exact hQ
    · replace h := itp h c6
      refine g_iconst (pc1 := 16) (v := (-1)) d_Mod_stockIn_15 rfl (by decide) ?_
      refine g_ireturn (Or.inl rfl) d_Mod_stockIn_16 rfl ?_
      cases h; exact hQ

def J_Mod_tellLaw_129 (v1 : Int32) (v2 : Int32) (M : gM) : Option (gM) :=
  (if ((M 401 38) : Int32) < 0 ∨ 260 ≤ ((M 401 38) : Int32).toNatClampNeg then none else nmM (uM M 426 ((M 401 38) : Int32).toNatClampNeg (vp_nar .boolean 0)) (fun M6 => bI (F_Mod_term M6) (fun M8 => bI (F_Mod_must 4 M8) (fun M10 => (if (M10 401 13) ≤ 0 then (if (((4 * (M10 401 19)) + v1) : Int32) < 0 ∨ 8 ≤ (((4 * (M10 401 19)) + v1) : Int32).toNatClampNeg then none else nmM (uM M10 424 (((4 * (M10 401 19)) + v1) : Int32).toNatClampNeg v2) (fun M13 => (if (((4 * (M13 401 19)) + v1) : Int32) < 0 ∨ 8 ≤ (((4 * (M13 401 19)) + v1) : Int32).toNatClampNeg then none else nmM (uM M13 425 (((4 * (M13 401 19)) + v1) : Int32).toNatClampNeg (M13 401 38)) (fun M15 => some M15)))) else some M10)))))
set_option maxHeartbeats 4000000 in
set_option maxRecDepth 20000 in
theorem j_Mod_tellLaw_129 {l : Launch} {ld : Nat} {Q : Option Value → gM → gL → gR → Prop} (hld : isLa ld)   {q : gM} {M : gM} {L : gL} (hQ : Q none q L (rf ld))  {v1 : Int32} {v2 : Int32}  (h : J_Mod_tellLaw_129 v1 v2 M = some q) : Wp l y_Mod_tellLaw (0, 0, 447) 447 0 0 129 [(0, .ref 401), (1, .int v1), (2, .int v2)] [] M L (rf ld) Q := by
  unfold J_Mod_tellLaw_129 at h
  refine g_aload_n (pc1 := 130) d_Mod_tellLaw_129 rfl 0 rfl ?_
  refine g_getr (pc1 := 133) d_Mod_tellLaw_130 rfl ⟨_, fo_Mod_91⟩ sh_401 (by decide) (rf_401_39 ld) ?_
  refine g_aload_n (pc1 := 134) d_Mod_tellLaw_133 rfl 0 rfl ?_
  refine g_geti (pc1 := 137) d_Mod_tellLaw_134 rfl ⟨_, fo_Mod_245⟩ sh_401 (by decide) ?_
  refine g_iconst (pc1 := 138) (v := 0) d_Mod_tellLaw_137 rfl (by decide) ?_
  obtain ⟨g5, h⟩ := gdn h
  refine g_zast (pc1 := 139) d_Mod_tellLaw_138 rfl sh_426 (by decide) g5 ?_
  refine Wp.lM h (fun M6 h => ?_)
  refine g_aload_n (pc1 := 140) d_Mod_tellLaw_139 rfl 0 rfl ?_
  refine g_callV0 (pc1 := 143) (As := []) (rest := []) d_Mod_tellLaw_140 rfl mo_Mod_296 mi_Mod_term mv_Mod_term rfl sh_401 (by decide) (by decide) rfl rfl (Nat.le_of_ble_eq_true rfl) ?_
  obtain ⟨M8, hq7, h⟩ := bnd h
  refine f_Mod_term hld  hq7 ?_
  dsimp only [psh]
  refine g_aload_n (pc1 := 144) d_Mod_tellLaw_143 rfl 0 rfl ?_
  refine g_iconst (pc1 := 145) (v := 4) d_Mod_tellLaw_144 rfl (by decide) ?_
  refine g_callV0 (pc1 := 148) (As := [.int 4]) (rest := []) d_Mod_tellLaw_145 rfl mo_Mod_281 mi_Mod_must mv_Mod_must rfl sh_401 (by decide) (by decide) rfl rfl (Nat.le_of_ble_eq_true rfl) ?_
  obtain ⟨M10, hq9, h⟩ := bnd h
  refine f_Mod_must hld  hq9 ?_
  dsimp only [psh]
  refine g_aload_n (pc1 := 149) d_Mod_tellLaw_148 rfl 0 rfl ?_
  refine g_geti (pc1 := 152) d_Mod_tellLaw_149 rfl ⟨_, fo_Mod_206⟩ sh_401 (by decide) ?_
  refine g_if_le (pc1 := 155) (tgt := 156) d_Mod_tellLaw_152 (by decide) rfl (fun c11 => ?_) (fun c11 => ?_)
  · replace h := itp h c11
    refine g_aload_n (pc1 := 157) d_Mod_tellLaw_156 rfl 0 rfl ?_
    refine g_getr (pc1 := 160) d_Mod_tellLaw_157 rfl ⟨_, fo_Mod_85⟩ sh_401 (by decide) (rf_401_36 ld) ?_
    refine g_iconst (pc1 := 161) (v := 4) d_Mod_tellLaw_160 rfl (by decide) ?_
    refine g_aload_n (pc1 := 162) d_Mod_tellLaw_161 rfl 0 rfl ?_
    refine g_geti (pc1 := 165) d_Mod_tellLaw_162 rfl ⟨_, fo_Mod_239⟩ sh_401 (by decide) ?_
    refine g_imul (pc1 := 166) d_Mod_tellLaw_165 rfl ?_
    refine g_iload_n (pc1 := 167) d_Mod_tellLaw_166 rfl 1 rfl ?_
    refine g_iadd (pc1 := 168) d_Mod_tellLaw_167 rfl ?_
    refine g_iload_n (pc1 := 169) d_Mod_tellLaw_168 rfl 2 rfl ?_
    obtain ⟨g12, h⟩ := gdn h
    refine g_iast (pc1 := 170) d_Mod_tellLaw_169 rfl sh_424 (by decide) g12 ?_
    refine Wp.lM h (fun M13 h => ?_)
    refine g_aload_n (pc1 := 171) d_Mod_tellLaw_170 rfl 0 rfl ?_
    refine g_getr (pc1 := 174) d_Mod_tellLaw_171 rfl ⟨_, fo_Mod_88⟩ sh_401 (by decide) (rf_401_37 ld) ?_
    refine g_iconst (pc1 := 175) (v := 4) d_Mod_tellLaw_174 rfl (by decide) ?_
    refine g_aload_n (pc1 := 176) d_Mod_tellLaw_175 rfl 0 rfl ?_
    refine g_geti (pc1 := 179) d_Mod_tellLaw_176 rfl ⟨_, fo_Mod_239⟩ sh_401 (by decide) ?_
    refine g_imul (pc1 := 180) d_Mod_tellLaw_179 rfl ?_
    refine g_iload_n (pc1 := 181) d_Mod_tellLaw_180 rfl 1 rfl ?_
    refine g_iadd (pc1 := 182) d_Mod_tellLaw_181 rfl ?_
    refine g_aload_n (pc1 := 183) d_Mod_tellLaw_182 rfl 0 rfl ?_
    refine g_geti (pc1 := 186) d_Mod_tellLaw_183 rfl ⟨_, fo_Mod_245⟩ sh_401 (by decide) ?_
    obtain ⟨g14, h⟩ := gdn h
    refine g_iast (pc1 := 187) d_Mod_tellLaw_186 rfl sh_425 (by decide) g14 ?_
    refine Wp.lM h (fun M15 h => ?_)
    refine g_return rfl d_Mod_tellLaw_187 rfl ?_
    cases h; exact hQ
  · replace h := itn h c11
    refine g_return rfl d_Mod_tellLaw_155 rfl ?_
    cases h; exact hQ
def J_Mod_tellLaw_110 (K12 : Int32 → gM → Option (gM)) (v1 : Int32) (v2 : Int32) (v3 : Int32) (M : gM) : Option (gM) :=
  bI (F_Mod_must 30 M) (fun M36 => bI (F_Mod_term M36) (fun M38 => bI (F_Mod_must 31 M38) (fun M40 => K12 v3 M40)))
set_option maxHeartbeats 4000000 in
set_option maxRecDepth 20000 in
theorem j_Mod_tellLaw_110 {l : Launch} {ld : Nat} {Q : Option Value → gM → gL → gR → Prop} (hld : isLa ld)   {q : gM} {M : gM} {L : gL} (hQ : Q none q L (rf ld)) {K12 : Int32 → gM → Option (gM)} {v1 : Int32} {v2 : Int32} {v3 : Int32} (hK12 : ∀ (w3 : Int32) (M : gM), K12 w3 M = some q → Wp l y_Mod_tellLaw (0, 0, 447) 447 0 0 12 [(0, .ref 401), (1, .int v1), (2, .int v2), (3, .int w3)] [] M L (rf ld) Q) (h : J_Mod_tellLaw_110 K12 v1 v2 v3 M = some q) : Wp l y_Mod_tellLaw (0, 0, 447) 447 0 0 110 [(0, .ref 401), (1, .int v1), (2, .int v2), (3, .int v3)] [] M L (rf ld) Q := by
  unfold J_Mod_tellLaw_110 at h
  refine g_aload_n (pc1 := 111) d_Mod_tellLaw_110 rfl 0 rfl ?_
  refine g_bipush (pc1 := 113) (v := 30) d_Mod_tellLaw_111 rfl (by decide) ?_
  refine g_callV0 (pc1 := 116) (As := [.int 30]) (rest := []) d_Mod_tellLaw_113 rfl mo_Mod_281 mi_Mod_must mv_Mod_must rfl sh_401 (by decide) (by decide) rfl rfl (Nat.le_of_ble_eq_true rfl) ?_
  obtain ⟨M36, hq35, h⟩ := bnd h
  refine f_Mod_must hld  hq35 ?_
  dsimp only [psh]
  refine g_aload_n (pc1 := 117) d_Mod_tellLaw_116 rfl 0 rfl ?_
  refine g_callV0 (pc1 := 120) (As := []) (rest := []) d_Mod_tellLaw_117 rfl mo_Mod_296 mi_Mod_term mv_Mod_term rfl sh_401 (by decide) (by decide) rfl rfl (Nat.le_of_ble_eq_true rfl) ?_
  obtain ⟨M38, hq37, h⟩ := bnd h
  refine f_Mod_term hld  hq37 ?_
  dsimp only [psh]
  refine g_aload_n (pc1 := 121) d_Mod_tellLaw_120 rfl 0 rfl ?_
  refine g_bipush (pc1 := 123) (v := 31) d_Mod_tellLaw_121 rfl (by decide) ?_
  refine g_callV0 (pc1 := 126) (As := [.int 31]) (rest := []) d_Mod_tellLaw_123 rfl mo_Mod_281 mi_Mod_must mv_Mod_must rfl sh_401 (by decide) (by decide) rfl rfl (Nat.le_of_ble_eq_true rfl) ?_
  obtain ⟨M40, hq39, h⟩ := bnd h
  refine f_Mod_must hld  hq39 ?_
  dsimp only [psh]
  refine g_goto (tgt := 12) d_Mod_tellLaw_126 (by decide) ?_
  exact hK12 v3 M40 h
def J_Mod_tellLaw_38 (K12 : Int32 → gM → Option (gM)) (v1 : Int32) (v2 : Int32) (v3 : Int32) (M : gM) : Option (gM) :=
  (if (M 401 13) ≤ 0 then nmI (v3 + 1) (fun x21 => bI (F_Mod_goesOn M) (fun M23 => (if ((M23 401 38) : Int32) < 0 ∨ 260 ≤ ((M23 401 38) : Int32).toNatClampNeg then none else nmM (uM M23 426 ((M23 401 38) : Int32).toNatClampNeg (vp_nar .boolean 1)) (fun M25 => (if ((M25 401 38) : Int32) < 0 ∨ 260 ≤ ((M25 401 38) : Int32).toNatClampNeg then none else nmM (uM M25 427 ((M25 401 38) : Int32).toNatClampNeg (M25 401 44)) (fun M27 => bI (F_Mod_expression M27) (fun M29 => bI (F_Mod_must 13 M29) (fun M31 => (if ((M31 401 38) : Int32) < 0 ∨ 260 ≤ ((M31 401 38) : Int32).toNatClampNeg then none else nmM (uM M31 428 ((M31 401 38) : Int32).toNatClampNeg (M31 401 44)) (fun M33 => (if (M33 401 13) = 0 then bI (F_Mod_expression M33) (fun M42 => J_Mod_tellLaw_110 K12 v1 v2 x21 M42) else J_Mod_tellLaw_110 K12 v1 v2 x21 M33))))))))))) else some M)
set_option maxHeartbeats 4000000 in
set_option maxRecDepth 20000 in
theorem j_Mod_tellLaw_38 {l : Launch} {ld : Nat} {Q : Option Value → gM → gL → gR → Prop} (hld : isLa ld)   {q : gM} {M : gM} {L : gL} (hQ : Q none q L (rf ld)) {K12 : Int32 → gM → Option (gM)} {v1 : Int32} {v2 : Int32} {v3 : Int32} (hK12 : ∀ (w3 : Int32) (M : gM), K12 w3 M = some q → Wp l y_Mod_tellLaw (0, 0, 447) 447 0 0 12 [(0, .ref 401), (1, .int v1), (2, .int v2), (3, .int w3)] [] M L (rf ld) Q) (h : J_Mod_tellLaw_38 K12 v1 v2 v3 M = some q) : Wp l y_Mod_tellLaw (0, 0, 447) 447 0 0 38 [(0, .ref 401), (1, .int v1), (2, .int v2), (3, .int v3)] [] M L (rf ld) Q := by
  unfold J_Mod_tellLaw_38 at h
  refine g_aload_n (pc1 := 39) d_Mod_tellLaw_38 rfl 0 rfl ?_
  refine g_geti (pc1 := 42) d_Mod_tellLaw_39 rfl ⟨_, fo_Mod_206⟩ sh_401 (by decide) ?_
  refine g_if_le (pc1 := 45) (tgt := 46) d_Mod_tellLaw_42 (by decide) rfl (fun c20 => ?_) (fun c20 => ?_)
  · replace h := itp h c20
    obtain ⟨x21, ex21, h⟩ := ltI h
    refine g_iinc (pc1 := 49) (v := x21) (lv' := [(0, .ref 401), (1, .int v1), (2, .int v2), (3, .int x21)]) d_Mod_tellLaw_46 rfl 3 rfl (by rw [ex21]; rfl) (by decide) [1, 2, 3, 0] rfl ?_
    refine g_aload_n (pc1 := 50) d_Mod_tellLaw_49 rfl 0 rfl ?_
    refine g_callV0 (pc1 := 53) (As := []) (rest := []) d_Mod_tellLaw_50 rfl mo_Mod_227 mi_Mod_goesOn mv_Mod_goesOn rfl sh_401 (by decide) (by decide) rfl rfl (Nat.le_of_ble_eq_true rfl) ?_
    obtain ⟨M23, hq22, h⟩ := bnd h
    refine f_Mod_goesOn hld  hq22 ?_
    dsimp only [psh]
    refine g_aload_n (pc1 := 54) d_Mod_tellLaw_53 rfl 0 rfl ?_
    refine g_getr (pc1 := 57) d_Mod_tellLaw_54 rfl ⟨_, fo_Mod_91⟩ sh_401 (by decide) (rf_401_39 ld) ?_
    refine g_aload_n (pc1 := 58) d_Mod_tellLaw_57 rfl 0 rfl ?_
    refine g_geti (pc1 := 61) d_Mod_tellLaw_58 rfl ⟨_, fo_Mod_245⟩ sh_401 (by decide) ?_
    refine g_iconst (pc1 := 62) (v := 1) d_Mod_tellLaw_61 rfl (by decide) ?_
    obtain ⟨g24, h⟩ := gdn h
    refine g_zast (pc1 := 63) d_Mod_tellLaw_62 rfl sh_426 (by decide) g24 ?_
    refine Wp.lM h (fun M25 h => ?_)
    refine g_aload_n (pc1 := 64) d_Mod_tellLaw_63 rfl 0 rfl ?_
    refine g_getr (pc1 := 67) d_Mod_tellLaw_64 rfl ⟨_, fo_Mod_95⟩ sh_401 (by decide) (rf_401_40 ld) ?_
    refine g_aload_n (pc1 := 68) d_Mod_tellLaw_67 rfl 0 rfl ?_
    refine g_geti (pc1 := 71) d_Mod_tellLaw_68 rfl ⟨_, fo_Mod_245⟩ sh_401 (by decide) ?_
    refine g_aload_n (pc1 := 72) d_Mod_tellLaw_71 rfl 0 rfl ?_
    refine g_geti (pc1 := 75) d_Mod_tellLaw_72 rfl ⟨_, fo_Mod_248⟩ sh_401 (by decide) ?_
    obtain ⟨g26, h⟩ := gdn h
    refine g_iast (pc1 := 76) d_Mod_tellLaw_75 rfl sh_427 (by decide) g26 ?_
    refine Wp.lM h (fun M27 h => ?_)
    refine g_aload_n (pc1 := 77) d_Mod_tellLaw_76 rfl 0 rfl ?_
    refine g_callV0 (pc1 := 80) (As := []) (rest := []) d_Mod_tellLaw_77 rfl mo_Mod_293 mi_Mod_expression mv_Mod_expression rfl sh_401 (by decide) (by decide) rfl rfl (Nat.le_of_ble_eq_true rfl) ?_
    obtain ⟨M29, hq28, h⟩ := bnd h
    refine f_Mod_expression hld  hq28 ?_
    dsimp only [psh]
    refine g_aload_n (pc1 := 81) d_Mod_tellLaw_80 rfl 0 rfl ?_
    refine g_bipush (pc1 := 83) (v := 13) d_Mod_tellLaw_81 rfl (by decide) ?_
    refine g_callV0 (pc1 := 86) (As := [.int 13]) (rest := []) d_Mod_tellLaw_83 rfl mo_Mod_281 mi_Mod_must mv_Mod_must rfl sh_401 (by decide) (by decide) rfl rfl (Nat.le_of_ble_eq_true rfl) ?_
    obtain ⟨M31, hq30, h⟩ := bnd h
    refine f_Mod_must hld  hq30 ?_
    dsimp only [psh]
    refine g_aload_n (pc1 := 87) d_Mod_tellLaw_86 rfl 0 rfl ?_
    refine g_getr (pc1 := 90) d_Mod_tellLaw_87 rfl ⟨_, fo_Mod_98⟩ sh_401 (by decide) (rf_401_41 ld) ?_
    refine g_aload_n (pc1 := 91) d_Mod_tellLaw_90 rfl 0 rfl ?_
    refine g_geti (pc1 := 94) d_Mod_tellLaw_91 rfl ⟨_, fo_Mod_245⟩ sh_401 (by decide) ?_
    refine g_aload_n (pc1 := 95) d_Mod_tellLaw_94 rfl 0 rfl ?_
    refine g_geti (pc1 := 98) d_Mod_tellLaw_95 rfl ⟨_, fo_Mod_248⟩ sh_401 (by decide) ?_
    obtain ⟨g32, h⟩ := gdn h
    refine g_iast (pc1 := 99) d_Mod_tellLaw_98 rfl sh_428 (by decide) g32 ?_
    refine Wp.lM h (fun M33 h => ?_)
    refine g_aload_n (pc1 := 100) d_Mod_tellLaw_99 rfl 0 rfl ?_
    refine g_geti (pc1 := 103) d_Mod_tellLaw_100 rfl ⟨_, fo_Mod_206⟩ sh_401 (by decide) ?_
    refine g_if_ne (pc1 := 106) (tgt := 110) d_Mod_tellLaw_103 (by decide) rfl (fun c34 => ?_) (fun c34 => ?_)
    · replace h := itn h c34
      exact j_Mod_tellLaw_110 hld  hQ hK12 h
    · replace h := itp h c34
      refine g_aload_n (pc1 := 107) d_Mod_tellLaw_106 rfl 0 rfl ?_
      refine g_callV0 (pc1 := 110) (As := []) (rest := []) d_Mod_tellLaw_107 rfl mo_Mod_293 mi_Mod_expression mv_Mod_expression rfl sh_401 (by decide) (by decide) rfl rfl (Nat.le_of_ble_eq_true rfl) ?_
      obtain ⟨M42, hq41, h⟩ := bnd h
      refine f_Mod_expression hld  hq41 ?_
      dsimp only [psh]
      exact j_Mod_tellLaw_110 hld  hQ hK12 h
  · replace h := itn h c20
    refine g_return rfl d_Mod_tellLaw_45 rfl ?_
    cases h; exact hQ
def B_Mod_tellLaw_12 (v1 : Int32) (v2 : Int32) (K12 : Int32 → gM → Option (gM)) : Int32 → gM → Option (gM) := fun v3 M =>
  (if (M 401 13) = 0 then bI (F_Mod_is 29 M) (fun r17 => (if r17 = 0 then J_Mod_tellLaw_129 v1 v2 M else (if v3 = 4 then bI (F_Mod_fail 2 M) (fun M44 => J_Mod_tellLaw_38 K12 v1 v2 v3 M44) else J_Mod_tellLaw_38 K12 v1 v2 v3 M))) else J_Mod_tellLaw_129 v1 v2 M)
def H_Mod_tellLaw_12 (v1 : Int32) (v2 : Int32) : Nat → Int32 → gM → Option (gM) := lpK (B_Mod_tellLaw_12 v1 v2) (fun _ _ => none)
set_option maxHeartbeats 4000000 in
set_option maxRecDepth 20000 in
theorem h_Mod_tellLaw_12 {l : Launch} {ld : Nat} {Q : Option Value → gM → gL → gR → Prop} (hld : isLa ld)   {q : gM} {L : gL} (hQ : Q none q L (rf ld))  {v1 : Int32} {v2 : Int32}  : ∀ (f : Nat) (v3 : Int32) (M : gM), H_Mod_tellLaw_12 v1 v2 f v3 M = some q → Wp l y_Mod_tellLaw (0, 0, 447) 447 0 0 12 [(0, .ref 401), (1, .int v1), (2, .int v2), (3, .int v3)] [] M L (rf ld) Q := by
  intro f
  induction f with
  | zero => intro v3 M h; cases h
  | succ f hK12 =>
    intro v3 M h
    replace h : B_Mod_tellLaw_12 v1 v2 (H_Mod_tellLaw_12 v1 v2 f) v3 M = some q := h
    unfold B_Mod_tellLaw_12 at h
    refine g_aload_n (pc1 := 13) d_Mod_tellLaw_12 rfl 0 rfl ?_
    refine g_geti (pc1 := 16) d_Mod_tellLaw_13 rfl ⟨_, fo_Mod_206⟩ sh_401 (by decide) ?_
    refine g_if_ne (pc1 := 19) (tgt := 129) d_Mod_tellLaw_16 (by decide) rfl (fun c4 => ?_) (fun c4 => ?_)
    · replace h := itn h c4
      refine Wp.loc (lv' := [(0, .ref 401), (1, .int v1), (2, .int v2)]) [0, 1, 2] rfl ?_
      exact j_Mod_tellLaw_129 hld  hQ  h
    · replace h := itp h c4
      refine g_aload_n (pc1 := 20) d_Mod_tellLaw_19 rfl 0 rfl ?_
      refine g_bipush (pc1 := 22) (v := 29) d_Mod_tellLaw_20 rfl (by decide) ?_
      refine g_callV0 (pc1 := 25) (As := [.int 29]) (rest := []) d_Mod_tellLaw_22 rfl mo_Mod_224 mi_Mod_is mv_Mod_is rfl sh_401 (by decide) (by decide) rfl rfl (Nat.le_of_ble_eq_true rfl) ?_
      obtain ⟨r17, hq16, h⟩ := bnd h
      refine f_Mod_is hld  hq16 ?_
      dsimp only [psh]
      refine g_if_eq (pc1 := 28) (tgt := 129) d_Mod_tellLaw_25 (by decide) rfl (fun c18 => ?_) (fun c18 => ?_)
      · replace h := itp h c18
        refine Wp.loc (lv' := [(0, .ref 401), (1, .int v1), (2, .int v2)]) [0, 1, 2] rfl ?_
        exact j_Mod_tellLaw_129 hld  hQ  h
      · replace h := itn h c18
        refine g_iload_n (pc1 := 29) d_Mod_tellLaw_28 rfl 3 rfl ?_
        refine g_iconst (pc1 := 30) (v := 4) d_Mod_tellLaw_29 rfl (by decide) ?_
        refine g_icmp_ne (pc1 := 33) (tgt := 38) d_Mod_tellLaw_30 (by decide) rfl (fun c19 => ?_) (fun c19 => ?_)
        · replace h := itn h c19
          exact j_Mod_tellLaw_38 hld  hQ hK12 h
        · replace h := itp h c19
          refine g_aload_n (pc1 := 34) d_Mod_tellLaw_33 rfl 0 rfl ?_
          refine g_iconst (pc1 := 35) (v := 2) d_Mod_tellLaw_34 rfl (by decide) ?_
          refine g_callV0 (pc1 := 38) (As := [.int 2]) (rest := []) d_Mod_tellLaw_35 rfl mo_Mod_221 mi_Mod_fail mv_Mod_fail rfl sh_401 (by decide) (by decide) rfl rfl (Nat.le_of_ble_eq_true rfl) ?_
          obtain ⟨M44, hq43, h⟩ := bnd h
          refine f_Mod_fail hld  hq43 ?_
          dsimp only [psh]
          exact j_Mod_tellLaw_38 hld  hQ hK12 h
def F_Mod_tellLaw (p1 : Int32) (M : gM) : Option (gM) :=
  bI (F_Mod_must 5 M) (fun M2 => nmI (M2 401 38) (fun x3 => H_Mod_tellLaw_12 p1 x3 FU 0 M2))
set_option maxHeartbeats 4000000 in
set_option maxRecDepth 20000 in
theorem f_Mod_tellLaw {l : Launch} {ld : Nat} {M : gM} {L : gL} {Q : Option Value → gM → gL → gR → Prop} (hld : isLa ld) {p1 : Int32}  {q : gM} (h : F_Mod_tellLaw p1 M = some q) (hQ : Q none q L (rf ld)) : Tm l y_Mod_tellLaw (0, 0, 447) 447 [.ref 401, .int p1] M L (rf ld) Q := by
  refine Tm.of (by decide) (Nat.le_of_ble_eq_true rfl) ?_
  show Wp l y_Mod_tellLaw (0, 0, 447) 447 0 0 0 [(0, .ref 401), (1, .int p1)] [] M L (rf ld) Q
  unfold F_Mod_tellLaw at h
  refine g_aload_n (pc1 := 1) d_Mod_tellLaw_0 rfl 0 rfl ?_
  refine g_iconst (pc1 := 2) (v := 5) d_Mod_tellLaw_1 rfl (by decide) ?_
  refine g_callV0 (pc1 := 5) (As := [.int 5]) (rest := []) d_Mod_tellLaw_2 rfl mo_Mod_281 mi_Mod_must mv_Mod_must rfl sh_401 (by decide) (by decide) rfl rfl (Nat.le_of_ble_eq_true rfl) ?_
  obtain ⟨M2, hq1, h⟩ := bnd h
  refine f_Mod_must hld  hq1 ?_
  dsimp only [psh]
  refine g_aload_n (pc1 := 6) d_Mod_tellLaw_5 rfl 0 rfl ?_
  refine g_geti (pc1 := 9) d_Mod_tellLaw_6 rfl ⟨_, fo_Mod_245⟩ sh_401 (by decide) ?_
  refine Wp.lI h (fun x3 h => ?_)
  refine g_istore_n (pc1 := 10) (lv' := [(0, .ref 401), (1, .int p1), (2, .int x3)]) d_Mod_tellLaw_9 rfl rfl (by decide) [1, 2, 0] rfl ?_
  refine g_iconst (pc1 := 11) (v := 0) d_Mod_tellLaw_10 rfl (by decide) ?_
  refine g_istore_n (pc1 := 12) (lv' := [(0, .ref 401), (1, .int p1), (2, .int x3), (3, .int 0)]) d_Mod_tellLaw_11 rfl rfl (by decide) [1, 2, 3, 0] rfl ?_
  exact h_Mod_tellLaw_12 hld  hQ  _ 0 M2 h

def J_Mod_year_105 (K61 : Int32 → Int32 → gM → Option (Int32 × gM)) (v1 : Int32) (v2 : Int32) (v3 : Int32) (v4 : Int32) (v5 : Int32) (v6 : Int32) (M : gM) : Option (Int32 × gM) :=
  nmI (v6 + 1) (fun x28 => K61 v5 x28 M)
set_option maxHeartbeats 4000000 in
set_option maxRecDepth 20000 in
theorem j_Mod_year_105 {l : Launch} {ld : Nat} {Q : Option Value → gM → gL → gR → Prop} (hld : isLa ld)   {q : Int32 × gM} {M : gM} {L : gL} (hQ : Q (some (.int q.1)) q.2 L (rf ld)) {K61 : Int32 → Int32 → gM → Option (Int32 × gM)} {v1 : Int32} {v2 : Int32} {v3 : Int32} {v4 : Int32} {v5 : Int32} {v6 : Int32} (hK61 : ∀ (w5 : Int32) (w6 : Int32) (M : gM), K61 w5 w6 M = some q → Wp l y_Mod_year (0, 0, 447) 447 0 0 61 [(0, .ref 401), (1, .int v1), (2, .int v2), (3, .int v3), (4, .int v4), (5, .int w5), (6, .int w6)] [] M L (rf ld) Q) (h : J_Mod_year_105 K61 v1 v2 v3 v4 v5 v6 M = some q) : Wp l y_Mod_year (0, 0, 447) 447 0 0 105 [(0, .ref 401), (1, .int v1), (2, .int v2), (3, .int v3), (4, .int v4), (5, .int v5), (6, .int v6)] [] M L (rf ld) Q := by
  unfold J_Mod_year_105 at h
  obtain ⟨x28, ex28, h⟩ := ltI h
  refine g_iinc (pc1 := 108) (v := x28) (lv' := [(0, .ref 401), (1, .int v1), (2, .int v2), (3, .int v3), (4, .int v4), (5, .int v5), (6, .int x28)]) d_Mod_year_105 rfl 6 rfl (by rw [ex28]; rfl) (by decide) [1, 2, 3, 4, 5, 6, 0] rfl ?_
  refine g_goto (tgt := 61) d_Mod_year_108 (by decide) ?_
  exact hK61 v5 x28 M h
def B_Mod_year_61 (v1 : Int32) (v2 : Int32) (v3 : Int32) (v4 : Int32) (K61 : Int32 → Int32 → gM → Option (Int32 × gM)) : Int32 → Int32 → gM → Option (Int32 × gM) := fun v5 v6 M =>
  (if v4 ≤ v6 then some (v5, M) else bI (F_Mod_copies M) (fun M21 => nmM (uM M21 401 54 ((M21 401 54) + v6)) (fun M22 => bI2 (F_Mod_cooks v1 M22) (fun r24 M25 => (if ((12 + v2) : Int32) < 0 ∨ 38 ≤ ((12 + v2) : Int32).toNatClampNeg then none else (if (M25 437 ((12 + v2) : Int32).toNatClampNeg) < v3 then J_Mod_year_105 K61 v1 v2 v3 v4 v5 v6 M25 else nmI (v5 + 1) (fun x29 => J_Mod_year_105 K61 v1 v2 v3 v4 x29 v6 M25)))))))
def H_Mod_year_61 (v1 : Int32) (v2 : Int32) (v3 : Int32) (v4 : Int32) : Nat → Int32 → Int32 → gM → Option (Int32 × gM) := lpK (B_Mod_year_61 v1 v2 v3 v4) (fun _ _ _ => none)
set_option maxHeartbeats 4000000 in
set_option maxRecDepth 20000 in
theorem h_Mod_year_61 {l : Launch} {ld : Nat} {Q : Option Value → gM → gL → gR → Prop} (hld : isLa ld)   {q : Int32 × gM} {L : gL} (hQ : Q (some (.int q.1)) q.2 L (rf ld))  {v1 : Int32} {v2 : Int32} {v3 : Int32} {v4 : Int32}  : ∀ (f : Nat) (v5 : Int32) (v6 : Int32) (M : gM), H_Mod_year_61 v1 v2 v3 v4 f v5 v6 M = some q → Wp l y_Mod_year (0, 0, 447) 447 0 0 61 [(0, .ref 401), (1, .int v1), (2, .int v2), (3, .int v3), (4, .int v4), (5, .int v5), (6, .int v6)] [] M L (rf ld) Q := by
  intro f
  induction f with
  | zero => intro v5 v6 M h; cases h
  | succ f hK61 =>
    intro v5 v6 M h
    replace h : B_Mod_year_61 v1 v2 v3 v4 (H_Mod_year_61 v1 v2 v3 v4 f) v5 v6 M = some q := h
    unfold B_Mod_year_61 at h
    refine g_iload (pc1 := 63) d_Mod_year_61 rfl 6 rfl ?_
    refine g_iload (pc1 := 65) d_Mod_year_63 rfl 4 rfl ?_
    refine g_icmp_ge (pc1 := 68) (tgt := 111) d_Mod_year_65 (by decide) rfl (fun c19 => ?_) (fun c19 => ?_)
    · replace h := itp h c19
      refine g_iload (pc1 := 113) d_Mod_year_111 rfl 5 rfl ?_
      refine g_ireturn (Or.inl rfl) d_Mod_year_113 rfl ?_
      cases h; exact hQ
    · replace h := itn h c19
      refine g_aload_n (pc1 := 69) d_Mod_year_68 rfl 0 rfl ?_
      refine g_callV0 (pc1 := 72) (As := []) (rest := []) d_Mod_year_69 rfl mo_Mod_377 mi_Mod_copies mv_Mod_copies rfl sh_401 (by decide) (by decide) rfl rfl (Nat.le_of_ble_eq_true rfl) ?_
      obtain ⟨M21, hq20, h⟩ := bnd h
      refine f_Mod_copies hld  hq20 ?_
      dsimp only [psh]
      refine g_aload_n (pc1 := 73) d_Mod_year_72 rfl 0 rfl ?_
      refine g_dup (pc1 := 74) d_Mod_year_73 rfl rfl ?_
      refine g_geti (pc1 := 77) d_Mod_year_74 rfl ⟨_, fo_Mod_320⟩ sh_401 (by decide) ?_
      refine g_iload (pc1 := 79) d_Mod_year_77 rfl 6 rfl ?_
      refine g_iadd (pc1 := 80) d_Mod_year_79 rfl ?_
      refine g_puti (pc1 := 83) d_Mod_year_80 rfl fo_Mod_320 (po_12_54 _) sh_401 (by decide) ?_
      refine Wp.lM h (fun M22 h => ?_)
      refine g_aload_n (pc1 := 84) d_Mod_year_83 rfl 0 rfl ?_
      refine g_iload_n (pc1 := 85) d_Mod_year_84 rfl 1 rfl ?_
      refine g_callV0 (pc1 := 88) (As := [.int v1]) (rest := []) d_Mod_year_85 rfl mo_Mod_389 mi_Mod_cooks mv_Mod_cooks rfl sh_401 (by decide) (by decide) rfl rfl (Nat.le_of_ble_eq_true rfl) ?_
      obtain ⟨r24, M25, hq23, h⟩ := bnd2 h
      refine f_Mod_cooks hld  hq23 ?_
      dsimp only [psh]
      refine g_pop (pc1 := 89) d_Mod_year_88 rfl rfl ?_
      refine g_aload_n (pc1 := 90) d_Mod_year_89 rfl 0 rfl ?_
      refine g_getr (pc1 := 93) d_Mod_year_90 rfl ⟨_, fo_Mod_125⟩ sh_401 (by decide) (rf_401_53 ld) ?_
      refine g_bipush (pc1 := 95) (v := 12) d_Mod_year_93 rfl (by decide) ?_
      refine g_iload_n (pc1 := 96) d_Mod_year_95 rfl 2 rfl ?_
      refine g_iadd (pc1 := 97) d_Mod_year_96 rfl ?_
      obtain ⟨g26, h⟩ := gdn h
      refine g_iald (pc1 := 98) d_Mod_year_97 rfl sh_437 (by decide) g26 ?_
      refine g_iload_n (pc1 := 99) d_Mod_year_98 rfl 3 rfl ?_
      refine g_icmp_lt (pc1 := 102) (tgt := 105) d_Mod_year_99 (by decide) rfl (fun c27 => ?_) (fun c27 => ?_)
      · replace h := itp h c27
        exact j_Mod_year_105 hld  hQ hK61 h
      · replace h := itn h c27
        obtain ⟨x29, ex29, h⟩ := ltI h
        refine g_iinc (pc1 := 105) (v := x29) (lv' := [(0, .ref 401), (1, .int v1), (2, .int v2), (3, .int v3), (4, .int v4), (5, .int x29), (6, .int v6)]) d_Mod_year_102 rfl 5 rfl (by rw [ex29]; rfl) (by decide) [1, 2, 3, 4, 5, 0, 6] rfl ?_
        exact j_Mod_year_105 hld  hQ hK61 h
def F_Mod_year (p1 : Int32) (p2 : Int32) (p3 : Int32) (p4 : Int32) (M : gM) : Option (Int32 × gM) :=
  bI (F_Mod_isDish p1 M) (fun r2 => (if r2 = 0 then some ((-1), M) else bI (F_Mod_in p2 0 2) (fun r5 => (if r5 = 0 then some ((-1), M) else bI (F_Mod_in p3 0 99) (fun r8 => (if r8 = 0 then some ((-1), M) else bI (F_Mod_in p4 1 20) (fun r11 => (if r11 = 0 then some ((-1), M) else bI (F_Mod_copies M) (fun M14 => bI2 (F_Mod_isInStore p1 M14) (fun r16 M17 => (if r16 = 0 then some ((-2), M17) else H_Mod_year_61 p1 p2 p3 p4 FU 0 0 M17)))))))))))
set_option maxHeartbeats 4000000 in
set_option maxRecDepth 20000 in
theorem f_Mod_year {l : Launch} {ld : Nat} {M : gM} {L : gL} {Q : Option Value → gM → gL → gR → Prop} (hld : isLa ld) {p1 : Int32} {p2 : Int32} {p3 : Int32} {p4 : Int32}  {q : Int32 × gM} (h : F_Mod_year p1 p2 p3 p4 M = some q) (hQ : Q (some (.int q.1)) q.2 L (rf ld)) : Tm l y_Mod_year (0, 0, 447) 447 [.ref 401, .int p1, .int p2, .int p3, .int p4] M L (rf ld) Q := by
  refine Tm.of (by decide) (Nat.le_of_ble_eq_true rfl) ?_
  show Wp l y_Mod_year (0, 0, 447) 447 0 0 0 [(0, .ref 401), (1, .int p1), (2, .int p2), (3, .int p3), (4, .int p4)] [] M L (rf ld) Q
  unfold F_Mod_year at h
  refine g_aload_n (pc1 := 1) d_Mod_year_0 rfl 0 rfl ?_
  refine g_iload_n (pc1 := 2) d_Mod_year_1 rfl 1 rfl ?_
  refine g_callV0 (pc1 := 5) (As := [.int p1]) (rest := []) d_Mod_year_2 rfl mo_Mod_374 mi_Mod_isDish mv_Mod_isDish rfl sh_401 (by decide) (by decide) rfl rfl (Nat.le_of_ble_eq_true rfl) ?_
  obtain ⟨r2, hq1, h⟩ := bnd h
  refine f_Mod_isDish hld  hq1 ?_
  dsimp only [psh]
  refine g_if_eq (pc1 := 8) (tgt := 38) d_Mod_year_5 (by decide) rfl (fun c3 => ?_) (fun c3 => ?_)
  · replace h := itp h c3
    refine g_iconst (pc1 := 39) (v := (-1)) d_Mod_year_38 rfl (by decide) ?_
    refine g_ireturn (Or.inl rfl) d_Mod_year_39 rfl ?_
    cases h; exact hQ
  · replace h := itn h c3
    refine g_iload_n (pc1 := 9) d_Mod_year_8 rfl 2 rfl ?_
    refine g_iconst (pc1 := 10) (v := 0) d_Mod_year_9 rfl (by decide) ?_
    refine g_iconst (pc1 := 11) (v := 2) d_Mod_year_10 rfl (by decide) ?_
    refine g_callS0 (pc1 := 14) (As := [.int p2, .int 0, .int 2]) (rest := []) d_Mod_year_11 rfl mo_Mod_316 ms_Mod_in (by decide) rfl rfl (Nat.le_of_ble_eq_true rfl) ?_
    obtain ⟨r5, hq4, h⟩ := bnd h
    refine f_Mod_in hld  hq4 ?_
    dsimp only [psh]
    refine g_if_eq (pc1 := 17) (tgt := 38) d_Mod_year_14 (by decide) rfl (fun c6 => ?_) (fun c6 => ?_)
    · replace h := itp h c6
      refine g_iconst (pc1 := 39) (v := (-1)) d_Mod_year_38 rfl (by decide) ?_
      refine g_ireturn (Or.inl rfl) d_Mod_year_39 rfl ?_
      cases h; exact hQ
    · replace h := itn h c6
      refine g_iload_n (pc1 := 18) d_Mod_year_17 rfl 3 rfl ?_
      refine g_iconst (pc1 := 19) (v := 0) d_Mod_year_18 rfl (by decide) ?_
      refine g_bipush (pc1 := 21) (v := 99) d_Mod_year_19 rfl (by decide) ?_
      refine g_callS0 (pc1 := 24) (As := [.int p3, .int 0, .int 99]) (rest := []) d_Mod_year_21 rfl mo_Mod_316 ms_Mod_in (by decide) rfl rfl (Nat.le_of_ble_eq_true rfl) ?_
      obtain ⟨r8, hq7, h⟩ := bnd h
      refine f_Mod_in hld  hq7 ?_
      dsimp only [psh]
      refine g_if_eq (pc1 := 27) (tgt := 38) d_Mod_year_24 (by decide) rfl (fun c9 => ?_) (fun c9 => ?_)
      · replace h := itp h c9
        refine g_iconst (pc1 := 39) (v := (-1)) d_Mod_year_38 rfl (by decide) ?_
        refine g_ireturn (Or.inl rfl) d_Mod_year_39 rfl ?_
        cases h; exact hQ
      · replace h := itn h c9
        refine g_iload (pc1 := 29) d_Mod_year_27 rfl 4 rfl ?_
        refine g_iconst (pc1 := 30) (v := 1) d_Mod_year_29 rfl (by decide) ?_
        refine g_bipush (pc1 := 32) (v := 20) d_Mod_year_30 rfl (by decide) ?_
        refine g_callS0 (pc1 := 35) (As := [.int p4, .int 1, .int 20]) (rest := []) d_Mod_year_32 rfl mo_Mod_316 ms_Mod_in (by decide) rfl rfl (Nat.le_of_ble_eq_true rfl) ?_
        obtain ⟨r11, hq10, h⟩ := bnd h
        refine f_Mod_in hld  hq10 ?_
        dsimp only [psh]
        refine g_if_ne (pc1 := 38) (tgt := 40) d_Mod_year_35 (by decide) rfl (fun c12 => ?_) (fun c12 => ?_)
        · replace h := itn h c12
          refine g_aload_n (pc1 := 41) d_Mod_year_40 rfl 0 rfl ?_
          refine g_callV0 (pc1 := 44) (As := []) (rest := []) d_Mod_year_41 rfl mo_Mod_377 mi_Mod_copies mv_Mod_copies rfl sh_401 (by decide) (by decide) rfl rfl (Nat.le_of_ble_eq_true rfl) ?_
          obtain ⟨M14, hq13, h⟩ := bnd h
          refine f_Mod_copies hld  hq13 ?_
          dsimp only [psh]
          refine g_aload_n (pc1 := 45) d_Mod_year_44 rfl 0 rfl ?_
          refine g_iload_n (pc1 := 46) d_Mod_year_45 rfl 1 rfl ?_
          refine g_callV0 (pc1 := 49) (As := [.int p1]) (rest := []) d_Mod_year_46 rfl mo_Mod_386 mi_Mod_isInStore mv_Mod_isInStore rfl sh_401 (by decide) (by decide) rfl rfl (Nat.le_of_ble_eq_true rfl) ?_
          obtain ⟨r16, M17, hq15, h⟩ := bnd2 h
          refine f_Mod_isInStore hld  hq15 ?_
          dsimp only [psh]
          refine g_if_ne (pc1 := 52) (tgt := 55) d_Mod_year_49 (by decide) rfl (fun c18 => ?_) (fun c18 => ?_)
          · replace h := itn h c18
            refine g_iconst (pc1 := 56) (v := 0) d_Mod_year_55 rfl (by decide) ?_
            refine g_istore (pc1 := 58) (lv' := [(0, .ref 401), (1, .int p1), (2, .int p2), (3, .int p3), (4, .int p4), (5, .int 0)]) d_Mod_year_56 rfl (by decide) [1, 2, 3, 4, 5, 0] rfl ?_
            refine g_iconst (pc1 := 59) (v := 0) d_Mod_year_58 rfl (by decide) ?_
            refine g_istore (pc1 := 61) (lv' := [(0, .ref 401), (1, .int p1), (2, .int p2), (3, .int p3), (4, .int p4), (5, .int 0), (6, .int 0)]) d_Mod_year_59 rfl (by decide) [1, 2, 3, 4, 5, 6, 0] rfl ?_
            exact h_Mod_year_61 hld  hQ  _ 0 0 M17 h
          · replace h := itp h c18
            refine g_bipush (pc1 := 54) (v := (-2)) d_Mod_year_52 rfl (by decide) ?_
            refine g_ireturn (Or.inl rfl) d_Mod_year_54 rfl ?_
            cases h; exact hQ
        · replace h := itp h c12
          refine g_iconst (pc1 := 39) (v := (-1)) d_Mod_year_38 rfl (by decide) ?_
          refine g_ireturn (Or.inl rfl) d_Mod_year_39 rfl ?_
          cases h; exact hQ

def J_Mod_blame_50 (K22 : Int32 → Int32 → gM → Option (Int32 × gM)) (v1 : Int32) (v2 : Int32) (v3 : Int32) (M : gM) : Option (Int32 × gM) :=
  nmI (v3 + 1) (fun x12 => K22 v2 x12 M)
set_option maxHeartbeats 4000000 in
set_option maxRecDepth 20000 in
theorem j_Mod_blame_50 {l : Launch} {ld : Nat} {Q : Option Value → gM → gL → gR → Prop} (hld : isLa ld)   {q : Int32 × gM} {M : gM} {L : gL} (hQ : Q (some (.int q.1)) q.2 L (rf ld)) {K22 : Int32 → Int32 → gM → Option (Int32 × gM)} {v1 : Int32} {v2 : Int32} {v3 : Int32} (hK22 : ∀ (w2 : Int32) (w3 : Int32) (M : gM), K22 w2 w3 M = some q → Wp l y_Mod_blame (0, 0, 447) 447 0 0 22 [(0, .ref 401), (1, .int v1), (2, .int w2), (3, .int w3)] [] M L (rf ld) Q) (h : J_Mod_blame_50 K22 v1 v2 v3 M = some q) : Wp l y_Mod_blame (0, 0, 447) 447 0 0 50 [(0, .ref 401), (1, .int v1), (2, .int v2), (3, .int v3)] [] M L (rf ld) Q := by
  unfold J_Mod_blame_50 at h
  obtain ⟨x12, ex12, h⟩ := ltI h
  refine g_iinc (pc1 := 53) (v := x12) (lv' := [(0, .ref 401), (1, .int v1), (2, .int v2), (3, .int x12)]) d_Mod_blame_50 rfl 3 rfl (by rw [ex12]; rfl) (by decide) [1, 2, 3, 0] rfl ?_
  refine g_goto (tgt := 22) d_Mod_blame_53 (by decide) ?_
  exact hK22 v2 x12 M h
def B_Mod_blame_22 (v1 : Int32) (K22 : Int32 → Int32 → gM → Option (Int32 × gM)) : Int32 → Int32 → gM → Option (Int32 × gM) := fun v2 v3 M =>
  (if ((M 401 18) : Int32) < 0 ∨ 2 ≤ ((M 401 18) : Int32).toNatClampNeg then none else (if (13 * (M 415 ((M 401 18) : Int32).toNatClampNeg)) ≤ v3 then some (v2, M) else bI2 (F_Mod_isWay v3 v1 M) (fun r9 M10 => (if r9 = 0 then J_Mod_blame_50 K22 v1 v2 v3 M10 else nmI (v2 + 1) (fun x13 => J_Mod_blame_50 K22 v1 x13 v3 M10)))))
def H_Mod_blame_22 (v1 : Int32) : Nat → Int32 → Int32 → gM → Option (Int32 × gM) := lpK (B_Mod_blame_22 v1) (fun _ _ _ => none)
set_option maxHeartbeats 4000000 in
set_option maxRecDepth 20000 in
theorem h_Mod_blame_22 {l : Launch} {ld : Nat} {Q : Option Value → gM → gL → gR → Prop} (hld : isLa ld)   {q : Int32 × gM} {L : gL} (hQ : Q (some (.int q.1)) q.2 L (rf ld))  {v1 : Int32}  : ∀ (f : Nat) (v2 : Int32) (v3 : Int32) (M : gM), H_Mod_blame_22 v1 f v2 v3 M = some q → Wp l y_Mod_blame (0, 0, 447) 447 0 0 22 [(0, .ref 401), (1, .int v1), (2, .int v2), (3, .int v3)] [] M L (rf ld) Q := by
  intro f
  induction f with
  | zero => intro v2 v3 M h; cases h
  | succ f hK22 =>
    intro v2 v3 M h
    replace h : B_Mod_blame_22 v1 (H_Mod_blame_22 v1 f) v2 v3 M = some q := h
    unfold B_Mod_blame_22 at h
    refine g_iload_n (pc1 := 23) d_Mod_blame_22 rfl 3 rfl ?_
    refine g_bipush (pc1 := 25) (v := 13) d_Mod_blame_23 rfl (by decide) ?_
    refine g_aload_n (pc1 := 26) d_Mod_blame_25 rfl 0 rfl ?_
    refine g_getr (pc1 := 29) d_Mod_blame_26 rfl ⟨_, fo_Mod_58⟩ sh_401 (by decide) (rf_401_27 ld) ?_
    refine g_aload_n (pc1 := 30) d_Mod_blame_29 rfl 0 rfl ?_
    refine g_geti (pc1 := 33) d_Mod_blame_30 rfl ⟨_, fo_Mod_236⟩ sh_401 (by decide) ?_
    obtain ⟨g6, h⟩ := gdn h
    refine g_iald (pc1 := 34) d_Mod_blame_33 rfl sh_415 (by decide) g6 ?_
    refine g_imul (pc1 := 35) d_Mod_blame_34 rfl ?_
    refine g_icmp_ge (pc1 := 38) (tgt := 56) d_Mod_blame_35 (by decide) rfl (fun c7 => ?_) (fun c7 => ?_)
    · replace h := itp h c7
      refine g_iload_n (pc1 := 57) d_Mod_blame_56 rfl 2 rfl ?_
      refine g_ireturn (Or.inl rfl) d_Mod_blame_57 rfl ?_
      cases h; exact hQ
    · replace h := itn h c7
      refine g_aload_n (pc1 := 39) d_Mod_blame_38 rfl 0 rfl ?_
      refine g_iload_n (pc1 := 40) d_Mod_blame_39 rfl 3 rfl ?_
      refine g_iload_n (pc1 := 41) d_Mod_blame_40 rfl 1 rfl ?_
      refine g_callV0 (pc1 := 44) (As := [.int v3, .int v1]) (rest := []) d_Mod_blame_41 rfl mo_Mod_455 mi_Mod_isWay mv_Mod_isWay rfl sh_401 (by decide) (by decide) rfl rfl (Nat.le_of_ble_eq_true rfl) ?_
      obtain ⟨r9, M10, hq8, h⟩ := bnd2 h
      refine f_Mod_isWay hld  hq8 ?_
      dsimp only [psh]
      refine g_if_eq (pc1 := 47) (tgt := 50) d_Mod_blame_44 (by decide) rfl (fun c11 => ?_) (fun c11 => ?_)
      · replace h := itp h c11
        exact j_Mod_blame_50 hld  hQ hK22 h
      · replace h := itn h c11
        obtain ⟨x13, ex13, h⟩ := ltI h
        refine g_iinc (pc1 := 50) (v := x13) (lv' := [(0, .ref 401), (1, .int v1), (2, .int x13), (3, .int v3)]) d_Mod_blame_47 rfl 2 rfl (by rw [ex13]; rfl) (by decide) [1, 2, 0, 3] rfl ?_
        exact j_Mod_blame_50 hld  hQ hK22 h
def F_Mod_blame (p1 : Int32) (M : gM) : Option (Int32 × gM) :=
  bI (F_Mod_in p1 0 (M 401 64)) (fun r2 => (if r2 = 0 then some ((-1), M) else bI (F_Mod_copies M) (fun M5 => H_Mod_blame_22 p1 FU 0 0 M5)))
set_option maxHeartbeats 4000000 in
set_option maxRecDepth 20000 in
theorem f_Mod_blame {l : Launch} {ld : Nat} {M : gM} {L : gL} {Q : Option Value → gM → gL → gR → Prop} (hld : isLa ld) {p1 : Int32}  {q : Int32 × gM} (h : F_Mod_blame p1 M = some q) (hQ : Q (some (.int q.1)) q.2 L (rf ld)) : Tm l y_Mod_blame (0, 0, 447) 447 [.ref 401, .int p1] M L (rf ld) Q := by
  refine Tm.of (by decide) (Nat.le_of_ble_eq_true rfl) ?_
  show Wp l y_Mod_blame (0, 0, 447) 447 0 0 0 [(0, .ref 401), (1, .int p1)] [] M L (rf ld) Q
  unfold F_Mod_blame at h
  refine g_iload_n (pc1 := 1) d_Mod_blame_0 rfl 1 rfl ?_
  refine g_iconst (pc1 := 2) (v := 0) d_Mod_blame_1 rfl (by decide) ?_
  refine g_aload_n (pc1 := 3) d_Mod_blame_2 rfl 0 rfl ?_
  refine g_geti (pc1 := 6) d_Mod_blame_3 rfl ⟨_, fo_Mod_257⟩ sh_401 (by decide) ?_
  refine g_callS0 (pc1 := 9) (As := [.int p1, .int 0, .int (M 401 64)]) (rest := []) d_Mod_blame_6 rfl mo_Mod_316 ms_Mod_in (by decide) rfl rfl (Nat.le_of_ble_eq_true rfl) ?_
  obtain ⟨r2, hq1, h⟩ := bnd h
  refine f_Mod_in hld  hq1 ?_
  dsimp only [psh]
  refine g_if_ne (pc1 := 12) (tgt := 14) d_Mod_blame_9 (by decide) rfl (fun c3 => ?_) (fun c3 => ?_)
  · replace h := itn h c3
    refine g_aload_n (pc1 := 15) d_Mod_blame_14 rfl 0 rfl ?_
    refine g_callV0 (pc1 := 18) (As := []) (rest := []) d_Mod_blame_15 rfl mo_Mod_377 mi_Mod_copies mv_Mod_copies rfl sh_401 (by decide) (by decide) rfl rfl (Nat.le_of_ble_eq_true rfl) ?_
    obtain ⟨M5, hq4, h⟩ := bnd h
    refine f_Mod_copies hld  hq4 ?_
    dsimp only [psh]
    refine g_iconst (pc1 := 19) (v := 0) d_Mod_blame_18 rfl (by decide) ?_
    refine g_istore_n (pc1 := 20) (lv' := [(0, .ref 401), (1, .int p1), (2, .int 0)]) d_Mod_blame_19 rfl rfl (by decide) [1, 2, 0] rfl ?_
    refine g_iconst (pc1 := 21) (v := 0) d_Mod_blame_20 rfl (by decide) ?_
    refine g_istore_n (pc1 := 22) (lv' := [(0, .ref 401), (1, .int p1), (2, .int 0), (3, .int 0)]) d_Mod_blame_21 rfl rfl (by decide) [1, 2, 3, 0] rfl ?_
    exact h_Mod_blame_22 hld  hQ  _ 0 0 M5 h
  · replace h := itp h c3
    refine g_iconst (pc1 := 13) (v := (-1)) d_Mod_blame_12 rfl (by decide) ?_
    refine g_ireturn (Or.inl rfl) d_Mod_blame_13 rfl ?_
    cases h; exact hQ

def J_Mod_deed_106 (K75 : Int32 → Int32 → gM → Option (Int32 × gM)) (v1 : Int32) (v3 : Int32) (v4 : Int32) (M : gM) : Option (Int32 × gM) :=
  nmI (v4 + 1) (fun x17 => K75 v3 x17 M)
set_option maxHeartbeats 4000000 in
set_option maxRecDepth 20000 in
theorem j_Mod_deed_106 {l : Launch} {ld : Nat} {Q : Option Value → gM → gL → gR → Prop} (hld : isLa ld)   {q : Int32 × gM} {M : gM} {L : gL} (hQ : Q (some (.int q.1)) q.2 L (rf ld)) {K75 : Int32 → Int32 → gM → Option (Int32 × gM)} {v1 : Int32} {v3 : Int32} {v4 : Int32} (hK75 : ∀ (w3 : Int32) (w4 : Int32) (M : gM), K75 w3 w4 M = some q → Wp l y_Mod_deed (0, 0, 447) 447 0 0 75 [(0, .ref 401), (1, .int v1), (3, .int w3), (4, .int w4)] [] M L (rf ld) Q) (h : J_Mod_deed_106 K75 v1 v3 v4 M = some q) : Wp l y_Mod_deed (0, 0, 447) 447 0 0 106 [(0, .ref 401), (1, .int v1), (3, .int v3), (4, .int v4)] [] M L (rf ld) Q := by
  unfold J_Mod_deed_106 at h
  obtain ⟨x17, ex17, h⟩ := ltI h
  refine g_iinc (pc1 := 109) (v := x17) (lv' := [(0, .ref 401), (1, .int v1), (3, .int v3), (4, .int x17)]) d_Mod_deed_106 rfl 3 rfl (by rw [ex17]; rfl) (by decide) [1, 2, 3, 0] rfl ?_
  refine g_goto (tgt := 75) d_Mod_deed_109 (by decide) ?_
  exact hK75 v3 x17 M h
def B_Mod_deed_75 (v1 : Int32) (K75 : Int32 → Int32 → gM → Option (Int32 × gM)) : Int32 → Int32 → gM → Option (Int32 × gM) := fun v3 v4 M =>
  (if ((M 401 18) : Int32) < 0 ∨ 2 ≤ ((M 401 18) : Int32).toNatClampNeg then none else (if (M 418 ((M 401 18) : Int32).toNatClampNeg) ≤ v4 then some (v3, M) else bI2 (F_Mod_isFree v4 v1 M) (fun r14 M15 => (if r14 = 0 then J_Mod_deed_106 K75 v1 v3 v4 M15 else nmI (v3 ||| (1 <<< (v4 &&& 31))) (fun x18 => J_Mod_deed_106 K75 v1 x18 v4 M15)))))
def H_Mod_deed_75 (v1 : Int32) : Nat → Int32 → Int32 → gM → Option (Int32 × gM) := lpK (B_Mod_deed_75 v1) (fun _ _ _ => none)
set_option maxHeartbeats 4000000 in
set_option maxRecDepth 20000 in
theorem h_Mod_deed_75 {l : Launch} {ld : Nat} {Q : Option Value → gM → gL → gR → Prop} (hld : isLa ld)   {q : Int32 × gM} {L : gL} (hQ : Q (some (.int q.1)) q.2 L (rf ld))  {v1 : Int32}  : ∀ (f : Nat) (v3 : Int32) (v4 : Int32) (M : gM), H_Mod_deed_75 v1 f v3 v4 M = some q → Wp l y_Mod_deed (0, 0, 447) 447 0 0 75 [(0, .ref 401), (1, .int v1), (3, .int v3), (4, .int v4)] [] M L (rf ld) Q := by
  intro f
  induction f with
  | zero => intro v3 v4 M h; cases h
  | succ f hK75 =>
    intro v3 v4 M h
    replace h : B_Mod_deed_75 v1 (H_Mod_deed_75 v1 f) v3 v4 M = some q := h
    unfold B_Mod_deed_75 at h
    refine g_iload (pc1 := 77) d_Mod_deed_75 rfl 3 rfl ?_
    refine g_aload_n (pc1 := 78) d_Mod_deed_77 rfl 0 rfl ?_
    refine g_getr (pc1 := 81) d_Mod_deed_78 rfl ⟨_, fo_Mod_67⟩ sh_401 (by decide) (rf_401_30 ld) ?_
    refine g_aload_n (pc1 := 82) d_Mod_deed_81 rfl 0 rfl ?_
    refine g_geti (pc1 := 85) d_Mod_deed_82 rfl ⟨_, fo_Mod_236⟩ sh_401 (by decide) ?_
    obtain ⟨g11, h⟩ := gdn h
    refine g_iald (pc1 := 86) d_Mod_deed_85 rfl sh_418 (by decide) g11 ?_
    refine g_icmp_ge (pc1 := 89) (tgt := 112) d_Mod_deed_86 (by decide) rfl (fun c12 => ?_) (fun c12 => ?_)
    · replace h := itp h c12
      refine g_iload_n (pc1 := 113) d_Mod_deed_112 rfl 2 rfl ?_
      refine g_ireturn (Or.inl rfl) d_Mod_deed_113 rfl ?_
      cases h; exact hQ
    · replace h := itn h c12
      refine g_aload_n (pc1 := 90) d_Mod_deed_89 rfl 0 rfl ?_
      refine g_iload (pc1 := 92) d_Mod_deed_90 rfl 3 rfl ?_
      refine g_iload_n (pc1 := 93) d_Mod_deed_92 rfl 1 rfl ?_
      refine g_callV0 (pc1 := 96) (As := [.int v4, .int v1]) (rest := []) d_Mod_deed_93 rfl mo_Mod_352 mi_Mod_isFree mv_Mod_isFree rfl sh_401 (by decide) (by decide) rfl rfl (Nat.le_of_ble_eq_true rfl) ?_
      obtain ⟨r14, M15, hq13, h⟩ := bnd2 h
      refine f_Mod_isFree hld  hq13 ?_
      dsimp only [psh]
      refine g_if_eq (pc1 := 99) (tgt := 106) d_Mod_deed_96 (by decide) rfl (fun c16 => ?_) (fun c16 => ?_)
      · replace h := itp h c16
        exact j_Mod_deed_106 hld  hQ hK75 h
      · replace h := itn h c16
        refine g_iload_n (pc1 := 100) d_Mod_deed_99 rfl 2 rfl ?_
        refine g_iconst (pc1 := 101) (v := 1) d_Mod_deed_100 rfl (by decide) ?_
        refine g_iload (pc1 := 103) d_Mod_deed_101 rfl 3 rfl ?_
        refine g_ishl (pc1 := 104) d_Mod_deed_103 rfl ?_
        refine g_ior (pc1 := 105) d_Mod_deed_104 rfl ?_
        refine Wp.lI h (fun x18 h => ?_)
        refine g_istore_n (pc1 := 106) (lv' := [(0, .ref 401), (1, .int v1), (3, .int x18), (4, .int v4)]) d_Mod_deed_105 rfl rfl (by decide) [1, 2, 0, 3] rfl ?_
        exact j_Mod_deed_106 hld  hQ hK75 h
def F_Mod_deed (p1 : Int32) (p2 : Int32) (M : gM) : Option (Int32 × gM) :=
  bI (F_Mod_isDeed p1 M) (fun r2 => (if r2 = 0 then some ((-1), M) else bI (F_Mod_copies M) (fun M5 => (if p2 = 0 then (if (((6 * (M5 401 18)) + p1) : Int32) < 0 ∨ 12 ≤ (((6 * (M5 401 18)) + p1) : Int32).toNatClampNeg then none else some ((M5 421 (((6 * (M5 401 18)) + p1) : Int32).toNatClampNeg), M5)) else (if p2 = 1 then (if (((6 * (M5 401 18)) + p1) : Int32) < 0 ∨ 12 ≤ (((6 * (M5 401 18)) + p1) : Int32).toNatClampNeg then none else some ((M5 422 (((6 * (M5 401 18)) + p1) : Int32).toNatClampNeg), M5)) else (if p2 = 2 then H_Mod_deed_75 p1 FU 0 0 M5 else some ((-1), M5)))))))
set_option maxHeartbeats 4000000 in
set_option maxRecDepth 20000 in
theorem f_Mod_deed {l : Launch} {ld : Nat} {M : gM} {L : gL} {Q : Option Value → gM → gL → gR → Prop} (hld : isLa ld) {p1 : Int32} {p2 : Int32}  {q : Int32 × gM} (h : F_Mod_deed p1 p2 M = some q) (hQ : Q (some (.int q.1)) q.2 L (rf ld)) : Tm l y_Mod_deed (0, 0, 447) 447 [.ref 401, .int p1, .int p2] M L (rf ld) Q := by
  refine Tm.of (by decide) (Nat.le_of_ble_eq_true rfl) ?_
  show Wp l y_Mod_deed (0, 0, 447) 447 0 0 0 [(0, .ref 401), (1, .int p1), (2, .int p2)] [] M L (rf ld) Q
  unfold F_Mod_deed at h
  refine g_aload_n (pc1 := 1) d_Mod_deed_0 rfl 0 rfl ?_
  refine g_iload_n (pc1 := 2) d_Mod_deed_1 rfl 1 rfl ?_
  refine g_callV0 (pc1 := 5) (As := [.int p1]) (rest := []) d_Mod_deed_2 rfl mo_Mod_383 mi_Mod_isDeed mv_Mod_isDeed rfl sh_401 (by decide) (by decide) rfl rfl (Nat.le_of_ble_eq_true rfl) ?_
  obtain ⟨r2, hq1, h⟩ := bnd h
  refine f_Mod_isDeed hld  hq1 ?_
  dsimp only [psh]
  refine g_if_ne (pc1 := 8) (tgt := 10) d_Mod_deed_5 (by decide) rfl (fun c3 => ?_) (fun c3 => ?_)
  · replace h := itn h c3
    refine g_aload_n (pc1 := 11) d_Mod_deed_10 rfl 0 rfl ?_
    refine g_callV0 (pc1 := 14) (As := []) (rest := []) d_Mod_deed_11 rfl mo_Mod_377 mi_Mod_copies mv_Mod_copies rfl sh_401 (by decide) (by decide) rfl rfl (Nat.le_of_ble_eq_true rfl) ?_
    obtain ⟨M5, hq4, h⟩ := bnd h
    refine f_Mod_copies hld  hq4 ?_
    dsimp only [psh]
    refine g_iload_n (pc1 := 15) d_Mod_deed_14 rfl 2 rfl ?_
    by_cases c6 : p2 = 0
    · replace h := itp h c6
      refine g_tabK (tgt := 40) (off := 25) d_Mod_deed_15 c6 (by decide) (by decide) (by decide) (by decide) ?_
      refine g_aload_n (pc1 := 41) d_Mod_deed_40 rfl 0 rfl ?_
      refine g_getr (pc1 := 44) d_Mod_deed_41 rfl ⟨_, fo_Mod_76⟩ sh_401 (by decide) (rf_401_33 ld) ?_
      refine g_bipush (pc1 := 46) (v := 6) d_Mod_deed_44 rfl (by decide) ?_
      refine g_aload_n (pc1 := 47) d_Mod_deed_46 rfl 0 rfl ?_
      refine g_geti (pc1 := 50) d_Mod_deed_47 rfl ⟨_, fo_Mod_236⟩ sh_401 (by decide) ?_
      refine g_imul (pc1 := 51) d_Mod_deed_50 rfl ?_
      refine g_iload_n (pc1 := 52) d_Mod_deed_51 rfl 1 rfl ?_
      refine g_iadd (pc1 := 53) d_Mod_deed_52 rfl ?_
      obtain ⟨g7, h⟩ := gdn h
      refine g_iald (pc1 := 54) d_Mod_deed_53 rfl sh_421 (by decide) g7 ?_
      refine g_ireturn (Or.inl rfl) d_Mod_deed_54 rfl ?_
      cases h; exact hQ
    replace h := itn h c6
    by_cases c8 : p2 = 1
    · replace h := itp h c8
      refine g_tabK (tgt := 55) (off := 40) d_Mod_deed_15 c8 (by decide) (by decide) (by decide) (by decide) ?_
      refine g_aload_n (pc1 := 56) d_Mod_deed_55 rfl 0 rfl ?_
      refine g_getr (pc1 := 59) d_Mod_deed_56 rfl ⟨_, fo_Mod_79⟩ sh_401 (by decide) (rf_401_34 ld) ?_
      refine g_bipush (pc1 := 61) (v := 6) d_Mod_deed_59 rfl (by decide) ?_
      refine g_aload_n (pc1 := 62) d_Mod_deed_61 rfl 0 rfl ?_
      refine g_geti (pc1 := 65) d_Mod_deed_62 rfl ⟨_, fo_Mod_236⟩ sh_401 (by decide) ?_
      refine g_imul (pc1 := 66) d_Mod_deed_65 rfl ?_
      refine g_iload_n (pc1 := 67) d_Mod_deed_66 rfl 1 rfl ?_
      refine g_iadd (pc1 := 68) d_Mod_deed_67 rfl ?_
      obtain ⟨g9, h⟩ := gdn h
      refine g_iald (pc1 := 69) d_Mod_deed_68 rfl sh_422 (by decide) g9 ?_
      refine g_ireturn (Or.inl rfl) d_Mod_deed_69 rfl ?_
      cases h; exact hQ
    replace h := itn h c8
    by_cases c10 : p2 = 2
    · replace h := itp h c10
      refine g_tabK (tgt := 70) (off := 55) d_Mod_deed_15 c10 (by decide) (by decide) (by decide) (by decide) ?_
      refine g_iconst (pc1 := 71) (v := 0) d_Mod_deed_70 rfl (by decide) ?_
      refine g_istore_n (pc1 := 72) (lv' := [(0, .ref 401), (1, .int p1), (2, .int p2), (3, .int 0)]) d_Mod_deed_71 rfl rfl (by decide) [1, 2, 3, 0] rfl ?_
      refine g_iconst (pc1 := 73) (v := 0) d_Mod_deed_72 rfl (by decide) ?_
      refine g_istore (pc1 := 75) (lv' := [(0, .ref 401), (1, .int p1), (2, .int p2), (3, .int 0), (4, .int 0)]) d_Mod_deed_73 rfl (by decide) [1, 2, 3, 4, 0] rfl ?_
      refine Wp.loc (lv' := [(0, .ref 401), (1, .int p1), (3, .int 0), (4, .int 0)]) [0, 1, 3, 4] rfl ?_
      exact h_Mod_deed_75 hld  hQ  _ 0 0 M5 h
    replace h := itn h c10
    refine g_tabOut (tgt := 114) d_Mod_deed_15 (by
      have nc6 := neT (a := 0) c6 (by decide)
      have nc8 := neT (a := 1) c8 (by decide)
      have nc10 := neT (a := 2) c10 (by decide)
      omega) (by decide) ?_
    refine g_iconst (pc1 := 115) (v := (-1)) d_Mod_deed_114 rfl (by decide) ?_
    refine g_ireturn (Or.inl rfl) d_Mod_deed_115 rfl ?_
    cases h; exact hQ
  · replace h := itp h c3
    refine g_iconst (pc1 := 9) (v := (-1)) d_Mod_deed_8 rfl (by decide) ?_
    refine g_ireturn (Or.inl rfl) d_Mod_deed_9 rfl ?_
    cases h; exact hQ

def J_Mod_feud_86 (K37 : Int32 → Int32 → gM → Option (Int32 × gM)) (v1 : Int32) (v2 : Int32) (v3 : Int32) (v4 : Int32) (v5 : Int32) (M : gM) : Option (Int32 × gM) :=
  nmI (v5 + 1) (fun x24 => K37 v4 x24 M)
set_option maxHeartbeats 4000000 in
set_option maxRecDepth 20000 in
theorem j_Mod_feud_86 {l : Launch} {ld : Nat} {Q : Option Value → gM → gL → gR → Prop} (hld : isLa ld)   {q : Int32 × gM} {M : gM} {L : gL} (hQ : Q (some (.int q.1)) q.2 L (rf ld)) {K37 : Int32 → Int32 → gM → Option (Int32 × gM)} {v1 : Int32} {v2 : Int32} {v3 : Int32} {v4 : Int32} {v5 : Int32} (hK37 : ∀ (w4 : Int32) (w5 : Int32) (M : gM), K37 w4 w5 M = some q → Wp l y_Mod_feud (0, 0, 447) 447 0 0 37 [(0, .ref 401), (1, .int v1), (2, .int v2), (3, .int v3), (4, .int w4), (5, .int w5)] [] M L (rf ld) Q) (h : J_Mod_feud_86 K37 v1 v2 v3 v4 v5 M = some q) : Wp l y_Mod_feud (0, 0, 447) 447 0 0 86 [(0, .ref 401), (1, .int v1), (2, .int v2), (3, .int v3), (4, .int v4), (5, .int v5)] [] M L (rf ld) Q := by
  unfold J_Mod_feud_86 at h
  obtain ⟨x24, ex24, h⟩ := ltI h
  refine g_iinc (pc1 := 89) (v := x24) (lv' := [(0, .ref 401), (1, .int v1), (2, .int v2), (3, .int v3), (4, .int v4), (5, .int x24)]) d_Mod_feud_86 rfl 5 rfl (by rw [ex24]; rfl) (by decide) [1, 2, 3, 4, 5, 0] rfl ?_
  refine g_goto (tgt := 37) d_Mod_feud_89 (by decide) ?_
  exact hK37 v4 x24 M h
def B_Mod_feud_37 (v1 : Int32) (v2 : Int32) (v3 : Int32) (K37 : Int32 → Int32 → gM → Option (Int32 × gM)) : Int32 → Int32 → gM → Option (Int32 × gM) := fun v4 v5 M =>
  (if ((M 401 18) : Int32) < 0 ∨ 2 ≤ ((M 401 18) : Int32).toNatClampNeg then none else (if (M 415 ((M 401 18) : Int32).toNatClampNeg) ≤ v5 then some (v4, M) else bI (F_Mod_copies M) (fun M14 => bI (F_Mod_eatsDish v1 v5 M14) (fun M16 => bI2 (F_Mod_isFree v1 v2 M16) (fun r18 M19 => bI2 (F_Mod_isFree v1 v3 M19) (fun r21 M22 => (if r18 = r21 then J_Mod_feud_86 K37 v1 v2 v3 v4 v5 M22 else nmI (v4 ||| (1 <<< (v5 &&& 31))) (fun x25 => J_Mod_feud_86 K37 v1 v2 v3 x25 v5 M22))))))))
def H_Mod_feud_37 (v1 : Int32) (v2 : Int32) (v3 : Int32) : Nat → Int32 → Int32 → gM → Option (Int32 × gM) := lpK (B_Mod_feud_37 v1 v2 v3) (fun _ _ _ => none)
set_option maxHeartbeats 4000000 in
set_option maxRecDepth 20000 in
theorem h_Mod_feud_37 {l : Launch} {ld : Nat} {Q : Option Value → gM → gL → gR → Prop} (hld : isLa ld)   {q : Int32 × gM} {L : gL} (hQ : Q (some (.int q.1)) q.2 L (rf ld))  {v1 : Int32} {v2 : Int32} {v3 : Int32}  : ∀ (f : Nat) (v4 : Int32) (v5 : Int32) (M : gM), H_Mod_feud_37 v1 v2 v3 f v4 v5 M = some q → Wp l y_Mod_feud (0, 0, 447) 447 0 0 37 [(0, .ref 401), (1, .int v1), (2, .int v2), (3, .int v3), (4, .int v4), (5, .int v5)] [] M L (rf ld) Q := by
  intro f
  induction f with
  | zero => intro v4 v5 M h; cases h
  | succ f hK37 =>
    intro v4 v5 M h
    replace h : B_Mod_feud_37 v1 v2 v3 (H_Mod_feud_37 v1 v2 v3 f) v4 v5 M = some q := h
    unfold B_Mod_feud_37 at h
    refine g_iload (pc1 := 39) d_Mod_feud_37 rfl 5 rfl ?_
    refine g_aload_n (pc1 := 40) d_Mod_feud_39 rfl 0 rfl ?_
    refine g_getr (pc1 := 43) d_Mod_feud_40 rfl ⟨_, fo_Mod_58⟩ sh_401 (by decide) (rf_401_27 ld) ?_
    refine g_aload_n (pc1 := 44) d_Mod_feud_43 rfl 0 rfl ?_
    refine g_geti (pc1 := 47) d_Mod_feud_44 rfl ⟨_, fo_Mod_236⟩ sh_401 (by decide) ?_
    obtain ⟨g11, h⟩ := gdn h
    refine g_iald (pc1 := 48) d_Mod_feud_47 rfl sh_415 (by decide) g11 ?_
    refine g_icmp_ge (pc1 := 51) (tgt := 92) d_Mod_feud_48 (by decide) rfl (fun c12 => ?_) (fun c12 => ?_)
    · replace h := itp h c12
      refine g_iload (pc1 := 94) d_Mod_feud_92 rfl 4 rfl ?_
      refine g_ireturn (Or.inl rfl) d_Mod_feud_94 rfl ?_
      cases h; exact hQ
    · replace h := itn h c12
      refine g_aload_n (pc1 := 52) d_Mod_feud_51 rfl 0 rfl ?_
      refine g_callV0 (pc1 := 55) (As := []) (rest := []) d_Mod_feud_52 rfl mo_Mod_377 mi_Mod_copies mv_Mod_copies rfl sh_401 (by decide) (by decide) rfl rfl (Nat.le_of_ble_eq_true rfl) ?_
      obtain ⟨M14, hq13, h⟩ := bnd h
      refine f_Mod_copies hld  hq13 ?_
      dsimp only [psh]
      refine g_aload_n (pc1 := 56) d_Mod_feud_55 rfl 0 rfl ?_
      refine g_iload_n (pc1 := 57) d_Mod_feud_56 rfl 1 rfl ?_
      refine g_iload (pc1 := 59) d_Mod_feud_57 rfl 5 rfl ?_
      refine g_callV0 (pc1 := 62) (As := [.int v1, .int v5]) (rest := []) d_Mod_feud_59 rfl mo_Mod_431 mi_Mod_eatsDish mv_Mod_eatsDish rfl sh_401 (by decide) (by decide) rfl rfl (Nat.le_of_ble_eq_true rfl) ?_
      obtain ⟨M16, hq15, h⟩ := bnd h
      refine f_Mod_eatsDish hld  hq15 ?_
      dsimp only [psh]
      refine g_aload_n (pc1 := 63) d_Mod_feud_62 rfl 0 rfl ?_
      refine g_iload_n (pc1 := 64) d_Mod_feud_63 rfl 1 rfl ?_
      refine g_iload_n (pc1 := 65) d_Mod_feud_64 rfl 2 rfl ?_
      refine g_callV0 (pc1 := 68) (As := [.int v1, .int v2]) (rest := []) d_Mod_feud_65 rfl mo_Mod_352 mi_Mod_isFree mv_Mod_isFree rfl sh_401 (by decide) (by decide) rfl rfl (Nat.le_of_ble_eq_true rfl) ?_
      obtain ⟨r18, M19, hq17, h⟩ := bnd2 h
      refine f_Mod_isFree hld  hq17 ?_
      dsimp only [psh]
      refine g_aload_n (pc1 := 69) d_Mod_feud_68 rfl 0 rfl ?_
      refine g_iload_n (pc1 := 70) d_Mod_feud_69 rfl 1 rfl ?_
      refine g_iload_n (pc1 := 71) d_Mod_feud_70 rfl 3 rfl ?_
      refine g_callV0 (pc1 := 74) (As := [.int v1, .int v3]) (rest := [.int r18]) d_Mod_feud_71 rfl mo_Mod_352 mi_Mod_isFree mv_Mod_isFree rfl sh_401 (by decide) (by decide) rfl rfl (Nat.le_of_ble_eq_true rfl) ?_
      obtain ⟨r21, M22, hq20, h⟩ := bnd2 h
      refine f_Mod_isFree hld  hq20 ?_
      dsimp only [psh]
      refine g_icmp_eq (pc1 := 77) (tgt := 86) d_Mod_feud_74 (by decide) rfl (fun c23 => ?_) (fun c23 => ?_)
      · replace h := itp h c23
        exact j_Mod_feud_86 hld  hQ hK37 h
      · replace h := itn h c23
        refine g_iload (pc1 := 79) d_Mod_feud_77 rfl 4 rfl ?_
        refine g_iconst (pc1 := 80) (v := 1) d_Mod_feud_79 rfl (by decide) ?_
        refine g_iload (pc1 := 82) d_Mod_feud_80 rfl 5 rfl ?_
        refine g_ishl (pc1 := 83) d_Mod_feud_82 rfl ?_
        refine g_ior (pc1 := 84) d_Mod_feud_83 rfl ?_
        refine Wp.lI h (fun x25 h => ?_)
        refine g_istore (pc1 := 86) (lv' := [(0, .ref 401), (1, .int v1), (2, .int v2), (3, .int v3), (4, .int x25), (5, .int v5)]) d_Mod_feud_84 rfl (by decide) [1, 2, 3, 4, 0, 5] rfl ?_
        exact j_Mod_feud_86 hld  hQ hK37 h
def F_Mod_feud (p1 : Int32) (p2 : Int32) (p3 : Int32) (M : gM) : Option (Int32 × gM) :=
  bI (F_Mod_isGuest p1 M) (fun r2 => (if r2 = 0 then some ((-1), M) else bI (F_Mod_isDeed p2 M) (fun r5 => (if r5 = 0 then some ((-1), M) else bI (F_Mod_isDeed p3 M) (fun r8 => (if r8 = 0 then some ((-1), M) else (if p2 = p3 then some ((-1), M) else H_Mod_feud_37 p1 p2 p3 FU 0 0 M)))))))
set_option maxHeartbeats 4000000 in
set_option maxRecDepth 20000 in
theorem f_Mod_feud {l : Launch} {ld : Nat} {M : gM} {L : gL} {Q : Option Value → gM → gL → gR → Prop} (hld : isLa ld) {p1 : Int32} {p2 : Int32} {p3 : Int32}  {q : Int32 × gM} (h : F_Mod_feud p1 p2 p3 M = some q) (hQ : Q (some (.int q.1)) q.2 L (rf ld)) : Tm l y_Mod_feud (0, 0, 447) 447 [.ref 401, .int p1, .int p2, .int p3] M L (rf ld) Q := by
  refine Tm.of (by decide) (Nat.le_of_ble_eq_true rfl) ?_
  show Wp l y_Mod_feud (0, 0, 447) 447 0 0 0 [(0, .ref 401), (1, .int p1), (2, .int p2), (3, .int p3)] [] M L (rf ld) Q
  unfold F_Mod_feud at h
  refine g_aload_n (pc1 := 1) d_Mod_feud_0 rfl 0 rfl ?_
  refine g_iload_n (pc1 := 2) d_Mod_feud_1 rfl 1 rfl ?_
  refine g_callV0 (pc1 := 5) (As := [.int p1]) (rest := []) d_Mod_feud_2 rfl mo_Mod_380 mi_Mod_isGuest mv_Mod_isGuest rfl sh_401 (by decide) (by decide) rfl rfl (Nat.le_of_ble_eq_true rfl) ?_
  obtain ⟨r2, hq1, h⟩ := bnd h
  refine f_Mod_isGuest hld  hq1 ?_
  dsimp only [psh]
  refine g_if_eq (pc1 := 8) (tgt := 29) d_Mod_feud_5 (by decide) rfl (fun c3 => ?_) (fun c3 => ?_)
  · replace h := itp h c3
    refine g_iconst (pc1 := 30) (v := (-1)) d_Mod_feud_29 rfl (by decide) ?_
    refine g_ireturn (Or.inl rfl) d_Mod_feud_30 rfl ?_
    cases h; exact hQ
  · replace h := itn h c3
    refine g_aload_n (pc1 := 9) d_Mod_feud_8 rfl 0 rfl ?_
    refine g_iload_n (pc1 := 10) d_Mod_feud_9 rfl 2 rfl ?_
    refine g_callV0 (pc1 := 13) (As := [.int p2]) (rest := []) d_Mod_feud_10 rfl mo_Mod_383 mi_Mod_isDeed mv_Mod_isDeed rfl sh_401 (by decide) (by decide) rfl rfl (Nat.le_of_ble_eq_true rfl) ?_
    obtain ⟨r5, hq4, h⟩ := bnd h
    refine f_Mod_isDeed hld  hq4 ?_
    dsimp only [psh]
    refine g_if_eq (pc1 := 16) (tgt := 29) d_Mod_feud_13 (by decide) rfl (fun c6 => ?_) (fun c6 => ?_)
    · replace h := itp h c6
      refine g_iconst (pc1 := 30) (v := (-1)) d_Mod_feud_29 rfl (by decide) ?_
      refine g_ireturn (Or.inl rfl) d_Mod_feud_30 rfl ?_
      cases h; exact hQ
    · replace h := itn h c6
      refine g_aload_n (pc1 := 17) d_Mod_feud_16 rfl 0 rfl ?_
      refine g_iload_n (pc1 := 18) d_Mod_feud_17 rfl 3 rfl ?_
      refine g_callV0 (pc1 := 21) (As := [.int p3]) (rest := []) d_Mod_feud_18 rfl mo_Mod_383 mi_Mod_isDeed mv_Mod_isDeed rfl sh_401 (by decide) (by decide) rfl rfl (Nat.le_of_ble_eq_true rfl) ?_
      obtain ⟨r8, hq7, h⟩ := bnd h
      refine f_Mod_isDeed hld  hq7 ?_
      dsimp only [psh]
      refine g_if_eq (pc1 := 24) (tgt := 29) d_Mod_feud_21 (by decide) rfl (fun c9 => ?_) (fun c9 => ?_)
      · replace h := itp h c9
        refine g_iconst (pc1 := 30) (v := (-1)) d_Mod_feud_29 rfl (by decide) ?_
        refine g_ireturn (Or.inl rfl) d_Mod_feud_30 rfl ?_
        cases h; exact hQ
      · replace h := itn h c9
        refine g_iload_n (pc1 := 25) d_Mod_feud_24 rfl 2 rfl ?_
        refine g_iload_n (pc1 := 26) d_Mod_feud_25 rfl 3 rfl ?_
        refine g_icmp_ne (pc1 := 29) (tgt := 31) d_Mod_feud_26 (by decide) rfl (fun c10 => ?_) (fun c10 => ?_)
        · replace h := itn h c10
          refine g_iconst (pc1 := 32) (v := 0) d_Mod_feud_31 rfl (by decide) ?_
          refine g_istore (pc1 := 34) (lv' := [(0, .ref 401), (1, .int p1), (2, .int p2), (3, .int p3), (4, .int 0)]) d_Mod_feud_32 rfl (by decide) [1, 2, 3, 4, 0] rfl ?_
          refine g_iconst (pc1 := 35) (v := 0) d_Mod_feud_34 rfl (by decide) ?_
          refine g_istore (pc1 := 37) (lv' := [(0, .ref 401), (1, .int p1), (2, .int p2), (3, .int p3), (4, .int 0), (5, .int 0)]) d_Mod_feud_35 rfl (by decide) [1, 2, 3, 4, 5, 0] rfl ?_
          exact h_Mod_feud_37 hld  hQ  _ 0 0 M h
        · replace h := itp h c10
          refine g_iconst (pc1 := 30) (v := (-1)) d_Mod_feud_29 rfl (by decide) ?_
          refine g_ireturn (Or.inl rfl) d_Mod_feud_30 rfl ?_
          cases h; exact hQ

def J_Mod_freeBits_32 (K4 : Int32 → Int32 → gM → Option (Int32 × gM)) (v1 : Int32) (v2 : Int32) (v3 : Int32) (M : gM) : Option (Int32 × gM) :=
  nmI (v3 + 1) (fun x7 => K4 v2 x7 M)
set_option maxHeartbeats 4000000 in
set_option maxRecDepth 20000 in
theorem j_Mod_freeBits_32 {l : Launch} {ld : Nat} {Q : Option Value → gM → gL → gR → Prop} (hld : isLa ld)   {q : Int32 × gM} {M : gM} {L : gL} (hQ : Q (some (.int q.1)) q.2 L (rf ld)) {K4 : Int32 → Int32 → gM → Option (Int32 × gM)} {v1 : Int32} {v2 : Int32} {v3 : Int32} (hK4 : ∀ (w2 : Int32) (w3 : Int32) (M : gM), K4 w2 w3 M = some q → Wp l y_Mod_freeBits (0, 0, 447) 447 0 0 4 [(0, .ref 401), (1, .int v1), (2, .int w2), (3, .int w3)] [] M L (rf ld) Q) (h : J_Mod_freeBits_32 K4 v1 v2 v3 M = some q) : Wp l y_Mod_freeBits (0, 0, 447) 447 0 0 32 [(0, .ref 401), (1, .int v1), (2, .int v2), (3, .int v3)] [] M L (rf ld) Q := by
  unfold J_Mod_freeBits_32 at h
  obtain ⟨x7, ex7, h⟩ := ltI h
  refine g_iinc (pc1 := 35) (v := x7) (lv' := [(0, .ref 401), (1, .int v1), (2, .int v2), (3, .int x7)]) d_Mod_freeBits_32 rfl 3 rfl (by rw [ex7]; rfl) (by decide) [1, 2, 3, 0] rfl ?_
  refine g_goto (tgt := 4) d_Mod_freeBits_35 (by decide) ?_
  exact hK4 v2 x7 M h
def B_Mod_freeBits_4 (v1 : Int32) (K4 : Int32 → Int32 → gM → Option (Int32 × gM)) : Int32 → Int32 → gM → Option (Int32 × gM) := fun v2 v3 M =>
  (if ((M 401 18) : Int32) < 0 ∨ 2 ≤ ((M 401 18) : Int32).toNatClampNeg then none else (if (M 420 ((M 401 18) : Int32).toNatClampNeg) ≤ v3 then some (v2, M) else bI2 (F_Mod_isFree v1 v3 M) (fun r4 M5 => (if r4 = 0 then J_Mod_freeBits_32 K4 v1 v2 v3 M5 else nmI (v2 ||| (1 <<< (v3 &&& 31))) (fun x8 => J_Mod_freeBits_32 K4 v1 x8 v3 M5)))))
def H_Mod_freeBits_4 (v1 : Int32) : Nat → Int32 → Int32 → gM → Option (Int32 × gM) := lpK (B_Mod_freeBits_4 v1) (fun _ _ _ => none)
set_option maxHeartbeats 4000000 in
set_option maxRecDepth 20000 in
theorem h_Mod_freeBits_4 {l : Launch} {ld : Nat} {Q : Option Value → gM → gL → gR → Prop} (hld : isLa ld)   {q : Int32 × gM} {L : gL} (hQ : Q (some (.int q.1)) q.2 L (rf ld))  {v1 : Int32}  : ∀ (f : Nat) (v2 : Int32) (v3 : Int32) (M : gM), H_Mod_freeBits_4 v1 f v2 v3 M = some q → Wp l y_Mod_freeBits (0, 0, 447) 447 0 0 4 [(0, .ref 401), (1, .int v1), (2, .int v2), (3, .int v3)] [] M L (rf ld) Q := by
  intro f
  induction f with
  | zero => intro v2 v3 M h; cases h
  | succ f hK4 =>
    intro v2 v3 M h
    replace h : B_Mod_freeBits_4 v1 (H_Mod_freeBits_4 v1 f) v2 v3 M = some q := h
    unfold B_Mod_freeBits_4 at h
    refine g_iload_n (pc1 := 5) d_Mod_freeBits_4 rfl 3 rfl ?_
    refine g_aload_n (pc1 := 6) d_Mod_freeBits_5 rfl 0 rfl ?_
    refine g_getr (pc1 := 9) d_Mod_freeBits_6 rfl ⟨_, fo_Mod_73⟩ sh_401 (by decide) (rf_401_32 ld) ?_
    refine g_aload_n (pc1 := 10) d_Mod_freeBits_9 rfl 0 rfl ?_
    refine g_geti (pc1 := 13) d_Mod_freeBits_10 rfl ⟨_, fo_Mod_236⟩ sh_401 (by decide) ?_
    obtain ⟨g1, h⟩ := gdn h
    refine g_iald (pc1 := 14) d_Mod_freeBits_13 rfl sh_420 (by decide) g1 ?_
    refine g_icmp_ge (pc1 := 17) (tgt := 38) d_Mod_freeBits_14 (by decide) rfl (fun c2 => ?_) (fun c2 => ?_)
    · replace h := itp h c2
      refine g_iload_n (pc1 := 39) d_Mod_freeBits_38 rfl 2 rfl ?_
      refine g_ireturn (Or.inl rfl) d_Mod_freeBits_39 rfl ?_
      cases h; exact hQ
    · replace h := itn h c2
      refine g_aload_n (pc1 := 18) d_Mod_freeBits_17 rfl 0 rfl ?_
      refine g_iload_n (pc1 := 19) d_Mod_freeBits_18 rfl 1 rfl ?_
      refine g_iload_n (pc1 := 20) d_Mod_freeBits_19 rfl 3 rfl ?_
      refine g_callV0 (pc1 := 23) (As := [.int v1, .int v3]) (rest := []) d_Mod_freeBits_20 rfl mo_Mod_352 mi_Mod_isFree mv_Mod_isFree rfl sh_401 (by decide) (by decide) rfl rfl (Nat.le_of_ble_eq_true rfl) ?_
      obtain ⟨r4, M5, hq3, h⟩ := bnd2 h
      refine f_Mod_isFree hld  hq3 ?_
      dsimp only [psh]
      refine g_if_eq (pc1 := 26) (tgt := 32) d_Mod_freeBits_23 (by decide) rfl (fun c6 => ?_) (fun c6 => ?_)
      · replace h := itp h c6
        exact j_Mod_freeBits_32 hld  hQ hK4 h
      · replace h := itn h c6
        refine g_iload_n (pc1 := 27) d_Mod_freeBits_26 rfl 2 rfl ?_
        refine g_iconst (pc1 := 28) (v := 1) d_Mod_freeBits_27 rfl (by decide) ?_
        refine g_iload_n (pc1 := 29) d_Mod_freeBits_28 rfl 3 rfl ?_
        refine g_ishl (pc1 := 30) d_Mod_freeBits_29 rfl ?_
        refine g_ior (pc1 := 31) d_Mod_freeBits_30 rfl ?_
        refine Wp.lI h (fun x8 h => ?_)
        refine g_istore_n (pc1 := 32) (lv' := [(0, .ref 401), (1, .int v1), (2, .int x8), (3, .int v3)]) d_Mod_freeBits_31 rfl rfl (by decide) [1, 2, 0, 3] rfl ?_
        exact j_Mod_freeBits_32 hld  hQ hK4 h
def F_Mod_freeBits (p1 : Int32) (M : gM) : Option (Int32 × gM) :=
  H_Mod_freeBits_4 p1 FU 0 0 M
set_option maxHeartbeats 4000000 in
set_option maxRecDepth 20000 in
theorem f_Mod_freeBits {l : Launch} {ld : Nat} {M : gM} {L : gL} {Q : Option Value → gM → gL → gR → Prop} (hld : isLa ld) {p1 : Int32}  {q : Int32 × gM} (h : F_Mod_freeBits p1 M = some q) (hQ : Q (some (.int q.1)) q.2 L (rf ld)) : Tm l y_Mod_freeBits (0, 0, 447) 447 [.ref 401, .int p1] M L (rf ld) Q := by
  refine Tm.of (by decide) (Nat.le_of_ble_eq_true rfl) ?_
  show Wp l y_Mod_freeBits (0, 0, 447) 447 0 0 0 [(0, .ref 401), (1, .int p1)] [] M L (rf ld) Q
  unfold F_Mod_freeBits at h
  refine g_iconst (pc1 := 1) (v := 0) d_Mod_freeBits_0 rfl (by decide) ?_
  refine g_istore_n (pc1 := 2) (lv' := [(0, .ref 401), (1, .int p1), (2, .int 0)]) d_Mod_freeBits_1 rfl rfl (by decide) [1, 2, 0] rfl ?_
  refine g_iconst (pc1 := 3) (v := 0) d_Mod_freeBits_2 rfl (by decide) ?_
  refine g_istore_n (pc1 := 4) (lv' := [(0, .ref 401), (1, .int p1), (2, .int 0), (3, .int 0)]) d_Mod_freeBits_3 rfl rfl (by decide) [1, 2, 3, 0] rfl ?_
  exact h_Mod_freeBits_4 hld  hQ  _ 0 0 M h

def B_Mod_hunger_24 (v1 : Int32) (v2 : Int32) (K24 : Int32 → gM → Option (Int32 × gM)) : Int32 → gM → Option (Int32 × gM) := fun v3 M =>
  (if 99 < v3 then some ((-2), M) else bI2 (F_Mod_isFree v1 v2 M) (fun r11 M12 => (if r11 = 0 then nmM (uM M12 437 35 ((M12 437 35) + 1)) (fun M14 => nmI (v3 + 1) (fun x15 => K24 x15 M14)) else some (v3, M12))))
def H_Mod_hunger_24 (v1 : Int32) (v2 : Int32) : Nat → Int32 → gM → Option (Int32 × gM) := lpK (B_Mod_hunger_24 v1 v2) (fun _ _ => none)
set_option maxHeartbeats 4000000 in
set_option maxRecDepth 20000 in
theorem h_Mod_hunger_24 {l : Launch} {ld : Nat} {Q : Option Value → gM → gL → gR → Prop} (hld : isLa ld)   {q : Int32 × gM} {L : gL} (hQ : Q (some (.int q.1)) q.2 L (rf ld))  {v1 : Int32} {v2 : Int32}  : ∀ (f : Nat) (v3 : Int32) (M : gM), H_Mod_hunger_24 v1 v2 f v3 M = some q → Wp l y_Mod_hunger (0, 0, 447) 447 0 0 24 [(0, .ref 401), (1, .int v1), (2, .int v2), (3, .int v3)] [] M L (rf ld) Q := by
  intro f
  induction f with
  | zero => intro v3 M h; cases h
  | succ f hK24 =>
    intro v3 M h
    replace h : B_Mod_hunger_24 v1 v2 (H_Mod_hunger_24 v1 v2 f) v3 M = some q := h
    unfold B_Mod_hunger_24 at h
    refine g_iload_n (pc1 := 25) d_Mod_hunger_24 rfl 3 rfl ?_
    refine g_bipush (pc1 := 27) (v := 99) d_Mod_hunger_25 rfl (by decide) ?_
    refine g_icmp_gt (pc1 := 30) (tgt := 58) d_Mod_hunger_27 (by decide) rfl (fun c9 => ?_) (fun c9 => ?_)
    · replace h := itp h c9
      refine g_bipush (pc1 := 60) (v := (-2)) d_Mod_hunger_58 rfl (by decide) ?_
      refine g_ireturn (Or.inl rfl) d_Mod_hunger_60 rfl ?_
      cases h; exact hQ
    · replace h := itn h c9
      refine g_aload_n (pc1 := 31) d_Mod_hunger_30 rfl 0 rfl ?_
      refine g_iload_n (pc1 := 32) d_Mod_hunger_31 rfl 1 rfl ?_
      refine g_iload_n (pc1 := 33) d_Mod_hunger_32 rfl 2 rfl ?_
      refine g_callV0 (pc1 := 36) (As := [.int v1, .int v2]) (rest := []) d_Mod_hunger_33 rfl mo_Mod_352 mi_Mod_isFree mv_Mod_isFree rfl sh_401 (by decide) (by decide) rfl rfl (Nat.le_of_ble_eq_true rfl) ?_
      obtain ⟨r11, M12, hq10, h⟩ := bnd2 h
      refine f_Mod_isFree hld  hq10 ?_
      dsimp only [psh]
      refine g_if_eq (pc1 := 39) (tgt := 41) d_Mod_hunger_36 (by decide) rfl (fun c13 => ?_) (fun c13 => ?_)
      · replace h := itp h c13
        refine g_aload_n (pc1 := 42) d_Mod_hunger_41 rfl 0 rfl ?_
        refine g_getr (pc1 := 45) d_Mod_hunger_42 rfl ⟨_, fo_Mod_125⟩ sh_401 (by decide) (rf_401_53 ld) ?_
        refine g_bipush (pc1 := 47) (v := 35) d_Mod_hunger_45 rfl (by decide) ?_
        refine g_dup2 (pc1 := 48) d_Mod_hunger_47 rfl rfl rfl ?_
        refine g_iald (pc1 := 49) d_Mod_hunger_48 rfl sh_437 (by decide) (vin_lit (x := 35) (by decide)) ?_
        refine Wp.vali (y := (M12 437 35)) (congrArg (M12 437) (by decide)) ?_
        refine g_iconst (pc1 := 50) (v := 1) d_Mod_hunger_49 rfl (by decide) ?_
        refine g_iadd (pc1 := 51) d_Mod_hunger_50 rfl ?_
        refine g_iast (pc1 := 52) d_Mod_hunger_51 rfl sh_437 (by decide) (vin_lit (x := 35) (by decide)) ?_
        refine Wp.eqM (M' := uM M12 437 35 ((M12 437 35) + 1)) (congrArg (fun z => uM M12 437 z ((M12 437 35) + 1)) (by decide)) ?_
        refine Wp.lM h (fun M14 h => ?_)
        obtain ⟨x15, ex15, h⟩ := ltI h
        refine g_iinc (pc1 := 55) (v := x15) (lv' := [(0, .ref 401), (1, .int v1), (2, .int v2), (3, .int x15)]) d_Mod_hunger_52 rfl 3 rfl (by rw [ex15]; rfl) (by decide) [1, 2, 3, 0] rfl ?_
        refine g_goto (tgt := 24) d_Mod_hunger_55 (by decide) ?_
        exact hK24 x15 M14 h
      · replace h := itn h c13
        refine g_iload_n (pc1 := 40) d_Mod_hunger_39 rfl 3 rfl ?_
        refine g_ireturn (Or.inl rfl) d_Mod_hunger_40 rfl ?_
        cases h; exact hQ
def F_Mod_hunger (p1 : Int32) (p2 : Int32) (M : gM) : Option (Int32 × gM) :=
  bI (F_Mod_isGuest p1 M) (fun r2 => (if r2 = 0 then some ((-1), M) else bI (F_Mod_isDeed p2 M) (fun r5 => (if r5 = 0 then some ((-1), M) else bI (F_Mod_copies M) (fun M8 => H_Mod_hunger_24 p1 p2 FU 0 M8)))))
set_option maxHeartbeats 4000000 in
set_option maxRecDepth 20000 in
theorem f_Mod_hunger {l : Launch} {ld : Nat} {M : gM} {L : gL} {Q : Option Value → gM → gL → gR → Prop} (hld : isLa ld) {p1 : Int32} {p2 : Int32}  {q : Int32 × gM} (h : F_Mod_hunger p1 p2 M = some q) (hQ : Q (some (.int q.1)) q.2 L (rf ld)) : Tm l y_Mod_hunger (0, 0, 447) 447 [.ref 401, .int p1, .int p2] M L (rf ld) Q := by
  refine Tm.of (by decide) (Nat.le_of_ble_eq_true rfl) ?_
  show Wp l y_Mod_hunger (0, 0, 447) 447 0 0 0 [(0, .ref 401), (1, .int p1), (2, .int p2)] [] M L (rf ld) Q
  unfold F_Mod_hunger at h
  refine g_aload_n (pc1 := 1) d_Mod_hunger_0 rfl 0 rfl ?_
  refine g_iload_n (pc1 := 2) d_Mod_hunger_1 rfl 1 rfl ?_
  refine g_callV0 (pc1 := 5) (As := [.int p1]) (rest := []) d_Mod_hunger_2 rfl mo_Mod_380 mi_Mod_isGuest mv_Mod_isGuest rfl sh_401 (by decide) (by decide) rfl rfl (Nat.le_of_ble_eq_true rfl) ?_
  obtain ⟨r2, hq1, h⟩ := bnd h
  refine f_Mod_isGuest hld  hq1 ?_
  dsimp only [psh]
  refine g_if_eq (pc1 := 8) (tgt := 16) d_Mod_hunger_5 (by decide) rfl (fun c3 => ?_) (fun c3 => ?_)
  · replace h := itp h c3
    refine g_iconst (pc1 := 17) (v := (-1)) d_Mod_hunger_16 rfl (by decide) ?_
    refine g_ireturn (Or.inl rfl) d_Mod_hunger_17 rfl ?_
    cases h; exact hQ
  · replace h := itn h c3
    refine g_aload_n (pc1 := 9) d_Mod_hunger_8 rfl 0 rfl ?_
    refine g_iload_n (pc1 := 10) d_Mod_hunger_9 rfl 2 rfl ?_
    refine g_callV0 (pc1 := 13) (As := [.int p2]) (rest := []) d_Mod_hunger_10 rfl mo_Mod_383 mi_Mod_isDeed mv_Mod_isDeed rfl sh_401 (by decide) (by decide) rfl rfl (Nat.le_of_ble_eq_true rfl) ?_
    obtain ⟨r5, hq4, h⟩ := bnd h
    refine f_Mod_isDeed hld  hq4 ?_
    dsimp only [psh]
    refine g_if_ne (pc1 := 16) (tgt := 18) d_Mod_hunger_13 (by decide) rfl (fun c6 => ?_) (fun c6 => ?_)
    · replace h := itn h c6
      refine g_aload_n (pc1 := 19) d_Mod_hunger_18 rfl 0 rfl ?_
      refine g_callV0 (pc1 := 22) (As := []) (rest := []) d_Mod_hunger_19 rfl mo_Mod_377 mi_Mod_copies mv_Mod_copies rfl sh_401 (by decide) (by decide) rfl rfl (Nat.le_of_ble_eq_true rfl) ?_
      obtain ⟨M8, hq7, h⟩ := bnd h
      refine f_Mod_copies hld  hq7 ?_
      dsimp only [psh]
      refine g_iconst (pc1 := 23) (v := 0) d_Mod_hunger_22 rfl (by decide) ?_
      refine g_istore_n (pc1 := 24) (lv' := [(0, .ref 401), (1, .int p1), (2, .int p2), (3, .int 0)]) d_Mod_hunger_23 rfl rfl (by decide) [1, 2, 3, 0] rfl ?_
      exact h_Mod_hunger_24 hld  hQ  _ 0 M8 h
    · replace h := itp h c6
      refine g_iconst (pc1 := 17) (v := (-1)) d_Mod_hunger_16 rfl (by decide) ?_
      refine g_ireturn (Or.inl rfl) d_Mod_hunger_17 rfl ?_
      cases h; exact hQ

def J_Mod_sure_76 (v2 : Int32) (M : gM) : Option (Int32 × gM) :=
  (if 0 ≤ v2 then some (v2, M) else some ((-2), M))
set_option maxHeartbeats 4000000 in
set_option maxRecDepth 20000 in
theorem j_Mod_sure_76 {l : Launch} {ld : Nat} {Q : Option Value → gM → gL → gR → Prop} (hld : isLa ld)   {q : Int32 × gM} {M : gM} {L : gL} (hQ : Q (some (.int q.1)) q.2 L (rf ld))  {v2 : Int32}  (h : J_Mod_sure_76 v2 M = some q) : Wp l y_Mod_sure (0, 0, 447) 447 0 0 76 [(2, .int v2)] [] M L (rf ld) Q := by
  unfold J_Mod_sure_76 at h
  refine g_iload_n (pc1 := 77) d_Mod_sure_76 rfl 0 rfl ?_
  refine g_if_ge (pc1 := 80) (tgt := 85) d_Mod_sure_77 (by decide) rfl (fun c8 => ?_) (fun c8 => ?_)
  · replace h := itp h c8
    refine g_iload_n (pc1 := 86) d_Mod_sure_85 rfl 0 rfl ?_
    refine g_ireturn (Or.inl rfl) d_Mod_sure_86 rfl ?_
    cases h; exact hQ
  · replace h := itn h c8
    refine g_bipush (pc1 := 82) (v := (-2)) d_Mod_sure_80 rfl (by decide) ?_
    refine g_goto (tgt := 86) d_Mod_sure_82 (by decide) ?_
    refine g_ireturn (Or.inl rfl) d_Mod_sure_86 rfl ?_
    cases h; exact hQ
def J_Mod_sure_70 (K22 : Int32 → Int32 → gM → Option (Int32 × gM)) (v1 : Int32) (v2 : Int32) (v3 : Int32) (M : gM) : Option (Int32 × gM) :=
  nmI (v3 + 1) (fun x15 => K22 v2 x15 M)
set_option maxHeartbeats 4000000 in
set_option maxRecDepth 20000 in
theorem j_Mod_sure_70 {l : Launch} {ld : Nat} {Q : Option Value → gM → gL → gR → Prop} (hld : isLa ld)   {q : Int32 × gM} {M : gM} {L : gL} (hQ : Q (some (.int q.1)) q.2 L (rf ld)) {K22 : Int32 → Int32 → gM → Option (Int32 × gM)} {v1 : Int32} {v2 : Int32} {v3 : Int32} (hK22 : ∀ (w2 : Int32) (w3 : Int32) (M : gM), K22 w2 w3 M = some q → Wp l y_Mod_sure (0, 0, 447) 447 0 0 22 [(0, .ref 401), (1, .int v1), (2, .int w2), (3, .int w3)] [] M L (rf ld) Q) (h : J_Mod_sure_70 K22 v1 v2 v3 M = some q) : Wp l y_Mod_sure (0, 0, 447) 447 0 0 70 [(0, .ref 401), (1, .int v1), (2, .int v2), (3, .int v3)] [] M L (rf ld) Q := by
  unfold J_Mod_sure_70 at h
  obtain ⟨x15, ex15, h⟩ := ltI h
  refine g_iinc (pc1 := 73) (v := x15) (lv' := [(0, .ref 401), (1, .int v1), (2, .int v2), (3, .int x15)]) d_Mod_sure_70 rfl 3 rfl (by rw [ex15]; rfl) (by decide) [1, 2, 3, 0] rfl ?_
  refine g_goto (tgt := 22) d_Mod_sure_73 (by decide) ?_
  exact hK22 v2 x15 M h
def J_Mod_sure_65 (K22 : Int32 → Int32 → gM → Option (Int32 × gM)) (v1 : Int32) (v3 : Int32) (M : gM) : Option (Int32 × gM) :=
  nmI (v3 / 13) (fun x14 => J_Mod_sure_70 K22 v1 x14 v3 M)
set_option maxHeartbeats 4000000 in
set_option maxRecDepth 20000 in
theorem j_Mod_sure_65 {l : Launch} {ld : Nat} {Q : Option Value → gM → gL → gR → Prop} (hld : isLa ld)   {q : Int32 × gM} {M : gM} {L : gL} (hQ : Q (some (.int q.1)) q.2 L (rf ld)) {K22 : Int32 → Int32 → gM → Option (Int32 × gM)} {v1 : Int32} {v3 : Int32} (hK22 : ∀ (w2 : Int32) (w3 : Int32) (M : gM), K22 w2 w3 M = some q → Wp l y_Mod_sure (0, 0, 447) 447 0 0 22 [(0, .ref 401), (1, .int v1), (2, .int w2), (3, .int w3)] [] M L (rf ld) Q) (h : J_Mod_sure_65 K22 v1 v3 M = some q) : Wp l y_Mod_sure (0, 0, 447) 447 0 0 65 [(0, .ref 401), (1, .int v1), (3, .int v3)] [] M L (rf ld) Q := by
  unfold J_Mod_sure_65 at h
  refine g_iload_n (pc1 := 66) d_Mod_sure_65 rfl 2 rfl ?_
  refine g_bipush (pc1 := 68) (v := 13) d_Mod_sure_66 rfl (by decide) ?_
  refine g_idiv (pc1 := 69) d_Mod_sure_68 rfl (by decide) ?_
  refine Wp.lI h (fun x14 h => ?_)
  refine g_istore_n (pc1 := 70) (lv' := [(0, .ref 401), (1, .int v1), (2, .int x14), (3, .int v3)]) d_Mod_sure_69 rfl rfl (by decide) [1, 2, 0, 3] rfl ?_
  exact j_Mod_sure_70 hld  hQ hK22 h
def B_Mod_sure_22 (v1 : Int32) (K22 : Int32 → Int32 → gM → Option (Int32 × gM)) : Int32 → Int32 → gM → Option (Int32 × gM) := fun v2 v3 M =>
  (if ((M 401 18) : Int32) < 0 ∨ 2 ≤ ((M 401 18) : Int32).toNatClampNeg then none else (if (13 * (M 415 ((M 401 18) : Int32).toNatClampNeg)) ≤ v3 then J_Mod_sure_76 v2 M else bI2 (F_Mod_isWay v3 v1 M) (fun r10 M11 => (if r10 = 0 then J_Mod_sure_70 K22 v1 v2 v3 M11 else (if v2 < 0 then J_Mod_sure_65 K22 v1 v3 M11 else (if v2 = (v3 / 13) then J_Mod_sure_65 K22 v1 v3 M11 else some ((-2), M11)))))))
def H_Mod_sure_22 (v1 : Int32) : Nat → Int32 → Int32 → gM → Option (Int32 × gM) := lpK (B_Mod_sure_22 v1) (fun _ _ _ => none)
set_option maxHeartbeats 4000000 in
set_option maxRecDepth 20000 in
theorem h_Mod_sure_22 {l : Launch} {ld : Nat} {Q : Option Value → gM → gL → gR → Prop} (hld : isLa ld)   {q : Int32 × gM} {L : gL} (hQ : Q (some (.int q.1)) q.2 L (rf ld))  {v1 : Int32}  : ∀ (f : Nat) (v2 : Int32) (v3 : Int32) (M : gM), H_Mod_sure_22 v1 f v2 v3 M = some q → Wp l y_Mod_sure (0, 0, 447) 447 0 0 22 [(0, .ref 401), (1, .int v1), (2, .int v2), (3, .int v3)] [] M L (rf ld) Q := by
  intro f
  induction f with
  | zero => intro v2 v3 M h; cases h
  | succ f hK22 =>
    intro v2 v3 M h
    replace h : B_Mod_sure_22 v1 (H_Mod_sure_22 v1 f) v2 v3 M = some q := h
    unfold B_Mod_sure_22 at h
    refine g_iload_n (pc1 := 23) d_Mod_sure_22 rfl 3 rfl ?_
    refine g_bipush (pc1 := 25) (v := 13) d_Mod_sure_23 rfl (by decide) ?_
    refine g_aload_n (pc1 := 26) d_Mod_sure_25 rfl 0 rfl ?_
    refine g_getr (pc1 := 29) d_Mod_sure_26 rfl ⟨_, fo_Mod_58⟩ sh_401 (by decide) (rf_401_27 ld) ?_
    refine g_aload_n (pc1 := 30) d_Mod_sure_29 rfl 0 rfl ?_
    refine g_geti (pc1 := 33) d_Mod_sure_30 rfl ⟨_, fo_Mod_236⟩ sh_401 (by decide) ?_
    obtain ⟨g6, h⟩ := gdn h
    refine g_iald (pc1 := 34) d_Mod_sure_33 rfl sh_415 (by decide) g6 ?_
    refine g_imul (pc1 := 35) d_Mod_sure_34 rfl ?_
    refine g_icmp_ge (pc1 := 38) (tgt := 76) d_Mod_sure_35 (by decide) rfl (fun c7 => ?_) (fun c7 => ?_)
    · replace h := itp h c7
      refine Wp.loc (lv' := [(2, .int v2)]) [2] rfl ?_
      exact j_Mod_sure_76 hld  hQ  h
    · replace h := itn h c7
      refine g_aload_n (pc1 := 39) d_Mod_sure_38 rfl 0 rfl ?_
      refine g_iload_n (pc1 := 40) d_Mod_sure_39 rfl 3 rfl ?_
      refine g_iload_n (pc1 := 41) d_Mod_sure_40 rfl 1 rfl ?_
      refine g_callV0 (pc1 := 44) (As := [.int v3, .int v1]) (rest := []) d_Mod_sure_41 rfl mo_Mod_455 mi_Mod_isWay mv_Mod_isWay rfl sh_401 (by decide) (by decide) rfl rfl (Nat.le_of_ble_eq_true rfl) ?_
      obtain ⟨r10, M11, hq9, h⟩ := bnd2 h
      refine f_Mod_isWay hld  hq9 ?_
      dsimp only [psh]
      refine g_if_ne (pc1 := 47) (tgt := 50) d_Mod_sure_44 (by decide) rfl (fun c12 => ?_) (fun c12 => ?_)
      · replace h := itn h c12
        refine g_iload_n (pc1 := 51) d_Mod_sure_50 rfl 2 rfl ?_
        refine g_if_lt (pc1 := 54) (tgt := 65) d_Mod_sure_51 (by decide) rfl (fun c13 => ?_) (fun c13 => ?_)
        · replace h := itp h c13
          refine Wp.loc (lv' := [(0, .ref 401), (1, .int v1), (3, .int v3)]) [0, 1, 3] rfl ?_
          exact j_Mod_sure_65 hld  hQ hK22 h
        · replace h := itn h c13
          refine g_iload_n (pc1 := 55) d_Mod_sure_54 rfl 2 rfl ?_
          refine g_iload_n (pc1 := 56) d_Mod_sure_55 rfl 3 rfl ?_
          refine g_bipush (pc1 := 58) (v := 13) d_Mod_sure_56 rfl (by decide) ?_
          refine g_idiv (pc1 := 59) d_Mod_sure_58 rfl (by decide) ?_
          refine g_icmp_eq (pc1 := 62) (tgt := 65) d_Mod_sure_59 (by decide) rfl (fun c16 => ?_) (fun c16 => ?_)
          · replace h := itp h c16
            refine Wp.loc (lv' := [(0, .ref 401), (1, .int v1), (3, .int v3)]) [0, 1, 3] rfl ?_
            exact j_Mod_sure_65 hld  hQ hK22 h
          · replace h := itn h c16
            refine g_bipush (pc1 := 64) (v := (-2)) d_Mod_sure_62 rfl (by decide) ?_
            refine g_ireturn (Or.inl rfl) d_Mod_sure_64 rfl ?_
            cases h; exact hQ
      · replace h := itp h c12
        refine g_goto (tgt := 70) d_Mod_sure_47 (by decide) ?_
        exact j_Mod_sure_70 hld  hQ hK22 h
def F_Mod_sure (p1 : Int32) (M : gM) : Option (Int32 × gM) :=
  bI (F_Mod_in p1 0 (M 401 64)) (fun r2 => (if r2 = 0 then some ((-1), M) else bI (F_Mod_copies M) (fun M5 => H_Mod_sure_22 p1 FU (-1) 0 M5)))
set_option maxHeartbeats 4000000 in
set_option maxRecDepth 20000 in
theorem f_Mod_sure {l : Launch} {ld : Nat} {M : gM} {L : gL} {Q : Option Value → gM → gL → gR → Prop} (hld : isLa ld) {p1 : Int32}  {q : Int32 × gM} (h : F_Mod_sure p1 M = some q) (hQ : Q (some (.int q.1)) q.2 L (rf ld)) : Tm l y_Mod_sure (0, 0, 447) 447 [.ref 401, .int p1] M L (rf ld) Q := by
  refine Tm.of (by decide) (Nat.le_of_ble_eq_true rfl) ?_
  show Wp l y_Mod_sure (0, 0, 447) 447 0 0 0 [(0, .ref 401), (1, .int p1)] [] M L (rf ld) Q
  unfold F_Mod_sure at h
  refine g_iload_n (pc1 := 1) d_Mod_sure_0 rfl 1 rfl ?_
  refine g_iconst (pc1 := 2) (v := 0) d_Mod_sure_1 rfl (by decide) ?_
  refine g_aload_n (pc1 := 3) d_Mod_sure_2 rfl 0 rfl ?_
  refine g_geti (pc1 := 6) d_Mod_sure_3 rfl ⟨_, fo_Mod_257⟩ sh_401 (by decide) ?_
  refine g_callS0 (pc1 := 9) (As := [.int p1, .int 0, .int (M 401 64)]) (rest := []) d_Mod_sure_6 rfl mo_Mod_316 ms_Mod_in (by decide) rfl rfl (Nat.le_of_ble_eq_true rfl) ?_
  obtain ⟨r2, hq1, h⟩ := bnd h
  refine f_Mod_in hld  hq1 ?_
  dsimp only [psh]
  refine g_if_ne (pc1 := 12) (tgt := 14) d_Mod_sure_9 (by decide) rfl (fun c3 => ?_) (fun c3 => ?_)
  · replace h := itn h c3
    refine g_aload_n (pc1 := 15) d_Mod_sure_14 rfl 0 rfl ?_
    refine g_callV0 (pc1 := 18) (As := []) (rest := []) d_Mod_sure_15 rfl mo_Mod_377 mi_Mod_copies mv_Mod_copies rfl sh_401 (by decide) (by decide) rfl rfl (Nat.le_of_ble_eq_true rfl) ?_
    obtain ⟨M5, hq4, h⟩ := bnd h
    refine f_Mod_copies hld  hq4 ?_
    dsimp only [psh]
    refine g_iconst (pc1 := 19) (v := (-1)) d_Mod_sure_18 rfl (by decide) ?_
    refine g_istore_n (pc1 := 20) (lv' := [(0, .ref 401), (1, .int p1), (2, .int (-1))]) d_Mod_sure_19 rfl rfl (by decide) [1, 2, 0] rfl ?_
    refine g_iconst (pc1 := 21) (v := 0) d_Mod_sure_20 rfl (by decide) ?_
    refine g_istore_n (pc1 := 22) (lv' := [(0, .ref 401), (1, .int p1), (2, .int (-1)), (3, .int 0)]) d_Mod_sure_21 rfl rfl (by decide) [1, 2, 3, 0] rfl ?_
    exact h_Mod_sure_22 hld  hQ  _ (-1) 0 M5 h
  · replace h := itp h c3
    refine g_iconst (pc1 := 13) (v := (-1)) d_Mod_sure_12 rfl (by decide) ?_
    refine g_ireturn (Or.inl rfl) d_Mod_sure_13 rfl ?_
    cases h; exact hQ

def J_Mod_taste_222 (K142 : Int32 → Int32 → Int32 → Option (Int32 × gM)) (v3 : Int32) (v4 : Int32) (v5 : Int32) (M : gM) : Option (Int32 × gM) :=
  nmI (v5 + 1) (fun x13 => K142 v3 v4 x13)
set_option maxHeartbeats 4000000 in
set_option maxRecDepth 20000 in
theorem j_Mod_taste_222 {l : Launch} {ld : Nat} {Q : Option Value → gM → gL → gR → Prop} (hld : isLa ld)   {q : Int32 × gM} {M : gM} {L : gL} (hQ : Q (some (.int q.1)) q.2 L (rf ld)) {K142 : Int32 → Int32 → Int32 → Option (Int32 × gM)} {v3 : Int32} {v4 : Int32} {v5 : Int32} (hK142 : ∀ (w3 : Int32) (w4 : Int32) (w5 : Int32), K142 w3 w4 w5 = some q → Wp l y_Mod_taste (0, 0, 447) 447 0 0 142 [(0, .ref 401), (3, .int w3), (4, .int w4), (5, .int w5)] [] M L (rf ld) Q) (h : J_Mod_taste_222 K142 v3 v4 v5 M = some q) : Wp l y_Mod_taste (0, 0, 447) 447 0 0 222 [(0, .ref 401), (3, .int v3), (4, .int v4), (5, .int v5)] [] M L (rf ld) Q := by
  unfold J_Mod_taste_222 at h
  obtain ⟨x13, ex13, h⟩ := ltI h
  refine g_iinc (pc1 := 225) (v := x13) (lv' := [(0, .ref 401), (3, .int v3), (4, .int v4), (5, .int x13)]) d_Mod_taste_222 rfl 3 rfl (by rw [ex13]; rfl) (by decide) [1, 2, 3, 0] rfl ?_
  refine g_goto (tgt := 142) d_Mod_taste_225 (by decide) ?_
  exact hK142 v3 v4 x13 h
def J_Mod_taste_215 (K142 : Int32 → Int32 → Int32 → Option (Int32 × gM)) (v5 : Int32) (v6 : Int32) (M : gM) : Option (Int32 × gM) :=
  J_Mod_taste_222 K142 v5 v6 v5 M
set_option maxHeartbeats 4000000 in
set_option maxRecDepth 20000 in
theorem j_Mod_taste_215 {l : Launch} {ld : Nat} {Q : Option Value → gM → gL → gR → Prop} (hld : isLa ld)   {q : Int32 × gM} {M : gM} {L : gL} (hQ : Q (some (.int q.1)) q.2 L (rf ld)) {K142 : Int32 → Int32 → Int32 → Option (Int32 × gM)} {v5 : Int32} {v6 : Int32} (hK142 : ∀ (w3 : Int32) (w4 : Int32) (w5 : Int32), K142 w3 w4 w5 = some q → Wp l y_Mod_taste (0, 0, 447) 447 0 0 142 [(0, .ref 401), (3, .int w3), (4, .int w4), (5, .int w5)] [] M L (rf ld) Q) (h : J_Mod_taste_215 K142 v5 v6 M = some q) : Wp l y_Mod_taste (0, 0, 447) 447 0 0 215 [(0, .ref 401), (5, .int v5), (6, .int v6)] [] M L (rf ld) Q := by
  unfold J_Mod_taste_215 at h
  refine g_iload (pc1 := 217) d_Mod_taste_215 rfl 1 rfl ?_
  refine g_istore_n (pc1 := 218) (lv' := [(0, .ref 401), (3, .int v5), (5, .int v5), (6, .int v6)]) d_Mod_taste_217 rfl rfl (by decide) [1, 0, 2, 3] rfl ?_
  refine g_iload (pc1 := 220) d_Mod_taste_218 rfl 3 rfl ?_
  refine g_istore (pc1 := 222) (lv' := [(0, .ref 401), (3, .int v5), (4, .int v6), (5, .int v5), (6, .int v6)]) d_Mod_taste_220 rfl (by decide) [1, 2, 0, 3, 4] rfl ?_
  refine Wp.loc (lv' := [(0, .ref 401), (3, .int v5), (4, .int v6), (5, .int v5)]) [0, 1, 2, 3] rfl ?_
  exact j_Mod_taste_222 hld  hQ hK142 h
def J_Mod_taste_201 (K142 : Int32 → Int32 → Int32 → Option (Int32 × gM)) (v3 : Int32) (v4 : Int32) (v5 : Int32) (v6 : Int32) (M : gM) : Option (Int32 × gM) :=
  (if v3 < 0 then J_Mod_taste_215 K142 v5 v6 M else (if v6 < v4 then J_Mod_taste_215 K142 v5 v6 M else J_Mod_taste_222 K142 v3 v4 v5 M))
set_option maxHeartbeats 4000000 in
set_option maxRecDepth 20000 in
theorem j_Mod_taste_201 {l : Launch} {ld : Nat} {Q : Option Value → gM → gL → gR → Prop} (hld : isLa ld)   {q : Int32 × gM} {M : gM} {L : gL} (hQ : Q (some (.int q.1)) q.2 L (rf ld)) {K142 : Int32 → Int32 → Int32 → Option (Int32 × gM)} {v3 : Int32} {v4 : Int32} {v5 : Int32} {v6 : Int32} (hK142 : ∀ (w3 : Int32) (w4 : Int32) (w5 : Int32), K142 w3 w4 w5 = some q → Wp l y_Mod_taste (0, 0, 447) 447 0 0 142 [(0, .ref 401), (3, .int w3), (4, .int w4), (5, .int w5)] [] M L (rf ld) Q) (h : J_Mod_taste_201 K142 v3 v4 v5 v6 M = some q) : Wp l y_Mod_taste (0, 0, 447) 447 0 0 201 [(0, .ref 401), (3, .int v3), (4, .int v4), (5, .int v5), (6, .int v6)] [] M L (rf ld) Q := by
  unfold J_Mod_taste_201 at h
  refine g_iload_n (pc1 := 202) d_Mod_taste_201 rfl 1 rfl ?_
  refine g_if_lt (pc1 := 205) (tgt := 215) d_Mod_taste_202 (by decide) rfl (fun c12 => ?_) (fun c12 => ?_)
  · replace h := itp h c12
    refine Wp.loc (lv' := [(0, .ref 401), (5, .int v5), (6, .int v6)]) [0, 3, 4] rfl ?_
    exact j_Mod_taste_215 hld  hQ hK142 h
  · replace h := itn h c12
    refine g_iload (pc1 := 207) d_Mod_taste_205 rfl 4 rfl ?_
    refine g_iload (pc1 := 209) d_Mod_taste_207 rfl 2 rfl ?_
    refine g_icmp_lt (pc1 := 212) (tgt := 215) d_Mod_taste_209 (by decide) rfl (fun c14 => ?_) (fun c14 => ?_)
    · replace h := itp h c14
      refine Wp.loc (lv' := [(0, .ref 401), (5, .int v5), (6, .int v6)]) [0, 3, 4] rfl ?_
      exact j_Mod_taste_215 hld  hQ hK142 h
    · replace h := itn h c14
      refine g_goto (tgt := 222) d_Mod_taste_212 (by decide) ?_
      refine Wp.loc (lv' := [(0, .ref 401), (3, .int v3), (4, .int v4), (5, .int v5)]) [0, 1, 2, 3] rfl ?_
      exact j_Mod_taste_222 hld  hQ hK142 h
def J_Mod_taste_195 (K142 : Int32 → Int32 → Int32 → Option (Int32 × gM)) (K155 : Int32 → Int32 → Option (Int32 × gM)) (v3 : Int32) (v4 : Int32) (v5 : Int32) (v6 : Int32) (v7 : Int32) (M : gM) : Option (Int32 × gM) :=
  nmI (v7 + 1) (fun x17 => K155 v6 x17)
set_option maxHeartbeats 4000000 in
set_option maxRecDepth 20000 in
theorem j_Mod_taste_195 {l : Launch} {ld : Nat} {Q : Option Value → gM → gL → gR → Prop} (hld : isLa ld)   {q : Int32 × gM} {M : gM} {L : gL} (hQ : Q (some (.int q.1)) q.2 L (rf ld)) {K142 : Int32 → Int32 → Int32 → Option (Int32 × gM)} {K155 : Int32 → Int32 → Option (Int32 × gM)} {v3 : Int32} {v4 : Int32} {v5 : Int32} {v6 : Int32} {v7 : Int32} (hK142 : ∀ (w3 : Int32) (w4 : Int32) (w5 : Int32), K142 w3 w4 w5 = some q → Wp l y_Mod_taste (0, 0, 447) 447 0 0 142 [(0, .ref 401), (3, .int w3), (4, .int w4), (5, .int w5)] [] M L (rf ld) Q) (hK155 : ∀ (w6 : Int32) (w7 : Int32), K155 w6 w7 = some q → Wp l y_Mod_taste (0, 0, 447) 447 0 0 155 [(0, .ref 401), (3, .int v3), (4, .int v4), (5, .int v5), (6, .int w6), (7, .int w7)] [] M L (rf ld) Q) (h : J_Mod_taste_195 K142 K155 v3 v4 v5 v6 v7 M = some q) : Wp l y_Mod_taste (0, 0, 447) 447 0 0 195 [(0, .ref 401), (3, .int v3), (4, .int v4), (5, .int v5), (6, .int v6), (7, .int v7)] [] M L (rf ld) Q := by
  unfold J_Mod_taste_195 at h
  obtain ⟨x17, ex17, h⟩ := ltI h
  refine g_iinc (pc1 := 198) (v := x17) (lv' := [(0, .ref 401), (3, .int v3), (4, .int v4), (5, .int v5), (6, .int v6), (7, .int x17)]) d_Mod_taste_195 rfl 5 rfl (by rw [ex17]; rfl) (by decide) [1, 2, 3, 4, 5, 0] rfl ?_
  refine g_goto (tgt := 155) d_Mod_taste_198 (by decide) ?_
  exact hK155 v6 x17 h
def B_Mod_taste_155 (K142 : Int32 → Int32 → Int32 → Option (Int32 × gM)) (v3 : Int32) (v4 : Int32) (v5 : Int32) (M : gM) (K155 : Int32 → Int32 → Option (Int32 × gM)) : Int32 → Int32 → Option (Int32 × gM) := fun v6 v7 =>
  (if 100 ≤ v7 then J_Mod_taste_201 K142 v3 v4 v5 v6 M else (if (((100 * v5) + v7) : Int32) < 0 ∨ 3000 ≤ (((100 * v5) + v7) : Int32).toNatClampNeg then none else (if (M 444 (((100 * v5) + v7) : Int32).toNatClampNeg) ≤ v6 then J_Mod_taste_195 K142 K155 v3 v4 v5 v6 v7 M else (if (((100 * v5) + v7) : Int32) < 0 ∨ 3000 ≤ (((100 * v5) + v7) : Int32).toNatClampNeg then none else nmI (M 444 (((100 * v5) + v7) : Int32).toNatClampNeg) (fun x19 => J_Mod_taste_195 K142 K155 v3 v4 v5 x19 v7 M)))))
def H_Mod_taste_155 (K142 : Int32 → Int32 → Int32 → Option (Int32 × gM)) (v3 : Int32) (v4 : Int32) (v5 : Int32) (M : gM) : Nat → Int32 → Int32 → Option (Int32 × gM) := lpK (B_Mod_taste_155 K142 v3 v4 v5 M) (fun _ _ => none)
set_option maxHeartbeats 4000000 in
set_option maxRecDepth 20000 in
theorem h_Mod_taste_155 {l : Launch} {ld : Nat} {Q : Option Value → gM → gL → gR → Prop} (hld : isLa ld)   {q : Int32 × gM} {M : gM} {L : gL} (hQ : Q (some (.int q.1)) q.2 L (rf ld)) {K142 : Int32 → Int32 → Int32 → Option (Int32 × gM)} {v3 : Int32} {v4 : Int32} {v5 : Int32} (hK142 : ∀ (w3 : Int32) (w4 : Int32) (w5 : Int32), K142 w3 w4 w5 = some q → Wp l y_Mod_taste (0, 0, 447) 447 0 0 142 [(0, .ref 401), (3, .int w3), (4, .int w4), (5, .int w5)] [] M L (rf ld) Q) : ∀ (f : Nat) (v6 : Int32) (v7 : Int32), H_Mod_taste_155 K142 v3 v4 v5 M f v6 v7 = some q → Wp l y_Mod_taste (0, 0, 447) 447 0 0 155 [(0, .ref 401), (3, .int v3), (4, .int v4), (5, .int v5), (6, .int v6), (7, .int v7)] [] M L (rf ld) Q := by
  intro f
  induction f with
  | zero => intro v6 v7 h; cases h
  | succ f hK155 =>
    intro v6 v7 h
    replace h : B_Mod_taste_155 K142 v3 v4 v5 M (H_Mod_taste_155 K142 v3 v4 v5 M f) v6 v7 = some q := h
    unfold B_Mod_taste_155 at h
    refine g_iload (pc1 := 157) d_Mod_taste_155 rfl 5 rfl ?_
    refine g_bipush (pc1 := 159) (v := 100) d_Mod_taste_157 rfl (by decide) ?_
    refine g_icmp_ge (pc1 := 162) (tgt := 201) d_Mod_taste_159 (by decide) rfl (fun c11 => ?_) (fun c11 => ?_)
    · replace h := itp h c11
      refine Wp.loc (lv' := [(0, .ref 401), (3, .int v3), (4, .int v4), (5, .int v5), (6, .int v6)]) [0, 1, 2, 3, 4] rfl ?_
      exact j_Mod_taste_201 hld  hQ hK142 h
    · replace h := itn h c11
      refine g_aload_n (pc1 := 163) d_Mod_taste_162 rfl 0 rfl ?_
      refine g_getr (pc1 := 166) d_Mod_taste_163 rfl ⟨_, fo_Mod_146⟩ sh_401 (by decide) (rf_401_68 ld) ?_
      refine g_bipush (pc1 := 168) (v := 100) d_Mod_taste_166 rfl (by decide) ?_
      refine g_iload (pc1 := 170) d_Mod_taste_168 rfl 3 rfl ?_
      refine g_imul (pc1 := 171) d_Mod_taste_170 rfl ?_
      refine g_iload (pc1 := 173) d_Mod_taste_171 rfl 5 rfl ?_
      refine g_iadd (pc1 := 174) d_Mod_taste_173 rfl ?_
      obtain ⟨g15, h⟩ := gdn h
      refine g_iald (pc1 := 175) d_Mod_taste_174 rfl sh_444 (by decide) g15 ?_
      refine g_iload (pc1 := 177) d_Mod_taste_175 rfl 4 rfl ?_
      refine g_icmp_le (pc1 := 180) (tgt := 195) d_Mod_taste_177 (by decide) rfl (fun c16 => ?_) (fun c16 => ?_)
      · replace h := itp h c16
        exact j_Mod_taste_195 hld  hQ hK142 hK155 h
      · replace h := itn h c16
        refine g_aload_n (pc1 := 181) d_Mod_taste_180 rfl 0 rfl ?_
        refine g_getr (pc1 := 184) d_Mod_taste_181 rfl ⟨_, fo_Mod_146⟩ sh_401 (by decide) (rf_401_68 ld) ?_
        refine g_bipush (pc1 := 186) (v := 100) d_Mod_taste_184 rfl (by decide) ?_
        refine g_iload (pc1 := 188) d_Mod_taste_186 rfl 3 rfl ?_
        refine g_imul (pc1 := 189) d_Mod_taste_188 rfl ?_
        refine g_iload (pc1 := 191) d_Mod_taste_189 rfl 5 rfl ?_
        refine g_iadd (pc1 := 192) d_Mod_taste_191 rfl ?_
        obtain ⟨g18, h⟩ := gdn h
        refine g_iald (pc1 := 193) d_Mod_taste_192 rfl sh_444 (by decide) g18 ?_
        refine Wp.lI h (fun x19 h => ?_)
        refine g_istore (pc1 := 195) (lv' := [(0, .ref 401), (3, .int v3), (4, .int v4), (5, .int v5), (6, .int x19), (7, .int v7)]) d_Mod_taste_193 rfl (by decide) [1, 2, 3, 4, 0, 5] rfl ?_
        exact j_Mod_taste_195 hld  hQ hK142 hK155 h
def B_Mod_taste_142 (M : gM) (K142 : Int32 → Int32 → Int32 → Option (Int32 × gM)) : Int32 → Int32 → Int32 → Option (Int32 × gM) := fun v3 v4 v5 =>
  (if 30 ≤ v5 then some (v3, M) else H_Mod_taste_155 K142 v3 v4 v5 M FU 0 0)
def H_Mod_taste_142 (M : gM) : Nat → Int32 → Int32 → Int32 → Option (Int32 × gM) := lpK (B_Mod_taste_142 M) (fun _ _ _ => none)
set_option maxHeartbeats 4000000 in
set_option maxRecDepth 20000 in
theorem h_Mod_taste_142 {l : Launch} {ld : Nat} {Q : Option Value → gM → gL → gR → Prop} (hld : isLa ld)   {q : Int32 × gM} {M : gM} {L : gL} (hQ : Q (some (.int q.1)) q.2 L (rf ld))    : ∀ (f : Nat) (v3 : Int32) (v4 : Int32) (v5 : Int32), H_Mod_taste_142 M f v3 v4 v5 = some q → Wp l y_Mod_taste (0, 0, 447) 447 0 0 142 [(0, .ref 401), (3, .int v3), (4, .int v4), (5, .int v5)] [] M L (rf ld) Q := by
  intro f
  induction f with
  | zero => intro v3 v4 v5 h; cases h
  | succ f hK142 =>
    intro v3 v4 v5 h
    replace h : B_Mod_taste_142 M (H_Mod_taste_142 M f) v3 v4 v5 = some q := h
    unfold B_Mod_taste_142 at h
    refine g_iload (pc1 := 144) d_Mod_taste_142 rfl 3 rfl ?_
    refine g_bipush (pc1 := 146) (v := 30) d_Mod_taste_144 rfl (by decide) ?_
    refine g_icmp_ge (pc1 := 149) (tgt := 228) d_Mod_taste_146 (by decide) rfl (fun c10 => ?_) (fun c10 => ?_)
    · replace h := itp h c10
      refine g_iload_n (pc1 := 229) d_Mod_taste_228 rfl 1 rfl ?_
      refine g_ireturn (Or.inl rfl) d_Mod_taste_229 rfl ?_
      cases h; exact hQ
    · replace h := itn h c10
      refine g_iconst (pc1 := 150) (v := 0) d_Mod_taste_149 rfl (by decide) ?_
      refine g_istore (pc1 := 152) (lv' := [(0, .ref 401), (3, .int v3), (4, .int v4), (5, .int v5), (6, .int 0)]) d_Mod_taste_150 rfl (by decide) [1, 2, 3, 4, 0] rfl ?_
      refine g_iconst (pc1 := 153) (v := 0) d_Mod_taste_152 rfl (by decide) ?_
      refine g_istore (pc1 := 155) (lv' := [(0, .ref 401), (3, .int v3), (4, .int v4), (5, .int v5), (6, .int 0), (7, .int 0)]) d_Mod_taste_153 rfl (by decide) [1, 2, 3, 4, 5, 0] rfl ?_
      exact h_Mod_taste_155 hld  hQ hK142 _ 0 0 h
def J_Mod_taste_126 (v2 : Int32) (M : gM) : Option (Int32 × gM) :=
  (if v2 = 0 then some ((-2), M) else H_Mod_taste_142 M FU (-2) 0 0)
set_option maxHeartbeats 4000000 in
set_option maxRecDepth 20000 in
theorem j_Mod_taste_126 {l : Launch} {ld : Nat} {Q : Option Value → gM → gL → gR → Prop} (hld : isLa ld)   {q : Int32 × gM} {M : gM} {L : gL} (hQ : Q (some (.int q.1)) q.2 L (rf ld))  {v2 : Int32}  (h : J_Mod_taste_126 v2 M = some q) : Wp l y_Mod_taste (0, 0, 447) 447 0 0 126 [(0, .ref 401), (2, .int v2)] [] M L (rf ld) Q := by
  unfold J_Mod_taste_126 at h
  refine g_iload_n (pc1 := 127) d_Mod_taste_126 rfl 1 rfl ?_
  refine g_if_ne (pc1 := 130) (tgt := 133) d_Mod_taste_127 (by decide) rfl (fun c9 => ?_) (fun c9 => ?_)
  · replace h := itn h c9
    refine g_bipush (pc1 := 135) (v := (-2)) d_Mod_taste_133 rfl (by decide) ?_
    refine g_istore_n (pc1 := 136) (lv' := [(0, .ref 401), (2, .int v2), (3, .int (-2))]) d_Mod_taste_135 rfl rfl (by decide) [1, 2, 0] rfl ?_
    refine g_iconst (pc1 := 137) (v := 0) d_Mod_taste_136 rfl (by decide) ?_
    refine g_istore (pc1 := 139) (lv' := [(0, .ref 401), (2, .int v2), (3, .int (-2)), (4, .int 0)]) d_Mod_taste_137 rfl (by decide) [1, 2, 3, 0] rfl ?_
    refine g_iconst (pc1 := 140) (v := 0) d_Mod_taste_139 rfl (by decide) ?_
    refine g_istore (pc1 := 142) (lv' := [(0, .ref 401), (2, .int v2), (3, .int (-2)), (4, .int 0), (5, .int 0)]) d_Mod_taste_140 rfl (by decide) [1, 2, 3, 4, 0] rfl ?_
    refine Wp.loc (lv' := [(0, .ref 401), (3, .int (-2)), (4, .int 0), (5, .int 0)]) [0, 2, 3, 4] rfl ?_
    exact h_Mod_taste_142 hld  hQ  _ (-2) 0 0 h
  · replace h := itp h c9
    refine g_bipush (pc1 := 132) (v := (-2)) d_Mod_taste_130 rfl (by decide) ?_
    refine g_ireturn (Or.inl rfl) d_Mod_taste_132 rfl ?_
    cases h; exact hQ
def J_Mod_taste_120 (K44 : Int32 → Int32 → gM → Option (Int32 × gM)) (v1 : Int32) (v2 : Int32) (v3 : Int32) (M : gM) : Option (Int32 × gM) :=
  nmI (v3 + 1) (fun x26 => K44 v2 x26 M)
set_option maxHeartbeats 4000000 in
set_option maxRecDepth 20000 in
theorem j_Mod_taste_120 {l : Launch} {ld : Nat} {Q : Option Value → gM → gL → gR → Prop} (hld : isLa ld)   {q : Int32 × gM} {M : gM} {L : gL} (hQ : Q (some (.int q.1)) q.2 L (rf ld)) {K44 : Int32 → Int32 → gM → Option (Int32 × gM)} {v1 : Int32} {v2 : Int32} {v3 : Int32} (hK44 : ∀ (w2 : Int32) (w3 : Int32) (M : gM), K44 w2 w3 M = some q → Wp l y_Mod_taste (0, 0, 447) 447 0 0 44 [(0, .ref 401), (1, .int v1), (2, .int w2), (3, .int w3)] [] M L (rf ld) Q) (h : J_Mod_taste_120 K44 v1 v2 v3 M = some q) : Wp l y_Mod_taste (0, 0, 447) 447 0 0 120 [(0, .ref 401), (1, .int v1), (2, .int v2), (3, .int v3)] [] M L (rf ld) Q := by
  unfold J_Mod_taste_120 at h
  obtain ⟨x26, ex26, h⟩ := ltI h
  refine g_iinc (pc1 := 123) (v := x26) (lv' := [(0, .ref 401), (1, .int v1), (2, .int v2), (3, .int x26)]) d_Mod_taste_120 rfl 3 rfl (by rw [ex26]; rfl) (by decide) [1, 2, 3, 0] rfl ?_
  refine g_goto (tgt := 44) d_Mod_taste_123 (by decide) ?_
  exact hK44 v2 x26 M h
def B_Mod_taste_78 (K44 : Int32 → Int32 → gM → Option (Int32 × gM)) (v1 : Int32) (v2 : Int32) (v3 : Int32) (K78 : Int32 → gM → Option (Int32 × gM)) : Int32 → gM → Option (Int32 × gM) := fun v4 M =>
  (if 30 ≤ v4 then J_Mod_taste_120 K44 v1 v2 v3 M else bI2 (F_Mod_forceBy (v4 / 10) (v4 - v4 / 10 * 10) M) (fun r28 M29 => (if (((100 * v4) + r28) : Int32) < 0 ∨ 3000 ≤ (((100 * v4) + r28) : Int32).toNatClampNeg then none else (if (((100 * v4) + r28) : Int32) < 0 ∨ 3000 ≤ (((100 * v4) + r28) : Int32).toNatClampNeg then none else nmM (uM M29 444 (((100 * v4) + r28) : Int32).toNatClampNeg ((M29 444 (((100 * v4) + r28) : Int32).toNatClampNeg) + 1)) (fun M32 => nmI (v4 + 1) (fun x33 => K78 x33 M32))))))
def H_Mod_taste_78 (K44 : Int32 → Int32 → gM → Option (Int32 × gM)) (v1 : Int32) (v2 : Int32) (v3 : Int32) : Nat → Int32 → gM → Option (Int32 × gM) := lpK (B_Mod_taste_78 K44 v1 v2 v3) (fun _ _ => none)
set_option maxHeartbeats 4000000 in
set_option maxRecDepth 20000 in
theorem h_Mod_taste_78 {l : Launch} {ld : Nat} {Q : Option Value → gM → gL → gR → Prop} (hld : isLa ld)   {q : Int32 × gM} {L : gL} (hQ : Q (some (.int q.1)) q.2 L (rf ld)) {K44 : Int32 → Int32 → gM → Option (Int32 × gM)} {v1 : Int32} {v2 : Int32} {v3 : Int32} (hK44 : ∀ (w2 : Int32) (w3 : Int32) (M : gM), K44 w2 w3 M = some q → Wp l y_Mod_taste (0, 0, 447) 447 0 0 44 [(0, .ref 401), (1, .int v1), (2, .int w2), (3, .int w3)] [] M L (rf ld) Q) : ∀ (f : Nat) (v4 : Int32) (M : gM), H_Mod_taste_78 K44 v1 v2 v3 f v4 M = some q → Wp l y_Mod_taste (0, 0, 447) 447 0 0 78 [(0, .ref 401), (1, .int v1), (2, .int v2), (3, .int v3), (4, .int v4)] [] M L (rf ld) Q := by
  intro f
  induction f with
  | zero => intro v4 M h; cases h
  | succ f hK78 =>
    intro v4 M h
    replace h : B_Mod_taste_78 K44 v1 v2 v3 (H_Mod_taste_78 K44 v1 v2 v3 f) v4 M = some q := h
    unfold B_Mod_taste_78 at h
    refine g_iload (pc1 := 80) d_Mod_taste_78 rfl 4 rfl ?_
    refine g_bipush (pc1 := 82) (v := 30) d_Mod_taste_80 rfl (by decide) ?_
    refine g_icmp_ge (pc1 := 85) (tgt := 120) d_Mod_taste_82 (by decide) rfl (fun c25 => ?_) (fun c25 => ?_)
    · replace h := itp h c25
      refine Wp.loc (lv' := [(0, .ref 401), (1, .int v1), (2, .int v2), (3, .int v3)]) [0, 1, 2, 3] rfl ?_
      exact j_Mod_taste_120 hld  hQ hK44 h
    · replace h := itn h c25
      refine g_aload_n (pc1 := 86) d_Mod_taste_85 rfl 0 rfl ?_
      refine g_getr (pc1 := 89) d_Mod_taste_86 rfl ⟨_, fo_Mod_146⟩ sh_401 (by decide) (rf_401_68 ld) ?_
      refine g_bipush (pc1 := 91) (v := 100) d_Mod_taste_89 rfl (by decide) ?_
      refine g_iload (pc1 := 93) d_Mod_taste_91 rfl 4 rfl ?_
      refine g_imul (pc1 := 94) d_Mod_taste_93 rfl ?_
      refine g_aload_n (pc1 := 95) d_Mod_taste_94 rfl 0 rfl ?_
      refine g_iload (pc1 := 97) d_Mod_taste_95 rfl 4 rfl ?_
      refine g_bipush (pc1 := 99) (v := 10) d_Mod_taste_97 rfl (by decide) ?_
      refine g_idiv (pc1 := 100) d_Mod_taste_99 rfl (by decide) ?_
      refine g_iload (pc1 := 102) d_Mod_taste_100 rfl 4 rfl ?_
      refine g_bipush (pc1 := 104) (v := 10) d_Mod_taste_102 rfl (by decide) ?_
      refine g_irem (pc1 := 105) d_Mod_taste_104 rfl (by decide) ?_
      refine g_callV0 (pc1 := 108) (As := [.int (v4 / 10), .int (v4 - v4 / 10 * 10)]) (rest := [.int (100 * v4), .ref 444]) d_Mod_taste_105 rfl mo_Mod_359 mi_Mod_forceBy mv_Mod_forceBy rfl sh_401 (by decide) (by decide) rfl rfl (Nat.le_of_ble_eq_true rfl) ?_
      obtain ⟨r28, M29, hq27, h⟩ := bnd2 h
      refine f_Mod_forceBy hld  hq27 ?_
      dsimp only [psh]
      refine g_iadd (pc1 := 109) d_Mod_taste_108 rfl ?_
      refine g_dup2 (pc1 := 110) d_Mod_taste_109 rfl rfl rfl ?_
      obtain ⟨g30, h⟩ := gdn h
      refine g_iald (pc1 := 111) d_Mod_taste_110 rfl sh_444 (by decide) g30 ?_
      refine g_iconst (pc1 := 112) (v := 1) d_Mod_taste_111 rfl (by decide) ?_
      refine g_iadd (pc1 := 113) d_Mod_taste_112 rfl ?_
      obtain ⟨g31, h⟩ := gdn h
      refine g_iast (pc1 := 114) d_Mod_taste_113 rfl sh_444 (by decide) g31 ?_
      refine Wp.lM h (fun M32 h => ?_)
      obtain ⟨x33, ex33, h⟩ := ltI h
      refine g_iinc (pc1 := 117) (v := x33) (lv' := [(0, .ref 401), (1, .int v1), (2, .int v2), (3, .int v3), (4, .int x33)]) d_Mod_taste_114 rfl 4 rfl (by rw [ex33]; rfl) (by decide) [1, 2, 3, 4, 0] rfl ?_
      refine g_goto (tgt := 78) d_Mod_taste_117 (by decide) ?_
      exact hK78 x33 M32 h
def B_Mod_taste_44 (v1 : Int32) (K44 : Int32 → Int32 → gM → Option (Int32 × gM)) : Int32 → Int32 → gM → Option (Int32 × gM) := fun v2 v3 M =>
  (if ((M 401 18) : Int32) < 0 ∨ 2 ≤ ((M 401 18) : Int32).toNatClampNeg then none else (if (13 * (M 415 ((M 401 18) : Int32).toNatClampNeg)) ≤ v3 then J_Mod_taste_126 v2 M else bI2 (F_Mod_isWay v3 v1 M) (fun r21 M22 => (if r21 = 0 then J_Mod_taste_120 K44 v1 v2 v3 M22 else nmI (v2 + 1) (fun x24 => H_Mod_taste_78 K44 v1 x24 v3 FU 0 M22)))))
def H_Mod_taste_44 (v1 : Int32) : Nat → Int32 → Int32 → gM → Option (Int32 × gM) := lpK (B_Mod_taste_44 v1) (fun _ _ _ => none)
set_option maxHeartbeats 4000000 in
set_option maxRecDepth 20000 in
theorem h_Mod_taste_44 {l : Launch} {ld : Nat} {Q : Option Value → gM → gL → gR → Prop} (hld : isLa ld)   {q : Int32 × gM} {L : gL} (hQ : Q (some (.int q.1)) q.2 L (rf ld))  {v1 : Int32}  : ∀ (f : Nat) (v2 : Int32) (v3 : Int32) (M : gM), H_Mod_taste_44 v1 f v2 v3 M = some q → Wp l y_Mod_taste (0, 0, 447) 447 0 0 44 [(0, .ref 401), (1, .int v1), (2, .int v2), (3, .int v3)] [] M L (rf ld) Q := by
  intro f
  induction f with
  | zero => intro v2 v3 M h; cases h
  | succ f hK44 =>
    intro v2 v3 M h
    replace h : B_Mod_taste_44 v1 (H_Mod_taste_44 v1 f) v2 v3 M = some q := h
    unfold B_Mod_taste_44 at h
    refine g_iload_n (pc1 := 45) d_Mod_taste_44 rfl 3 rfl ?_
    refine g_bipush (pc1 := 47) (v := 13) d_Mod_taste_45 rfl (by decide) ?_
    refine g_aload_n (pc1 := 48) d_Mod_taste_47 rfl 0 rfl ?_
    refine g_getr (pc1 := 51) d_Mod_taste_48 rfl ⟨_, fo_Mod_58⟩ sh_401 (by decide) (rf_401_27 ld) ?_
    refine g_aload_n (pc1 := 52) d_Mod_taste_51 rfl 0 rfl ?_
    refine g_geti (pc1 := 55) d_Mod_taste_52 rfl ⟨_, fo_Mod_236⟩ sh_401 (by decide) ?_
    obtain ⟨g7, h⟩ := gdn h
    refine g_iald (pc1 := 56) d_Mod_taste_55 rfl sh_415 (by decide) g7 ?_
    refine g_imul (pc1 := 57) d_Mod_taste_56 rfl ?_
    refine g_icmp_ge (pc1 := 60) (tgt := 126) d_Mod_taste_57 (by decide) rfl (fun c8 => ?_) (fun c8 => ?_)
    · replace h := itp h c8
      refine Wp.loc (lv' := [(0, .ref 401), (2, .int v2)]) [0, 2] rfl ?_
      exact j_Mod_taste_126 hld  hQ  h
    · replace h := itn h c8
      refine g_aload_n (pc1 := 61) d_Mod_taste_60 rfl 0 rfl ?_
      refine g_iload_n (pc1 := 62) d_Mod_taste_61 rfl 3 rfl ?_
      refine g_iload_n (pc1 := 63) d_Mod_taste_62 rfl 1 rfl ?_
      refine g_callV0 (pc1 := 66) (As := [.int v3, .int v1]) (rest := []) d_Mod_taste_63 rfl mo_Mod_455 mi_Mod_isWay mv_Mod_isWay rfl sh_401 (by decide) (by decide) rfl rfl (Nat.le_of_ble_eq_true rfl) ?_
      obtain ⟨r21, M22, hq20, h⟩ := bnd2 h
      refine f_Mod_isWay hld  hq20 ?_
      dsimp only [psh]
      refine g_if_ne (pc1 := 69) (tgt := 72) d_Mod_taste_66 (by decide) rfl (fun c23 => ?_) (fun c23 => ?_)
      · replace h := itn h c23
        obtain ⟨x24, ex24, h⟩ := ltI h
        refine g_iinc (pc1 := 75) (v := x24) (lv' := [(0, .ref 401), (1, .int v1), (2, .int x24), (3, .int v3)]) d_Mod_taste_72 rfl 2 rfl (by rw [ex24]; rfl) (by decide) [1, 2, 0, 3] rfl ?_
        refine g_iconst (pc1 := 76) (v := 0) d_Mod_taste_75 rfl (by decide) ?_
        refine g_istore (pc1 := 78) (lv' := [(0, .ref 401), (1, .int v1), (2, .int x24), (3, .int v3), (4, .int 0)]) d_Mod_taste_76 rfl (by decide) [1, 2, 3, 4, 0] rfl ?_
        exact h_Mod_taste_78 hld  hQ hK44 _ 0 M22 h
      · replace h := itp h c23
        refine g_goto (tgt := 120) d_Mod_taste_69 (by decide) ?_
        exact j_Mod_taste_120 hld  hQ hK44 h
def J_Mod_taste_40 (v1 : Int32) (M : gM) : Option (Int32 × gM) :=
  H_Mod_taste_44 v1 FU 0 0 M
set_option maxHeartbeats 4000000 in
set_option maxRecDepth 20000 in
theorem j_Mod_taste_40 {l : Launch} {ld : Nat} {Q : Option Value → gM → gL → gR → Prop} (hld : isLa ld)   {q : Int32 × gM} {M : gM} {L : gL} (hQ : Q (some (.int q.1)) q.2 L (rf ld))  {v1 : Int32}  (h : J_Mod_taste_40 v1 M = some q) : Wp l y_Mod_taste (0, 0, 447) 447 0 0 40 [(0, .ref 401), (1, .int v1)] [] M L (rf ld) Q := by
  unfold J_Mod_taste_40 at h
  refine g_iconst (pc1 := 41) (v := 0) d_Mod_taste_40 rfl (by decide) ?_
  refine g_istore_n (pc1 := 42) (lv' := [(0, .ref 401), (1, .int v1), (2, .int 0)]) d_Mod_taste_41 rfl rfl (by decide) [1, 2, 0] rfl ?_
  refine g_iconst (pc1 := 43) (v := 0) d_Mod_taste_42 rfl (by decide) ?_
  refine g_istore_n (pc1 := 44) (lv' := [(0, .ref 401), (1, .int v1), (2, .int 0), (3, .int 0)]) d_Mod_taste_43 rfl rfl (by decide) [1, 2, 3, 0] rfl ?_
  exact h_Mod_taste_44 hld  hQ  _ 0 0 M h
def B_Mod_taste_20 (v1 : Int32) (K20 : Int32 → gM → Option (Int32 × gM)) : Int32 → gM → Option (Int32 × gM) := fun v2 M =>
  (if 3000 ≤ v2 then J_Mod_taste_40 v1 M else (if (v2 : Int32) < 0 ∨ 3000 ≤ (v2 : Int32).toNatClampNeg then none else nmM (uM M 444 (v2 : Int32).toNatClampNeg 0) (fun M35 => nmI (v2 + 1) (fun x36 => K20 x36 M35))))
def H_Mod_taste_20 (v1 : Int32) : Nat → Int32 → gM → Option (Int32 × gM) := lpK (B_Mod_taste_20 v1) (fun _ _ => none)
set_option maxHeartbeats 4000000 in
set_option maxRecDepth 20000 in
theorem h_Mod_taste_20 {l : Launch} {ld : Nat} {Q : Option Value → gM → gL → gR → Prop} (hld : isLa ld)   {q : Int32 × gM} {L : gL} (hQ : Q (some (.int q.1)) q.2 L (rf ld))  {v1 : Int32}  : ∀ (f : Nat) (v2 : Int32) (M : gM), H_Mod_taste_20 v1 f v2 M = some q → Wp l y_Mod_taste (0, 0, 447) 447 0 0 20 [(0, .ref 401), (1, .int v1), (2, .int v2)] [] M L (rf ld) Q := by
  intro f
  induction f with
  | zero => intro v2 M h; cases h
  | succ f hK20 =>
    intro v2 M h
    replace h : B_Mod_taste_20 v1 (H_Mod_taste_20 v1 f) v2 M = some q := h
    unfold B_Mod_taste_20 at h
    refine g_iload_n (pc1 := 21) d_Mod_taste_20 rfl 2 rfl ?_
    refine g_sipush (pc1 := 24) (v := 3000) d_Mod_taste_21 rfl (by decide) ?_
    refine g_icmp_ge (pc1 := 27) (tgt := 40) d_Mod_taste_24 (by decide) rfl (fun c6 => ?_) (fun c6 => ?_)
    · replace h := itp h c6
      refine Wp.loc (lv' := [(0, .ref 401), (1, .int v1)]) [0, 1] rfl ?_
      exact j_Mod_taste_40 hld  hQ  h
    · replace h := itn h c6
      refine g_aload_n (pc1 := 28) d_Mod_taste_27 rfl 0 rfl ?_
      refine g_getr (pc1 := 31) d_Mod_taste_28 rfl ⟨_, fo_Mod_146⟩ sh_401 (by decide) (rf_401_68 ld) ?_
      refine g_iload_n (pc1 := 32) d_Mod_taste_31 rfl 2 rfl ?_
      refine g_iconst (pc1 := 33) (v := 0) d_Mod_taste_32 rfl (by decide) ?_
      obtain ⟨g34, h⟩ := gdn h
      refine g_iast (pc1 := 34) d_Mod_taste_33 rfl sh_444 (by decide) g34 ?_
      refine Wp.lM h (fun M35 h => ?_)
      obtain ⟨x36, ex36, h⟩ := ltI h
      refine g_iinc (pc1 := 37) (v := x36) (lv' := [(0, .ref 401), (1, .int v1), (2, .int x36)]) d_Mod_taste_34 rfl 2 rfl (by rw [ex36]; rfl) (by decide) [1, 2, 0] rfl ?_
      refine g_goto (tgt := 20) d_Mod_taste_37 (by decide) ?_
      exact hK20 x36 M35 h
def F_Mod_taste (p1 : Int32) (M : gM) : Option (Int32 × gM) :=
  bI (F_Mod_in p1 0 (M 401 64)) (fun r2 => (if r2 = 0 then some ((-1), M) else bI (F_Mod_copies M) (fun M5 => H_Mod_taste_20 p1 FU 0 M5)))
set_option maxHeartbeats 4000000 in
set_option maxRecDepth 20000 in
theorem f_Mod_taste {l : Launch} {ld : Nat} {M : gM} {L : gL} {Q : Option Value → gM → gL → gR → Prop} (hld : isLa ld) {p1 : Int32}  {q : Int32 × gM} (h : F_Mod_taste p1 M = some q) (hQ : Q (some (.int q.1)) q.2 L (rf ld)) : Tm l y_Mod_taste (0, 0, 447) 447 [.ref 401, .int p1] M L (rf ld) Q := by
  refine Tm.of (by decide) (Nat.le_of_ble_eq_true rfl) ?_
  show Wp l y_Mod_taste (0, 0, 447) 447 0 0 0 [(0, .ref 401), (1, .int p1)] [] M L (rf ld) Q
  unfold F_Mod_taste at h
  refine g_iload_n (pc1 := 1) d_Mod_taste_0 rfl 1 rfl ?_
  refine g_iconst (pc1 := 2) (v := 0) d_Mod_taste_1 rfl (by decide) ?_
  refine g_aload_n (pc1 := 3) d_Mod_taste_2 rfl 0 rfl ?_
  refine g_geti (pc1 := 6) d_Mod_taste_3 rfl ⟨_, fo_Mod_257⟩ sh_401 (by decide) ?_
  refine g_callS0 (pc1 := 9) (As := [.int p1, .int 0, .int (M 401 64)]) (rest := []) d_Mod_taste_6 rfl mo_Mod_316 ms_Mod_in (by decide) rfl rfl (Nat.le_of_ble_eq_true rfl) ?_
  obtain ⟨r2, hq1, h⟩ := bnd h
  refine f_Mod_in hld  hq1 ?_
  dsimp only [psh]
  refine g_if_ne (pc1 := 12) (tgt := 14) d_Mod_taste_9 (by decide) rfl (fun c3 => ?_) (fun c3 => ?_)
  · replace h := itn h c3
    refine g_aload_n (pc1 := 15) d_Mod_taste_14 rfl 0 rfl ?_
    refine g_callV0 (pc1 := 18) (As := []) (rest := []) d_Mod_taste_15 rfl mo_Mod_377 mi_Mod_copies mv_Mod_copies rfl sh_401 (by decide) (by decide) rfl rfl (Nat.le_of_ble_eq_true rfl) ?_
    obtain ⟨M5, hq4, h⟩ := bnd h
    refine f_Mod_copies hld  hq4 ?_
    dsimp only [psh]
    refine g_iconst (pc1 := 19) (v := 0) d_Mod_taste_18 rfl (by decide) ?_
    refine g_istore_n (pc1 := 20) (lv' := [(0, .ref 401), (1, .int p1), (2, .int 0)]) d_Mod_taste_19 rfl rfl (by decide) [1, 2, 0] rfl ?_
    exact h_Mod_taste_20 hld  hQ  _ 0 M5 h
  · replace h := itp h c3
    refine g_iconst (pc1 := 13) (v := (-1)) d_Mod_taste_12 rfl (by decide) ?_
    refine g_ireturn (Or.inl rfl) d_Mod_taste_13 rfl ?_
    cases h; exact hQ

def J_Mod_tellOne_380 (v1 : Int32) (M : gM) (L : gL) : Option (gM × gL) :=
  (if (M 401 13) ≤ 0 then bI (F_Mod_goesOn M) (fun M74 => bI (F_Mod_tellLaw v1 M74) (fun M76 => some (M76, L))) else some (M, L))
set_option maxHeartbeats 4000000 in
set_option maxRecDepth 20000 in
theorem j_Mod_tellOne_380 {l : Launch} {ld : Nat} {Q : Option Value → gM → gL → gR → Prop} (hld : isLa ld)   {q : gM × gL} {M : gM} {L : gL} (hQ : Q none q.1 q.2 (rf ld))  {v1 : Int32}  (h : J_Mod_tellOne_380 v1 M L = some q) : Wp l y_Mod_tellOne (0, 0, 447) 447 0 0 380 [(0, .ref 401), (1, .int v1)] [] M L (rf ld) Q := by
  unfold J_Mod_tellOne_380 at h
  refine g_aload_n (pc1 := 381) d_Mod_tellOne_380 rfl 0 rfl ?_
  refine g_geti (pc1 := 384) d_Mod_tellOne_381 rfl ⟨_, fo_Mod_206⟩ sh_401 (by decide) ?_
  refine g_if_le (pc1 := 387) (tgt := 388) d_Mod_tellOne_384 (by decide) rfl (fun c72 => ?_) (fun c72 => ?_)
  · replace h := itp h c72
    refine g_aload_n (pc1 := 389) d_Mod_tellOne_388 rfl 0 rfl ?_
    refine g_callV0 (pc1 := 392) (As := []) (rest := []) d_Mod_tellOne_389 rfl mo_Mod_227 mi_Mod_goesOn mv_Mod_goesOn rfl sh_401 (by decide) (by decide) rfl rfl (Nat.le_of_ble_eq_true rfl) ?_
    obtain ⟨M74, hq73, h⟩ := bnd h
    refine f_Mod_goesOn hld  hq73 ?_
    dsimp only [psh]
    refine g_aload_n (pc1 := 393) d_Mod_tellOne_392 rfl 0 rfl ?_
    refine g_iload_n (pc1 := 394) d_Mod_tellOne_393 rfl 1 rfl ?_
    refine g_callV0 (pc1 := 397) (As := [.int v1]) (rest := []) d_Mod_tellOne_394 rfl mo_Mod_284 mi_Mod_tellLaw mv_Mod_tellLaw rfl sh_401 (by decide) (by decide) rfl rfl (Nat.le_of_ble_eq_true rfl) ?_
    obtain ⟨M76, hq75, h⟩ := bnd h
    refine f_Mod_tellLaw hld  hq75 ?_
    dsimp only [psh]
    refine g_return rfl d_Mod_tellOne_397 rfl ?_
    cases h; exact hQ
  · replace h := itn h c72
    refine g_return rfl d_Mod_tellOne_387 rfl ?_
    cases h; exact hQ
def J_Mod_tellOne_375 (v1 : Int32) (M : gM) (L : gL) : Option (gM × gL) :=
  bI (F_Mod_fail 1 M) (fun M71 => J_Mod_tellOne_380 v1 M71 L)
set_option maxHeartbeats 4000000 in
set_option maxRecDepth 20000 in
theorem j_Mod_tellOne_375 {l : Launch} {ld : Nat} {Q : Option Value → gM → gL → gR → Prop} (hld : isLa ld)   {q : gM × gL} {M : gM} {L : gL} (hQ : Q none q.1 q.2 (rf ld))  {v1 : Int32}  (h : J_Mod_tellOne_375 v1 M L = some q) : Wp l y_Mod_tellOne (0, 0, 447) 447 0 0 375 [(0, .ref 401), (1, .int v1)] [] M L (rf ld) Q := by
  unfold J_Mod_tellOne_375 at h
  refine g_aload_n (pc1 := 376) d_Mod_tellOne_375 rfl 0 rfl ?_
  refine g_iconst (pc1 := 377) (v := 1) d_Mod_tellOne_376 rfl (by decide) ?_
  refine g_callV0 (pc1 := 380) (As := [.int 1]) (rest := []) d_Mod_tellOne_377 rfl mo_Mod_221 mi_Mod_fail mv_Mod_fail rfl sh_401 (by decide) (by decide) rfl rfl (Nat.le_of_ble_eq_true rfl) ?_
  obtain ⟨M71, hq70, h⟩ := bnd h
  refine f_Mod_fail hld  hq70 ?_
  dsimp only [psh]
  exact j_Mod_tellOne_380 hld  hQ  h
def F_Mod_tellOne (M : gM) (L : gL) : Option (gM × gL) :=
  (if ((M 401 11) : Int32) < 0 ∨ 403 ≤ ((M 401 11) : Int32).toNatClampNeg then none else (if (M 404 ((M 401 11) : Int32).toNatClampNeg) = 20 then (if ((M 401 19) : Int32) < 0 ∨ 2 ≤ ((M 401 19) : Int32).toNatClampNeg then none else bI (F_Mod_roomFor (M 411 ((M 401 19) : Int32).toNatClampNeg) 6 M) (fun M5 => (if (M5 401 13) = 0 then bI2 (F_Mod_tellFood M5 L) (fun M8 L9 => some (M8, L9)) else some (M5, L)))) else (if (M 404 ((M 401 11) : Int32).toNatClampNeg) = 21 then (if ((M 401 19) : Int32) < 0 ∨ 2 ≤ ((M 401 19) : Int32).toNatClampNeg then none else bI (F_Mod_roomFor (M 415 ((M 401 19) : Int32).toNatClampNeg) 5 M) (fun M13 => (if (M13 401 13) = 0 then bI2 (F_Mod_tellDish M13 L) (fun M16 L17 => some (M16, L17)) else some (M13, L)))) else (if (M 404 ((M 401 11) : Int32).toNatClampNeg) = 22 then (if ((M 401 19) : Int32) < 0 ∨ 2 ≤ ((M 401 19) : Int32).toNatClampNeg then none else bI (F_Mod_roomFor (M 418 ((M 401 19) : Int32).toNatClampNeg) 4 M) (fun M21 => (if (M21 401 13) ≤ 0 then bI2 (F_Mod_named M21 L) (fun r24 M25 => (if ((M25 401 19) : Int32) < 0 ∨ 2 ≤ ((M25 401 19) : Int32).toNatClampNeg then none else bI2 (F_Mod_bounded 0 9 M25) (fun r28 M29 => (if (((4 * (M25 401 19)) + (M25 418 ((M25 401 19) : Int32).toNatClampNeg)) : Int32) < 0 ∨ 8 ≤ (((4 * (M25 401 19)) + (M25 418 ((M25 401 19) : Int32).toNatClampNeg)) : Int32).toNatClampNeg then none else nmM (uM M29 419 (((4 * (M25 401 19)) + (M25 418 ((M25 401 19) : Int32).toNatClampNeg)) : Int32).toNatClampNeg r28) (fun M31 => bI2 (F_Mod_ends r24 (-1) M31 L) (fun M33 L34 => (if (M33 401 13) = 0 then (if ((M33 401 19) : Int32) < 0 ∨ 2 ≤ ((M33 401 19) : Int32).toNatClampNeg then none else (if ((M33 401 19) : Int32) < 0 ∨ 2 ≤ ((M33 401 19) : Int32).toNatClampNeg then none else nmM (uM M33 418 ((M33 401 19) : Int32).toNatClampNeg ((M33 418 ((M33 401 19) : Int32).toNatClampNeg) + 1)) (fun M38 => some (M38, L34)))) else some (M33, L34)))))))) else some (M21, L)))) else (if (M 404 ((M 401 11) : Int32).toNatClampNeg) = 23 then (if ((M 401 19) : Int32) < 0 ∨ 2 ≤ ((M 401 19) : Int32).toNatClampNeg then none else bI (F_Mod_roomFor (M 420 ((M 401 19) : Int32).toNatClampNeg) 6 M) (fun M42 => (if (M42 401 13) ≤ 0 then bI2 (F_Mod_named M42 L) (fun r45 M46 => (if ((M46 401 19) : Int32) < 0 ∨ 2 ≤ ((M46 401 19) : Int32).toNatClampNeg then none else bI2 (F_Mod_bounded 0 2 M46) (fun r49 M50 => (if (((6 * (M46 401 19)) + (M46 420 ((M46 401 19) : Int32).toNatClampNeg)) : Int32) < 0 ∨ 12 ≤ (((6 * (M46 401 19)) + (M46 420 ((M46 401 19) : Int32).toNatClampNeg)) : Int32).toNatClampNeg then none else nmM (uM M50 421 (((6 * (M46 401 19)) + (M46 420 ((M46 401 19) : Int32).toNatClampNeg)) : Int32).toNatClampNeg r49) (fun M52 => (if ((M52 401 19) : Int32) < 0 ∨ 2 ≤ ((M52 401 19) : Int32).toNatClampNeg then none else bI2 (F_Mod_bounded 0 99 M52) (fun r55 M56 => (if (((6 * (M52 401 19)) + (M52 420 ((M52 401 19) : Int32).toNatClampNeg)) : Int32) < 0 ∨ 12 ≤ (((6 * (M52 401 19)) + (M52 420 ((M52 401 19) : Int32).toNatClampNeg)) : Int32).toNatClampNeg then none else nmM (uM M56 422 (((6 * (M52 401 19)) + (M52 420 ((M52 401 19) : Int32).toNatClampNeg)) : Int32).toNatClampNeg r55) (fun M58 => bI2 (F_Mod_ends r45 (-1) M58 L) (fun M60 L61 => (if (M60 401 13) = 0 then (if ((M60 401 19) : Int32) < 0 ∨ 2 ≤ ((M60 401 19) : Int32).toNatClampNeg then none else (if ((M60 401 19) : Int32) < 0 ∨ 2 ≤ ((M60 401 19) : Int32).toNatClampNeg then none else nmM (uM M60 420 ((M60 401 19) : Int32).toNatClampNeg ((M60 420 ((M60 401 19) : Int32).toNatClampNeg) + 1)) (fun M65 => some (M65, L61)))) else some (M60, L61)))))))))))) else some (M42, L)))) else (if (M 404 ((M 401 11) : Int32).toNatClampNeg) = 24 then (if ((M 401 11) : Int32) < 0 ∨ 403 ≤ ((M 401 11) : Int32).toNatClampNeg then none else nmI ((M 404 ((M 401 11) : Int32).toNatClampNeg) - 24) (fun x68 => (if x68 < 0 then J_Mod_tellOne_375 x68 M L else (if ((M 401 11) : Int32) < 0 ∨ 403 ≤ ((M 401 11) : Int32).toNatClampNeg then none else (if (M 404 ((M 401 11) : Int32).toNatClampNeg) ≤ 27 then J_Mod_tellOne_380 x68 M L else J_Mod_tellOne_375 x68 M L))))) else (if (M 404 ((M 401 11) : Int32).toNatClampNeg) = 25 then (if ((M 401 11) : Int32) < 0 ∨ 403 ≤ ((M 401 11) : Int32).toNatClampNeg then none else nmI ((M 404 ((M 401 11) : Int32).toNatClampNeg) - 24) (fun x81 => (if x81 < 0 then J_Mod_tellOne_375 x81 M L else (if ((M 401 11) : Int32) < 0 ∨ 403 ≤ ((M 401 11) : Int32).toNatClampNeg then none else (if (M 404 ((M 401 11) : Int32).toNatClampNeg) ≤ 27 then J_Mod_tellOne_380 x81 M L else J_Mod_tellOne_375 x81 M L))))) else (if (M 404 ((M 401 11) : Int32).toNatClampNeg) = 26 then (if ((M 401 11) : Int32) < 0 ∨ 403 ≤ ((M 401 11) : Int32).toNatClampNeg then none else nmI ((M 404 ((M 401 11) : Int32).toNatClampNeg) - 24) (fun x87 => (if x87 < 0 then J_Mod_tellOne_375 x87 M L else (if ((M 401 11) : Int32) < 0 ∨ 403 ≤ ((M 401 11) : Int32).toNatClampNeg then none else (if (M 404 ((M 401 11) : Int32).toNatClampNeg) ≤ 27 then J_Mod_tellOne_380 x87 M L else J_Mod_tellOne_375 x87 M L))))) else (if (M 404 ((M 401 11) : Int32).toNatClampNeg) = 27 then (if ((M 401 11) : Int32) < 0 ∨ 403 ≤ ((M 401 11) : Int32).toNatClampNeg then none else nmI ((M 404 ((M 401 11) : Int32).toNatClampNeg) - 24) (fun x93 => (if x93 < 0 then J_Mod_tellOne_375 x93 M L else (if ((M 401 11) : Int32) < 0 ∨ 403 ≤ ((M 401 11) : Int32).toNatClampNeg then none else (if (M 404 ((M 401 11) : Int32).toNatClampNeg) ≤ 27 then J_Mod_tellOne_380 x93 M L else J_Mod_tellOne_375 x93 M L))))) else (if (M 404 ((M 401 11) : Int32).toNatClampNeg) = 28 then bI (F_Mod_goesOn M) (fun M99 => bI2 (F_Mod_bounded 0 9999 M99) (fun r101 M102 => (if ((M99 401 19) : Int32) < 0 ∨ 2 ≤ ((M99 401 19) : Int32).toNatClampNeg then none else nmM (uM M102 423 ((M99 401 19) : Int32).toNatClampNeg r101) (fun M104 => bI (F_Mod_must 4 M104) (fun M106 => some (M106, L)))))) else (if ((M 401 11) : Int32) < 0 ∨ 403 ≤ ((M 401 11) : Int32).toNatClampNeg then none else nmI ((M 404 ((M 401 11) : Int32).toNatClampNeg) - 24) (fun x108 => (if x108 < 0 then J_Mod_tellOne_375 x108 M L else (if ((M 401 11) : Int32) < 0 ∨ 403 ≤ ((M 401 11) : Int32).toNatClampNeg then none else (if (M 404 ((M 401 11) : Int32).toNatClampNeg) ≤ 27 then J_Mod_tellOne_380 x108 M L else J_Mod_tellOne_375 x108 M L)))))))))))))))
set_option maxHeartbeats 4000000 in
set_option maxRecDepth 20000 in
theorem f_Mod_tellOne {l : Launch} {ld : Nat} {M : gM} {L : gL} {Q : Option Value → gM → gL → gR → Prop} (hld : isLa ld)   {q : gM × gL} (h : F_Mod_tellOne M L = some q) (hQ : Q none q.1 q.2 (rf ld)) : Tm l y_Mod_tellOne (0, 0, 447) 447 [.ref 401] M L (rf ld) Q := by
  refine Tm.of (by decide) (Nat.le_of_ble_eq_true rfl) ?_
  show Wp l y_Mod_tellOne (0, 0, 447) 447 0 0 0 [(0, .ref 401)] [] M L (rf ld) Q
  unfold F_Mod_tellOne at h
  refine g_aload_n (pc1 := 1) d_Mod_tellOne_0 rfl 0 rfl ?_
  refine g_getr (pc1 := 4) d_Mod_tellOne_1 rfl ⟨_, fo_Mod_20⟩ sh_401 (by decide) (rf_401_5 ld) ?_
  refine g_aload_n (pc1 := 5) d_Mod_tellOne_4 rfl 0 rfl ?_
  refine g_geti (pc1 := 8) d_Mod_tellOne_5 rfl ⟨_, fo_Mod_209⟩ sh_401 (by decide) ?_
  obtain ⟨g1, h⟩ := gdn h
  refine g_iald (pc1 := 9) d_Mod_tellOne_8 rfl sh_404 (by decide) g1 ?_
  by_cases c2 : (M 404 ((M 401 11) : Int32).toNatClampNeg) = 20
  · replace h := itp h c2
    refine g_tabK (tgt := 60) (off := 51) d_Mod_tellOne_9 c2 (by decide) (by decide) (by decide) (by decide) ?_
    refine g_aload_n (pc1 := 61) d_Mod_tellOne_60 rfl 0 rfl ?_
    refine g_aload_n (pc1 := 62) d_Mod_tellOne_61 rfl 0 rfl ?_
    refine g_getr (pc1 := 65) d_Mod_tellOne_62 rfl ⟨_, fo_Mod_46⟩ sh_401 (by decide) (rf_401_23 ld) ?_
    refine g_aload_n (pc1 := 66) d_Mod_tellOne_65 rfl 0 rfl ?_
    refine g_geti (pc1 := 69) d_Mod_tellOne_66 rfl ⟨_, fo_Mod_239⟩ sh_401 (by decide) ?_
    obtain ⟨g3, h⟩ := gdn h
    refine g_iald (pc1 := 70) d_Mod_tellOne_69 rfl sh_411 (by decide) g3 ?_
    refine g_bipush (pc1 := 72) (v := 6) d_Mod_tellOne_70 rfl (by decide) ?_
    refine g_callV0 (pc1 := 75) (As := [.int (M 411 ((M 401 19) : Int32).toNatClampNeg), .int 6]) (rest := []) d_Mod_tellOne_72 rfl mo_Mod_260 mi_Mod_roomFor mv_Mod_roomFor rfl sh_401 (by decide) (by decide) rfl rfl (Nat.le_of_ble_eq_true rfl) ?_
    obtain ⟨M5, hq4, h⟩ := bnd h
    refine f_Mod_roomFor hld  hq4 ?_
    dsimp only [psh]
    refine g_aload_n (pc1 := 76) d_Mod_tellOne_75 rfl 0 rfl ?_
    refine g_geti (pc1 := 79) d_Mod_tellOne_76 rfl ⟨_, fo_Mod_206⟩ sh_401 (by decide) ?_
    refine g_if_ne (pc1 := 82) (tgt := 397) d_Mod_tellOne_79 (by decide) rfl (fun c6 => ?_) (fun c6 => ?_)
    · replace h := itn h c6
      refine g_return rfl d_Mod_tellOne_397 rfl ?_
      cases h; exact hQ
    · replace h := itp h c6
      refine g_aload_n (pc1 := 83) d_Mod_tellOne_82 rfl 0 rfl ?_
      refine g_callV0 (pc1 := 86) (As := []) (rest := []) d_Mod_tellOne_83 rfl mo_Mod_264 mi_Mod_tellFood mv_Mod_tellFood rfl sh_401 (by decide) (by decide) rfl rfl (Nat.le_of_ble_eq_true rfl) ?_
      obtain ⟨M8, L9, hq7, h⟩ := bnd2 h
      refine f_Mod_tellFood hld  hq7 ?_
      dsimp only [psh]
      refine g_goto (tgt := 397) d_Mod_tellOne_86 (by decide) ?_
      refine g_return rfl d_Mod_tellOne_397 rfl ?_
      cases h; exact hQ
  replace h := itn h c2
  by_cases c10 : (M 404 ((M 401 11) : Int32).toNatClampNeg) = 21
  · replace h := itp h c10
    refine g_tabK (tgt := 89) (off := 80) d_Mod_tellOne_9 c10 (by decide) (by decide) (by decide) (by decide) ?_
    refine g_aload_n (pc1 := 90) d_Mod_tellOne_89 rfl 0 rfl ?_
    refine g_aload_n (pc1 := 91) d_Mod_tellOne_90 rfl 0 rfl ?_
    refine g_getr (pc1 := 94) d_Mod_tellOne_91 rfl ⟨_, fo_Mod_58⟩ sh_401 (by decide) (rf_401_27 ld) ?_
    refine g_aload_n (pc1 := 95) d_Mod_tellOne_94 rfl 0 rfl ?_
    refine g_geti (pc1 := 98) d_Mod_tellOne_95 rfl ⟨_, fo_Mod_239⟩ sh_401 (by decide) ?_
    obtain ⟨g11, h⟩ := gdn h
    refine g_iald (pc1 := 99) d_Mod_tellOne_98 rfl sh_415 (by decide) g11 ?_
    refine g_iconst (pc1 := 100) (v := 5) d_Mod_tellOne_99 rfl (by decide) ?_
    refine g_callV0 (pc1 := 103) (As := [.int (M 415 ((M 401 19) : Int32).toNatClampNeg), .int 5]) (rest := []) d_Mod_tellOne_100 rfl mo_Mod_260 mi_Mod_roomFor mv_Mod_roomFor rfl sh_401 (by decide) (by decide) rfl rfl (Nat.le_of_ble_eq_true rfl) ?_
    obtain ⟨M13, hq12, h⟩ := bnd h
    refine f_Mod_roomFor hld  hq12 ?_
    dsimp only [psh]
    refine g_aload_n (pc1 := 104) d_Mod_tellOne_103 rfl 0 rfl ?_
    refine g_geti (pc1 := 107) d_Mod_tellOne_104 rfl ⟨_, fo_Mod_206⟩ sh_401 (by decide) ?_
    refine g_if_ne (pc1 := 110) (tgt := 397) d_Mod_tellOne_107 (by decide) rfl (fun c14 => ?_) (fun c14 => ?_)
    · replace h := itn h c14
      refine g_return rfl d_Mod_tellOne_397 rfl ?_
      cases h; exact hQ
    · replace h := itp h c14
      refine g_aload_n (pc1 := 111) d_Mod_tellOne_110 rfl 0 rfl ?_
      refine g_callV0 (pc1 := 114) (As := []) (rest := []) d_Mod_tellOne_111 rfl mo_Mod_267 mi_Mod_tellDish mv_Mod_tellDish rfl sh_401 (by decide) (by decide) rfl rfl (Nat.le_of_ble_eq_true rfl) ?_
      obtain ⟨M16, L17, hq15, h⟩ := bnd2 h
      refine f_Mod_tellDish hld  hq15 ?_
      dsimp only [psh]
      refine g_goto (tgt := 397) d_Mod_tellOne_114 (by decide) ?_
      refine g_return rfl d_Mod_tellOne_397 rfl ?_
      cases h; exact hQ
  replace h := itn h c10
  by_cases c18 : (M 404 ((M 401 11) : Int32).toNatClampNeg) = 22
  · replace h := itp h c18
    refine g_tabK (tgt := 117) (off := 108) d_Mod_tellOne_9 c18 (by decide) (by decide) (by decide) (by decide) ?_
    refine g_aload_n (pc1 := 118) d_Mod_tellOne_117 rfl 0 rfl ?_
    refine g_aload_n (pc1 := 119) d_Mod_tellOne_118 rfl 0 rfl ?_
    refine g_getr (pc1 := 122) d_Mod_tellOne_119 rfl ⟨_, fo_Mod_67⟩ sh_401 (by decide) (rf_401_30 ld) ?_
    refine g_aload_n (pc1 := 123) d_Mod_tellOne_122 rfl 0 rfl ?_
    refine g_geti (pc1 := 126) d_Mod_tellOne_123 rfl ⟨_, fo_Mod_239⟩ sh_401 (by decide) ?_
    obtain ⟨g19, h⟩ := gdn h
    refine g_iald (pc1 := 127) d_Mod_tellOne_126 rfl sh_418 (by decide) g19 ?_
    refine g_iconst (pc1 := 128) (v := 4) d_Mod_tellOne_127 rfl (by decide) ?_
    refine g_callV0 (pc1 := 131) (As := [.int (M 418 ((M 401 19) : Int32).toNatClampNeg), .int 4]) (rest := []) d_Mod_tellOne_128 rfl mo_Mod_260 mi_Mod_roomFor mv_Mod_roomFor rfl sh_401 (by decide) (by decide) rfl rfl (Nat.le_of_ble_eq_true rfl) ?_
    obtain ⟨M21, hq20, h⟩ := bnd h
    refine f_Mod_roomFor hld  hq20 ?_
    dsimp only [psh]
    refine g_aload_n (pc1 := 132) d_Mod_tellOne_131 rfl 0 rfl ?_
    refine g_geti (pc1 := 135) d_Mod_tellOne_132 rfl ⟨_, fo_Mod_206⟩ sh_401 (by decide) ?_
    refine g_if_le (pc1 := 138) (tgt := 139) d_Mod_tellOne_135 (by decide) rfl (fun c22 => ?_) (fun c22 => ?_)
    · replace h := itp h c22
      refine g_aload_n (pc1 := 140) d_Mod_tellOne_139 rfl 0 rfl ?_
      refine g_callV0 (pc1 := 143) (As := []) (rest := []) d_Mod_tellOne_140 rfl mo_Mod_270 mi_Mod_named mv_Mod_named rfl sh_401 (by decide) (by decide) rfl rfl (Nat.le_of_ble_eq_true rfl) ?_
      obtain ⟨r24, M25, hq23, h⟩ := bnd2 h
      refine f_Mod_named hld  hq23 ?_
      dsimp only [psh]
      refine g_istore_n (pc1 := 144) (lv' := [(0, .ref 401), (1, .int r24)]) d_Mod_tellOne_143 rfl rfl (by decide) [1, 0] rfl ?_
      refine g_aload_n (pc1 := 145) d_Mod_tellOne_144 rfl 0 rfl ?_
      refine g_getr (pc1 := 148) d_Mod_tellOne_145 rfl ⟨_, fo_Mod_70⟩ sh_401 (by decide) (rf_401_31 ld) ?_
      refine g_iconst (pc1 := 149) (v := 4) d_Mod_tellOne_148 rfl (by decide) ?_
      refine g_aload_n (pc1 := 150) d_Mod_tellOne_149 rfl 0 rfl ?_
      refine g_geti (pc1 := 153) d_Mod_tellOne_150 rfl ⟨_, fo_Mod_239⟩ sh_401 (by decide) ?_
      refine g_imul (pc1 := 154) d_Mod_tellOne_153 rfl ?_
      refine g_aload_n (pc1 := 155) d_Mod_tellOne_154 rfl 0 rfl ?_
      refine g_getr (pc1 := 158) d_Mod_tellOne_155 rfl ⟨_, fo_Mod_67⟩ sh_401 (by decide) (rf_401_30 ld) ?_
      refine g_aload_n (pc1 := 159) d_Mod_tellOne_158 rfl 0 rfl ?_
      refine g_geti (pc1 := 162) d_Mod_tellOne_159 rfl ⟨_, fo_Mod_239⟩ sh_401 (by decide) ?_
      obtain ⟨g26, h⟩ := gdn h
      refine g_iald (pc1 := 163) d_Mod_tellOne_162 rfl sh_418 (by decide) g26 ?_
      refine g_iadd (pc1 := 164) d_Mod_tellOne_163 rfl ?_
      refine g_aload_n (pc1 := 165) d_Mod_tellOne_164 rfl 0 rfl ?_
      refine g_iconst (pc1 := 166) (v := 0) d_Mod_tellOne_165 rfl (by decide) ?_
      refine g_bipush (pc1 := 168) (v := 9) d_Mod_tellOne_166 rfl (by decide) ?_
      refine g_callV0 (pc1 := 171) (As := [.int 0, .int 9]) (rest := [.int ((4 * (M25 401 19)) + (M25 418 ((M25 401 19) : Int32).toNatClampNeg)), .ref 419]) d_Mod_tellOne_168 rfl mo_Mod_274 mi_Mod_bounded mv_Mod_bounded rfl sh_401 (by decide) (by decide) rfl rfl (Nat.le_of_ble_eq_true rfl) ?_
      obtain ⟨r28, M29, hq27, h⟩ := bnd2 h
      refine f_Mod_bounded hld  hq27 ?_
      dsimp only [psh]
      obtain ⟨g30, h⟩ := gdn h
      refine g_iast (pc1 := 172) d_Mod_tellOne_171 rfl sh_419 (by decide) g30 ?_
      refine Wp.lM h (fun M31 h => ?_)
      refine g_aload_n (pc1 := 173) d_Mod_tellOne_172 rfl 0 rfl ?_
      refine g_iload_n (pc1 := 174) d_Mod_tellOne_173 rfl 1 rfl ?_
      refine g_iconst (pc1 := 175) (v := (-1)) d_Mod_tellOne_174 rfl (by decide) ?_
      refine g_callV0 (pc1 := 178) (As := [.int r24, .int (-1)]) (rest := []) d_Mod_tellOne_175 rfl mo_Mod_278 mi_Mod_ends mv_Mod_ends rfl sh_401 (by decide) (by decide) rfl rfl (Nat.le_of_ble_eq_true rfl) ?_
      obtain ⟨M33, L34, hq32, h⟩ := bnd2 h
      refine f_Mod_ends hld  hq32 ?_
      dsimp only [psh]
      refine g_aload_n (pc1 := 179) d_Mod_tellOne_178 rfl 0 rfl ?_
      refine g_geti (pc1 := 182) d_Mod_tellOne_179 rfl ⟨_, fo_Mod_206⟩ sh_401 (by decide) ?_
      refine g_if_ne (pc1 := 185) (tgt := 397) d_Mod_tellOne_182 (by decide) rfl (fun c35 => ?_) (fun c35 => ?_)
      · replace h := itn h c35
        refine g_return rfl d_Mod_tellOne_397 rfl ?_
        cases h; exact hQ
      · replace h := itp h c35
        refine g_aload_n (pc1 := 186) d_Mod_tellOne_185 rfl 0 rfl ?_
        refine g_getr (pc1 := 189) d_Mod_tellOne_186 rfl ⟨_, fo_Mod_67⟩ sh_401 (by decide) (rf_401_30 ld) ?_
        refine g_aload_n (pc1 := 190) d_Mod_tellOne_189 rfl 0 rfl ?_
        refine g_geti (pc1 := 193) d_Mod_tellOne_190 rfl ⟨_, fo_Mod_239⟩ sh_401 (by decide) ?_
        refine g_dup2 (pc1 := 194) d_Mod_tellOne_193 rfl rfl rfl ?_
        obtain ⟨g36, h⟩ := gdn h
        refine g_iald (pc1 := 195) d_Mod_tellOne_194 rfl sh_418 (by decide) g36 ?_
        refine g_iconst (pc1 := 196) (v := 1) d_Mod_tellOne_195 rfl (by decide) ?_
        refine g_iadd (pc1 := 197) d_Mod_tellOne_196 rfl ?_
        obtain ⟨g37, h⟩ := gdn h
        refine g_iast (pc1 := 198) d_Mod_tellOne_197 rfl sh_418 (by decide) g37 ?_
        refine Wp.lM h (fun M38 h => ?_)
        refine g_goto (tgt := 397) d_Mod_tellOne_198 (by decide) ?_
        refine g_return rfl d_Mod_tellOne_397 rfl ?_
        cases h; exact hQ
    · replace h := itn h c22
      refine g_return rfl d_Mod_tellOne_138 rfl ?_
      cases h; exact hQ
  replace h := itn h c18
  by_cases c39 : (M 404 ((M 401 11) : Int32).toNatClampNeg) = 23
  · replace h := itp h c39
    refine g_tabK (tgt := 201) (off := 192) d_Mod_tellOne_9 c39 (by decide) (by decide) (by decide) (by decide) ?_
    refine g_aload_n (pc1 := 202) d_Mod_tellOne_201 rfl 0 rfl ?_
    refine g_aload_n (pc1 := 203) d_Mod_tellOne_202 rfl 0 rfl ?_
    refine g_getr (pc1 := 206) d_Mod_tellOne_203 rfl ⟨_, fo_Mod_73⟩ sh_401 (by decide) (rf_401_32 ld) ?_
    refine g_aload_n (pc1 := 207) d_Mod_tellOne_206 rfl 0 rfl ?_
    refine g_geti (pc1 := 210) d_Mod_tellOne_207 rfl ⟨_, fo_Mod_239⟩ sh_401 (by decide) ?_
    obtain ⟨g40, h⟩ := gdn h
    refine g_iald (pc1 := 211) d_Mod_tellOne_210 rfl sh_420 (by decide) g40 ?_
    refine g_bipush (pc1 := 213) (v := 6) d_Mod_tellOne_211 rfl (by decide) ?_
    refine g_callV0 (pc1 := 216) (As := [.int (M 420 ((M 401 19) : Int32).toNatClampNeg), .int 6]) (rest := []) d_Mod_tellOne_213 rfl mo_Mod_260 mi_Mod_roomFor mv_Mod_roomFor rfl sh_401 (by decide) (by decide) rfl rfl (Nat.le_of_ble_eq_true rfl) ?_
    obtain ⟨M42, hq41, h⟩ := bnd h
    refine f_Mod_roomFor hld  hq41 ?_
    dsimp only [psh]
    refine g_aload_n (pc1 := 217) d_Mod_tellOne_216 rfl 0 rfl ?_
    refine g_geti (pc1 := 220) d_Mod_tellOne_217 rfl ⟨_, fo_Mod_206⟩ sh_401 (by decide) ?_
    refine g_if_le (pc1 := 223) (tgt := 224) d_Mod_tellOne_220 (by decide) rfl (fun c43 => ?_) (fun c43 => ?_)
    · replace h := itp h c43
      refine g_aload_n (pc1 := 225) d_Mod_tellOne_224 rfl 0 rfl ?_
      refine g_callV0 (pc1 := 228) (As := []) (rest := []) d_Mod_tellOne_225 rfl mo_Mod_270 mi_Mod_named mv_Mod_named rfl sh_401 (by decide) (by decide) rfl rfl (Nat.le_of_ble_eq_true rfl) ?_
      obtain ⟨r45, M46, hq44, h⟩ := bnd2 h
      refine f_Mod_named hld  hq44 ?_
      dsimp only [psh]
      refine g_istore_n (pc1 := 229) (lv' := [(0, .ref 401), (1, .int r45)]) d_Mod_tellOne_228 rfl rfl (by decide) [1, 0] rfl ?_
      refine g_aload_n (pc1 := 230) d_Mod_tellOne_229 rfl 0 rfl ?_
      refine g_getr (pc1 := 233) d_Mod_tellOne_230 rfl ⟨_, fo_Mod_76⟩ sh_401 (by decide) (rf_401_33 ld) ?_
      refine g_bipush (pc1 := 235) (v := 6) d_Mod_tellOne_233 rfl (by decide) ?_
      refine g_aload_n (pc1 := 236) d_Mod_tellOne_235 rfl 0 rfl ?_
      refine g_geti (pc1 := 239) d_Mod_tellOne_236 rfl ⟨_, fo_Mod_239⟩ sh_401 (by decide) ?_
      refine g_imul (pc1 := 240) d_Mod_tellOne_239 rfl ?_
      refine g_aload_n (pc1 := 241) d_Mod_tellOne_240 rfl 0 rfl ?_
      refine g_getr (pc1 := 244) d_Mod_tellOne_241 rfl ⟨_, fo_Mod_73⟩ sh_401 (by decide) (rf_401_32 ld) ?_
      refine g_aload_n (pc1 := 245) d_Mod_tellOne_244 rfl 0 rfl ?_
      refine g_geti (pc1 := 248) d_Mod_tellOne_245 rfl ⟨_, fo_Mod_239⟩ sh_401 (by decide) ?_
      obtain ⟨g47, h⟩ := gdn h
      refine g_iald (pc1 := 249) d_Mod_tellOne_248 rfl sh_420 (by decide) g47 ?_
      refine g_iadd (pc1 := 250) d_Mod_tellOne_249 rfl ?_
      refine g_aload_n (pc1 := 251) d_Mod_tellOne_250 rfl 0 rfl ?_
      refine g_iconst (pc1 := 252) (v := 0) d_Mod_tellOne_251 rfl (by decide) ?_
      refine g_iconst (pc1 := 253) (v := 2) d_Mod_tellOne_252 rfl (by decide) ?_
      refine g_callV0 (pc1 := 256) (As := [.int 0, .int 2]) (rest := [.int ((6 * (M46 401 19)) + (M46 420 ((M46 401 19) : Int32).toNatClampNeg)), .ref 421]) d_Mod_tellOne_253 rfl mo_Mod_274 mi_Mod_bounded mv_Mod_bounded rfl sh_401 (by decide) (by decide) rfl rfl (Nat.le_of_ble_eq_true rfl) ?_
      obtain ⟨r49, M50, hq48, h⟩ := bnd2 h
      refine f_Mod_bounded hld  hq48 ?_
      dsimp only [psh]
      obtain ⟨g51, h⟩ := gdn h
      refine g_iast (pc1 := 257) d_Mod_tellOne_256 rfl sh_421 (by decide) g51 ?_
      refine Wp.lM h (fun M52 h => ?_)
      refine g_aload_n (pc1 := 258) d_Mod_tellOne_257 rfl 0 rfl ?_
      refine g_getr (pc1 := 261) d_Mod_tellOne_258 rfl ⟨_, fo_Mod_79⟩ sh_401 (by decide) (rf_401_34 ld) ?_
      refine g_bipush (pc1 := 263) (v := 6) d_Mod_tellOne_261 rfl (by decide) ?_
      refine g_aload_n (pc1 := 264) d_Mod_tellOne_263 rfl 0 rfl ?_
      refine g_geti (pc1 := 267) d_Mod_tellOne_264 rfl ⟨_, fo_Mod_239⟩ sh_401 (by decide) ?_
      refine g_imul (pc1 := 268) d_Mod_tellOne_267 rfl ?_
      refine g_aload_n (pc1 := 269) d_Mod_tellOne_268 rfl 0 rfl ?_
      refine g_getr (pc1 := 272) d_Mod_tellOne_269 rfl ⟨_, fo_Mod_73⟩ sh_401 (by decide) (rf_401_32 ld) ?_
      refine g_aload_n (pc1 := 273) d_Mod_tellOne_272 rfl 0 rfl ?_
      refine g_geti (pc1 := 276) d_Mod_tellOne_273 rfl ⟨_, fo_Mod_239⟩ sh_401 (by decide) ?_
      obtain ⟨g53, h⟩ := gdn h
      refine g_iald (pc1 := 277) d_Mod_tellOne_276 rfl sh_420 (by decide) g53 ?_
      refine g_iadd (pc1 := 278) d_Mod_tellOne_277 rfl ?_
      refine g_aload_n (pc1 := 279) d_Mod_tellOne_278 rfl 0 rfl ?_
      refine g_iconst (pc1 := 280) (v := 0) d_Mod_tellOne_279 rfl (by decide) ?_
      refine g_bipush (pc1 := 282) (v := 99) d_Mod_tellOne_280 rfl (by decide) ?_
      refine g_callV0 (pc1 := 285) (As := [.int 0, .int 99]) (rest := [.int ((6 * (M52 401 19)) + (M52 420 ((M52 401 19) : Int32).toNatClampNeg)), .ref 422]) d_Mod_tellOne_282 rfl mo_Mod_274 mi_Mod_bounded mv_Mod_bounded rfl sh_401 (by decide) (by decide) rfl rfl (Nat.le_of_ble_eq_true rfl) ?_
      obtain ⟨r55, M56, hq54, h⟩ := bnd2 h
      refine f_Mod_bounded hld  hq54 ?_
      dsimp only [psh]
      obtain ⟨g57, h⟩ := gdn h
      refine g_iast (pc1 := 286) d_Mod_tellOne_285 rfl sh_422 (by decide) g57 ?_
      refine Wp.lM h (fun M58 h => ?_)
      refine g_aload_n (pc1 := 287) d_Mod_tellOne_286 rfl 0 rfl ?_
      refine g_iload_n (pc1 := 288) d_Mod_tellOne_287 rfl 1 rfl ?_
      refine g_iconst (pc1 := 289) (v := (-1)) d_Mod_tellOne_288 rfl (by decide) ?_
      refine g_callV0 (pc1 := 292) (As := [.int r45, .int (-1)]) (rest := []) d_Mod_tellOne_289 rfl mo_Mod_278 mi_Mod_ends mv_Mod_ends rfl sh_401 (by decide) (by decide) rfl rfl (Nat.le_of_ble_eq_true rfl) ?_
      obtain ⟨M60, L61, hq59, h⟩ := bnd2 h
      refine f_Mod_ends hld  hq59 ?_
      dsimp only [psh]
      refine g_aload_n (pc1 := 293) d_Mod_tellOne_292 rfl 0 rfl ?_
      refine g_geti (pc1 := 296) d_Mod_tellOne_293 rfl ⟨_, fo_Mod_206⟩ sh_401 (by decide) ?_
      refine g_if_ne (pc1 := 299) (tgt := 397) d_Mod_tellOne_296 (by decide) rfl (fun c62 => ?_) (fun c62 => ?_)
      · replace h := itn h c62
        refine g_return rfl d_Mod_tellOne_397 rfl ?_
        cases h; exact hQ
      · replace h := itp h c62
        refine g_aload_n (pc1 := 300) d_Mod_tellOne_299 rfl 0 rfl ?_
        refine g_getr (pc1 := 303) d_Mod_tellOne_300 rfl ⟨_, fo_Mod_73⟩ sh_401 (by decide) (rf_401_32 ld) ?_
        refine g_aload_n (pc1 := 304) d_Mod_tellOne_303 rfl 0 rfl ?_
        refine g_geti (pc1 := 307) d_Mod_tellOne_304 rfl ⟨_, fo_Mod_239⟩ sh_401 (by decide) ?_
        refine g_dup2 (pc1 := 308) d_Mod_tellOne_307 rfl rfl rfl ?_
        obtain ⟨g63, h⟩ := gdn h
        refine g_iald (pc1 := 309) d_Mod_tellOne_308 rfl sh_420 (by decide) g63 ?_
        refine g_iconst (pc1 := 310) (v := 1) d_Mod_tellOne_309 rfl (by decide) ?_
        refine g_iadd (pc1 := 311) d_Mod_tellOne_310 rfl ?_
        obtain ⟨g64, h⟩ := gdn h
        refine g_iast (pc1 := 312) d_Mod_tellOne_311 rfl sh_420 (by decide) g64 ?_
        refine Wp.lM h (fun M65 h => ?_)
        refine g_goto (tgt := 397) d_Mod_tellOne_312 (by decide) ?_
        refine g_return rfl d_Mod_tellOne_397 rfl ?_
        cases h; exact hQ
    · replace h := itn h c43
      refine g_return rfl d_Mod_tellOne_223 rfl ?_
      cases h; exact hQ
  replace h := itn h c39
  by_cases c66 : (M 404 ((M 401 11) : Int32).toNatClampNeg) = 24
  · replace h := itp h c66
    refine g_tabK (tgt := 344) (off := 335) d_Mod_tellOne_9 c66 (by decide) (by decide) (by decide) (by decide) ?_
    refine g_aload_n (pc1 := 345) d_Mod_tellOne_344 rfl 0 rfl ?_
    refine g_getr (pc1 := 348) d_Mod_tellOne_345 rfl ⟨_, fo_Mod_20⟩ sh_401 (by decide) (rf_401_5 ld) ?_
    refine g_aload_n (pc1 := 349) d_Mod_tellOne_348 rfl 0 rfl ?_
    refine g_geti (pc1 := 352) d_Mod_tellOne_349 rfl ⟨_, fo_Mod_209⟩ sh_401 (by decide) ?_
    obtain ⟨g67, h⟩ := gdn h
    refine g_iald (pc1 := 353) d_Mod_tellOne_352 rfl sh_404 (by decide) g67 ?_
    refine g_bipush (pc1 := 355) (v := 24) d_Mod_tellOne_353 rfl (by decide) ?_
    refine g_isub (pc1 := 356) d_Mod_tellOne_355 rfl ?_
    refine Wp.lI h (fun x68 h => ?_)
    refine g_istore_n (pc1 := 357) (lv' := [(0, .ref 401), (1, .int x68)]) d_Mod_tellOne_356 rfl rfl (by decide) [1, 0] rfl ?_
    refine g_iload_n (pc1 := 358) d_Mod_tellOne_357 rfl 1 rfl ?_
    refine g_if_lt (pc1 := 361) (tgt := 375) d_Mod_tellOne_358 (by decide) rfl (fun c69 => ?_) (fun c69 => ?_)
    · replace h := itp h c69
      exact j_Mod_tellOne_375 hld  hQ  h
    · replace h := itn h c69
      refine g_aload_n (pc1 := 362) d_Mod_tellOne_361 rfl 0 rfl ?_
      refine g_getr (pc1 := 365) d_Mod_tellOne_362 rfl ⟨_, fo_Mod_20⟩ sh_401 (by decide) (rf_401_5 ld) ?_
      refine g_aload_n (pc1 := 366) d_Mod_tellOne_365 rfl 0 rfl ?_
      refine g_geti (pc1 := 369) d_Mod_tellOne_366 rfl ⟨_, fo_Mod_209⟩ sh_401 (by decide) ?_
      obtain ⟨g77, h⟩ := gdn h
      refine g_iald (pc1 := 370) d_Mod_tellOne_369 rfl sh_404 (by decide) g77 ?_
      refine g_bipush (pc1 := 372) (v := 27) d_Mod_tellOne_370 rfl (by decide) ?_
      refine g_icmp_le (pc1 := 375) (tgt := 380) d_Mod_tellOne_372 (by decide) rfl (fun c78 => ?_) (fun c78 => ?_)
      · replace h := itp h c78
        exact j_Mod_tellOne_380 hld  hQ  h
      · replace h := itn h c78
        exact j_Mod_tellOne_375 hld  hQ  h
  replace h := itn h c66
  by_cases c79 : (M 404 ((M 401 11) : Int32).toNatClampNeg) = 25
  · replace h := itp h c79
    refine g_tabK (tgt := 344) (off := 335) d_Mod_tellOne_9 c79 (by decide) (by decide) (by decide) (by decide) ?_
    refine g_aload_n (pc1 := 345) d_Mod_tellOne_344 rfl 0 rfl ?_
    refine g_getr (pc1 := 348) d_Mod_tellOne_345 rfl ⟨_, fo_Mod_20⟩ sh_401 (by decide) (rf_401_5 ld) ?_
    refine g_aload_n (pc1 := 349) d_Mod_tellOne_348 rfl 0 rfl ?_
    refine g_geti (pc1 := 352) d_Mod_tellOne_349 rfl ⟨_, fo_Mod_209⟩ sh_401 (by decide) ?_
    obtain ⟨g80, h⟩ := gdn h
    refine g_iald (pc1 := 353) d_Mod_tellOne_352 rfl sh_404 (by decide) g80 ?_
    refine g_bipush (pc1 := 355) (v := 24) d_Mod_tellOne_353 rfl (by decide) ?_
    refine g_isub (pc1 := 356) d_Mod_tellOne_355 rfl ?_
    refine Wp.lI h (fun x81 h => ?_)
    refine g_istore_n (pc1 := 357) (lv' := [(0, .ref 401), (1, .int x81)]) d_Mod_tellOne_356 rfl rfl (by decide) [1, 0] rfl ?_
    refine g_iload_n (pc1 := 358) d_Mod_tellOne_357 rfl 1 rfl ?_
    refine g_if_lt (pc1 := 361) (tgt := 375) d_Mod_tellOne_358 (by decide) rfl (fun c82 => ?_) (fun c82 => ?_)
    · replace h := itp h c82
      exact j_Mod_tellOne_375 hld  hQ  h
    · replace h := itn h c82
      refine g_aload_n (pc1 := 362) d_Mod_tellOne_361 rfl 0 rfl ?_
      refine g_getr (pc1 := 365) d_Mod_tellOne_362 rfl ⟨_, fo_Mod_20⟩ sh_401 (by decide) (rf_401_5 ld) ?_
      refine g_aload_n (pc1 := 366) d_Mod_tellOne_365 rfl 0 rfl ?_
      refine g_geti (pc1 := 369) d_Mod_tellOne_366 rfl ⟨_, fo_Mod_209⟩ sh_401 (by decide) ?_
      obtain ⟨g83, h⟩ := gdn h
      refine g_iald (pc1 := 370) d_Mod_tellOne_369 rfl sh_404 (by decide) g83 ?_
      refine g_bipush (pc1 := 372) (v := 27) d_Mod_tellOne_370 rfl (by decide) ?_
      refine g_icmp_le (pc1 := 375) (tgt := 380) d_Mod_tellOne_372 (by decide) rfl (fun c84 => ?_) (fun c84 => ?_)
      · replace h := itp h c84
        exact j_Mod_tellOne_380 hld  hQ  h
      · replace h := itn h c84
        exact j_Mod_tellOne_375 hld  hQ  h
  replace h := itn h c79
  by_cases c85 : (M 404 ((M 401 11) : Int32).toNatClampNeg) = 26
  · replace h := itp h c85
    refine g_tabK (tgt := 344) (off := 335) d_Mod_tellOne_9 c85 (by decide) (by decide) (by decide) (by decide) ?_
    refine g_aload_n (pc1 := 345) d_Mod_tellOne_344 rfl 0 rfl ?_
    refine g_getr (pc1 := 348) d_Mod_tellOne_345 rfl ⟨_, fo_Mod_20⟩ sh_401 (by decide) (rf_401_5 ld) ?_
    refine g_aload_n (pc1 := 349) d_Mod_tellOne_348 rfl 0 rfl ?_
    refine g_geti (pc1 := 352) d_Mod_tellOne_349 rfl ⟨_, fo_Mod_209⟩ sh_401 (by decide) ?_
    obtain ⟨g86, h⟩ := gdn h
    refine g_iald (pc1 := 353) d_Mod_tellOne_352 rfl sh_404 (by decide) g86 ?_
    refine g_bipush (pc1 := 355) (v := 24) d_Mod_tellOne_353 rfl (by decide) ?_
    refine g_isub (pc1 := 356) d_Mod_tellOne_355 rfl ?_
    refine Wp.lI h (fun x87 h => ?_)
    refine g_istore_n (pc1 := 357) (lv' := [(0, .ref 401), (1, .int x87)]) d_Mod_tellOne_356 rfl rfl (by decide) [1, 0] rfl ?_
    refine g_iload_n (pc1 := 358) d_Mod_tellOne_357 rfl 1 rfl ?_
    refine g_if_lt (pc1 := 361) (tgt := 375) d_Mod_tellOne_358 (by decide) rfl (fun c88 => ?_) (fun c88 => ?_)
    · replace h := itp h c88
      exact j_Mod_tellOne_375 hld  hQ  h
    · replace h := itn h c88
      refine g_aload_n (pc1 := 362) d_Mod_tellOne_361 rfl 0 rfl ?_
      refine g_getr (pc1 := 365) d_Mod_tellOne_362 rfl ⟨_, fo_Mod_20⟩ sh_401 (by decide) (rf_401_5 ld) ?_
      refine g_aload_n (pc1 := 366) d_Mod_tellOne_365 rfl 0 rfl ?_
      refine g_geti (pc1 := 369) d_Mod_tellOne_366 rfl ⟨_, fo_Mod_209⟩ sh_401 (by decide) ?_
      obtain ⟨g89, h⟩ := gdn h
      refine g_iald (pc1 := 370) d_Mod_tellOne_369 rfl sh_404 (by decide) g89 ?_
      refine g_bipush (pc1 := 372) (v := 27) d_Mod_tellOne_370 rfl (by decide) ?_
      refine g_icmp_le (pc1 := 375) (tgt := 380) d_Mod_tellOne_372 (by decide) rfl (fun c90 => ?_) (fun c90 => ?_)
      · replace h := itp h c90
        exact j_Mod_tellOne_380 hld  hQ  h
      · replace h := itn h c90
        exact j_Mod_tellOne_375 hld  hQ  h
  replace h := itn h c85
  by_cases c91 : (M 404 ((M 401 11) : Int32).toNatClampNeg) = 27
  · replace h := itp h c91
    refine g_tabK (tgt := 344) (off := 335) d_Mod_tellOne_9 c91 (by decide) (by decide) (by decide) (by decide) ?_
    refine g_aload_n (pc1 := 345) d_Mod_tellOne_344 rfl 0 rfl ?_
    refine g_getr (pc1 := 348) d_Mod_tellOne_345 rfl ⟨_, fo_Mod_20⟩ sh_401 (by decide) (rf_401_5 ld) ?_
    refine g_aload_n (pc1 := 349) d_Mod_tellOne_348 rfl 0 rfl ?_
    refine g_geti (pc1 := 352) d_Mod_tellOne_349 rfl ⟨_, fo_Mod_209⟩ sh_401 (by decide) ?_
    obtain ⟨g92, h⟩ := gdn h
    refine g_iald (pc1 := 353) d_Mod_tellOne_352 rfl sh_404 (by decide) g92 ?_
    refine g_bipush (pc1 := 355) (v := 24) d_Mod_tellOne_353 rfl (by decide) ?_
    refine g_isub (pc1 := 356) d_Mod_tellOne_355 rfl ?_
    refine Wp.lI h (fun x93 h => ?_)
    refine g_istore_n (pc1 := 357) (lv' := [(0, .ref 401), (1, .int x93)]) d_Mod_tellOne_356 rfl rfl (by decide) [1, 0] rfl ?_
    refine g_iload_n (pc1 := 358) d_Mod_tellOne_357 rfl 1 rfl ?_
    refine g_if_lt (pc1 := 361) (tgt := 375) d_Mod_tellOne_358 (by decide) rfl (fun c94 => ?_) (fun c94 => ?_)
    · replace h := itp h c94
      exact j_Mod_tellOne_375 hld  hQ  h
    · replace h := itn h c94
      refine g_aload_n (pc1 := 362) d_Mod_tellOne_361 rfl 0 rfl ?_
      refine g_getr (pc1 := 365) d_Mod_tellOne_362 rfl ⟨_, fo_Mod_20⟩ sh_401 (by decide) (rf_401_5 ld) ?_
      refine g_aload_n (pc1 := 366) d_Mod_tellOne_365 rfl 0 rfl ?_
      refine g_geti (pc1 := 369) d_Mod_tellOne_366 rfl ⟨_, fo_Mod_209⟩ sh_401 (by decide) ?_
      obtain ⟨g95, h⟩ := gdn h
      refine g_iald (pc1 := 370) d_Mod_tellOne_369 rfl sh_404 (by decide) g95 ?_
      refine g_bipush (pc1 := 372) (v := 27) d_Mod_tellOne_370 rfl (by decide) ?_
      refine g_icmp_le (pc1 := 375) (tgt := 380) d_Mod_tellOne_372 (by decide) rfl (fun c96 => ?_) (fun c96 => ?_)
      · replace h := itp h c96
        exact j_Mod_tellOne_380 hld  hQ  h
      · replace h := itn h c96
        exact j_Mod_tellOne_375 hld  hQ  h
  replace h := itn h c91
  by_cases c97 : (M 404 ((M 401 11) : Int32).toNatClampNeg) = 28
  · replace h := itp h c97
    refine g_tabK (tgt := 315) (off := 306) d_Mod_tellOne_9 c97 (by decide) (by decide) (by decide) (by decide) ?_
    refine g_aload_n (pc1 := 316) d_Mod_tellOne_315 rfl 0 rfl ?_
    refine g_callV0 (pc1 := 319) (As := []) (rest := []) d_Mod_tellOne_316 rfl mo_Mod_227 mi_Mod_goesOn mv_Mod_goesOn rfl sh_401 (by decide) (by decide) rfl rfl (Nat.le_of_ble_eq_true rfl) ?_
    obtain ⟨M99, hq98, h⟩ := bnd h
    refine f_Mod_goesOn hld  hq98 ?_
    dsimp only [psh]
    refine g_aload_n (pc1 := 320) d_Mod_tellOne_319 rfl 0 rfl ?_
    refine g_getr (pc1 := 323) d_Mod_tellOne_320 rfl ⟨_, fo_Mod_82⟩ sh_401 (by decide) (rf_401_35 ld) ?_
    refine g_aload_n (pc1 := 324) d_Mod_tellOne_323 rfl 0 rfl ?_
    refine g_geti (pc1 := 327) d_Mod_tellOne_324 rfl ⟨_, fo_Mod_239⟩ sh_401 (by decide) ?_
    refine g_aload_n (pc1 := 328) d_Mod_tellOne_327 rfl 0 rfl ?_
    refine g_iconst (pc1 := 329) (v := 0) d_Mod_tellOne_328 rfl (by decide) ?_
    refine g_sipush (pc1 := 332) (v := 9999) d_Mod_tellOne_329 rfl (by decide) ?_
    refine g_callV0 (pc1 := 335) (As := [.int 0, .int 9999]) (rest := [.int (M99 401 19), .ref 423]) d_Mod_tellOne_332 rfl mo_Mod_274 mi_Mod_bounded mv_Mod_bounded rfl sh_401 (by decide) (by decide) rfl rfl (Nat.le_of_ble_eq_true rfl) ?_
    obtain ⟨r101, M102, hq100, h⟩ := bnd2 h
    refine f_Mod_bounded hld  hq100 ?_
    dsimp only [psh]
    obtain ⟨g103, h⟩ := gdn h
    refine g_iast (pc1 := 336) d_Mod_tellOne_335 rfl sh_423 (by decide) g103 ?_
    refine Wp.lM h (fun M104 h => ?_)
    refine g_aload_n (pc1 := 337) d_Mod_tellOne_336 rfl 0 rfl ?_
    refine g_iconst (pc1 := 338) (v := 4) d_Mod_tellOne_337 rfl (by decide) ?_
    refine g_callV0 (pc1 := 341) (As := [.int 4]) (rest := []) d_Mod_tellOne_338 rfl mo_Mod_281 mi_Mod_must mv_Mod_must rfl sh_401 (by decide) (by decide) rfl rfl (Nat.le_of_ble_eq_true rfl) ?_
    obtain ⟨M106, hq105, h⟩ := bnd h
    refine f_Mod_must hld  hq105 ?_
    dsimp only [psh]
    refine g_goto (tgt := 397) d_Mod_tellOne_341 (by decide) ?_
    refine g_return rfl d_Mod_tellOne_397 rfl ?_
    cases h; exact hQ
  replace h := itn h c97
  refine g_tabOut (tgt := 344) d_Mod_tellOne_9 (by
    have nc2 := neT (a := 20) c2 (by decide)
    have nc10 := neT (a := 21) c10 (by decide)
    have nc18 := neT (a := 22) c18 (by decide)
    have nc39 := neT (a := 23) c39 (by decide)
    have nc66 := neT (a := 24) c66 (by decide)
    have nc79 := neT (a := 25) c79 (by decide)
    have nc85 := neT (a := 26) c85 (by decide)
    have nc91 := neT (a := 27) c91 (by decide)
    have nc97 := neT (a := 28) c97 (by decide)
    omega) (by decide) ?_
  refine g_aload_n (pc1 := 345) d_Mod_tellOne_344 rfl 0 rfl ?_
  refine g_getr (pc1 := 348) d_Mod_tellOne_345 rfl ⟨_, fo_Mod_20⟩ sh_401 (by decide) (rf_401_5 ld) ?_
  refine g_aload_n (pc1 := 349) d_Mod_tellOne_348 rfl 0 rfl ?_
  refine g_geti (pc1 := 352) d_Mod_tellOne_349 rfl ⟨_, fo_Mod_209⟩ sh_401 (by decide) ?_
  obtain ⟨g107, h⟩ := gdn h
  refine g_iald (pc1 := 353) d_Mod_tellOne_352 rfl sh_404 (by decide) g107 ?_
  refine g_bipush (pc1 := 355) (v := 24) d_Mod_tellOne_353 rfl (by decide) ?_
  refine g_isub (pc1 := 356) d_Mod_tellOne_355 rfl ?_
  refine Wp.lI h (fun x108 h => ?_)
  refine g_istore_n (pc1 := 357) (lv' := [(0, .ref 401), (1, .int x108)]) d_Mod_tellOne_356 rfl rfl (by decide) [1, 0] rfl ?_
  refine g_iload_n (pc1 := 358) d_Mod_tellOne_357 rfl 1 rfl ?_
  refine g_if_lt (pc1 := 361) (tgt := 375) d_Mod_tellOne_358 (by decide) rfl (fun c109 => ?_) (fun c109 => ?_)
  · replace h := itp h c109
    exact j_Mod_tellOne_375 hld  hQ  h
  · replace h := itn h c109
    refine g_aload_n (pc1 := 362) d_Mod_tellOne_361 rfl 0 rfl ?_
    refine g_getr (pc1 := 365) d_Mod_tellOne_362 rfl ⟨_, fo_Mod_20⟩ sh_401 (by decide) (rf_401_5 ld) ?_
    refine g_aload_n (pc1 := 366) d_Mod_tellOne_365 rfl 0 rfl ?_
    refine g_geti (pc1 := 369) d_Mod_tellOne_366 rfl ⟨_, fo_Mod_209⟩ sh_401 (by decide) ?_
    obtain ⟨g110, h⟩ := gdn h
    refine g_iald (pc1 := 370) d_Mod_tellOne_369 rfl sh_404 (by decide) g110 ?_
    refine g_bipush (pc1 := 372) (v := 27) d_Mod_tellOne_370 rfl (by decide) ?_
    refine g_icmp_le (pc1 := 375) (tgt := 380) d_Mod_tellOne_372 (by decide) rfl (fun c111 => ?_) (fun c111 => ?_)
    · replace h := itp h c111
      exact j_Mod_tellOne_380 hld  hQ  h
    · replace h := itn h c111
      exact j_Mod_tellOne_375 hld  hQ  h

def J_Mod_eat_78 (v1 : Int32) (M : gM) : Option (Int32 × gM) :=
  (if ((31 + v1) : Int32) < 0 ∨ 38 ≤ ((31 + v1) : Int32).toNatClampNeg then none else (if ((31 + v1) : Int32) < 0 ∨ 38 ≤ ((31 + v1) : Int32).toNatClampNeg then none else nmM (uM M 437 ((31 + v1) : Int32).toNatClampNeg ((M 437 ((31 + v1) : Int32).toNatClampNeg) + 1)) (fun M12 => bI (F_Mod_records M12) (fun M14 => bI2 (F_Mod_freeBits v1 M14) (fun r16 M17 => some (r16, M17))))))
set_option maxHeartbeats 4000000 in
set_option maxRecDepth 20000 in
theorem j_Mod_eat_78 {l : Launch} {ld : Nat} {Q : Option Value → gM → gL → gR → Prop} (hld : isLa ld)   {q : Int32 × gM} {M : gM} {L : gL} (hQ : Q (some (.int q.1)) q.2 L (rf ld))  {v1 : Int32}  (h : J_Mod_eat_78 v1 M = some q) : Wp l y_Mod_eat (0, 0, 447) 447 0 0 78 [(0, .ref 401), (1, .int v1)] [] M L (rf ld) Q := by
  unfold J_Mod_eat_78 at h
  refine g_aload_n (pc1 := 79) d_Mod_eat_78 rfl 0 rfl ?_
  refine g_getr (pc1 := 82) d_Mod_eat_79 rfl ⟨_, fo_Mod_125⟩ sh_401 (by decide) (rf_401_53 ld) ?_
  refine g_bipush (pc1 := 84) (v := 31) d_Mod_eat_82 rfl (by decide) ?_
  refine g_iload_n (pc1 := 85) d_Mod_eat_84 rfl 1 rfl ?_
  refine g_iadd (pc1 := 86) d_Mod_eat_85 rfl ?_
  refine g_dup2 (pc1 := 87) d_Mod_eat_86 rfl rfl rfl ?_
  obtain ⟨g10, h⟩ := gdn h
  refine g_iald (pc1 := 88) d_Mod_eat_87 rfl sh_437 (by decide) g10 ?_
  refine g_iconst (pc1 := 89) (v := 1) d_Mod_eat_88 rfl (by decide) ?_
  refine g_iadd (pc1 := 90) d_Mod_eat_89 rfl ?_
  obtain ⟨g11, h⟩ := gdn h
  refine g_iast (pc1 := 91) d_Mod_eat_90 rfl sh_437 (by decide) g11 ?_
  refine Wp.lM h (fun M12 h => ?_)
  refine g_aload_n (pc1 := 92) d_Mod_eat_91 rfl 0 rfl ?_
  refine g_callV0 (pc1 := 95) (As := []) (rest := []) d_Mod_eat_92 rfl mo_Mod_392 mi_Mod_records mv_Mod_records rfl sh_401 (by decide) (by decide) rfl rfl (Nat.le_of_ble_eq_true rfl) ?_
  obtain ⟨M14, hq13, h⟩ := bnd h
  refine f_Mod_records hld  hq13 ?_
  dsimp only [psh]
  refine g_aload_n (pc1 := 96) d_Mod_eat_95 rfl 0 rfl ?_
  refine g_iload_n (pc1 := 97) d_Mod_eat_96 rfl 1 rfl ?_
  refine g_callV0 (pc1 := 100) (As := [.int v1]) (rest := []) d_Mod_eat_97 rfl mo_Mod_395 mi_Mod_freeBits mv_Mod_freeBits rfl sh_401 (by decide) (by decide) rfl rfl (Nat.le_of_ble_eq_true rfl) ?_
  obtain ⟨r16, M17, hq15, h⟩ := bnd2 h
  refine f_Mod_freeBits hld  hq15 ?_
  dsimp only [psh]
  refine g_ireturn (Or.inl rfl) d_Mod_eat_100 rfl ?_
  cases h; exact hQ
def B_Mod_eat_45 (v1 : Int32) (K45 : Int32 → gM → Option (Int32 × gM)) : Int32 → gM → Option (Int32 × gM) := fun v2 M =>
  (if 3 ≤ v2 then J_Mod_eat_78 v1 M else (if ((12 + v2) : Int32) < 0 ∨ 38 ≤ ((12 + v2) : Int32).toNatClampNeg then none else (if (((19 + (3 * v1)) + v2) : Int32) < 0 ∨ 38 ≤ (((19 + (3 * v1)) + v2) : Int32).toNatClampNeg then none else nmM (uM M 437 (((19 + (3 * v1)) + v2) : Int32).toNatClampNeg (M 437 ((12 + v2) : Int32).toNatClampNeg)) (fun M20 => nmI (v2 + 1) (fun x21 => K45 x21 M20)))))
def H_Mod_eat_45 (v1 : Int32) : Nat → Int32 → gM → Option (Int32 × gM) := lpK (B_Mod_eat_45 v1) (fun _ _ => none)
set_option maxHeartbeats 4000000 in
set_option maxRecDepth 20000 in
theorem h_Mod_eat_45 {l : Launch} {ld : Nat} {Q : Option Value → gM → gL → gR → Prop} (hld : isLa ld)   {q : Int32 × gM} {L : gL} (hQ : Q (some (.int q.1)) q.2 L (rf ld))  {v1 : Int32}  : ∀ (f : Nat) (v2 : Int32) (M : gM), H_Mod_eat_45 v1 f v2 M = some q → Wp l y_Mod_eat (0, 0, 447) 447 0 0 45 [(0, .ref 401), (1, .int v1), (2, .int v2)] [] M L (rf ld) Q := by
  intro f
  induction f with
  | zero => intro v2 M h; cases h
  | succ f hK45 =>
    intro v2 M h
    replace h : B_Mod_eat_45 v1 (H_Mod_eat_45 v1 f) v2 M = some q := h
    unfold B_Mod_eat_45 at h
    refine g_iload_n (pc1 := 46) d_Mod_eat_45 rfl 2 rfl ?_
    refine g_iconst (pc1 := 47) (v := 3) d_Mod_eat_46 rfl (by decide) ?_
    refine g_icmp_ge (pc1 := 50) (tgt := 78) d_Mod_eat_47 (by decide) rfl (fun c9 => ?_) (fun c9 => ?_)
    · replace h := itp h c9
      refine Wp.loc (lv' := [(0, .ref 401), (1, .int v1)]) [0, 1] rfl ?_
      exact j_Mod_eat_78 hld  hQ  h
    · replace h := itn h c9
      refine g_aload_n (pc1 := 51) d_Mod_eat_50 rfl 0 rfl ?_
      refine g_getr (pc1 := 54) d_Mod_eat_51 rfl ⟨_, fo_Mod_125⟩ sh_401 (by decide) (rf_401_53 ld) ?_
      refine g_bipush (pc1 := 56) (v := 19) d_Mod_eat_54 rfl (by decide) ?_
      refine g_iconst (pc1 := 57) (v := 3) d_Mod_eat_56 rfl (by decide) ?_
      refine g_iload_n (pc1 := 58) d_Mod_eat_57 rfl 1 rfl ?_
      refine g_imul (pc1 := 59) d_Mod_eat_58 rfl ?_
      refine g_iadd (pc1 := 60) d_Mod_eat_59 rfl ?_
      refine g_iload_n (pc1 := 61) d_Mod_eat_60 rfl 2 rfl ?_
      refine g_iadd (pc1 := 62) d_Mod_eat_61 rfl ?_
      refine g_aload_n (pc1 := 63) d_Mod_eat_62 rfl 0 rfl ?_
      refine g_getr (pc1 := 66) d_Mod_eat_63 rfl ⟨_, fo_Mod_125⟩ sh_401 (by decide) (rf_401_53 ld) ?_
      refine g_bipush (pc1 := 68) (v := 12) d_Mod_eat_66 rfl (by decide) ?_
      refine g_iload_n (pc1 := 69) d_Mod_eat_68 rfl 2 rfl ?_
      refine g_iadd (pc1 := 70) d_Mod_eat_69 rfl ?_
      obtain ⟨g18, h⟩ := gdn h
      refine g_iald (pc1 := 71) d_Mod_eat_70 rfl sh_437 (by decide) g18 ?_
      obtain ⟨g19, h⟩ := gdn h
      refine g_iast (pc1 := 72) d_Mod_eat_71 rfl sh_437 (by decide) g19 ?_
      refine Wp.lM h (fun M20 h => ?_)
      obtain ⟨x21, ex21, h⟩ := ltI h
      refine g_iinc (pc1 := 75) (v := x21) (lv' := [(0, .ref 401), (1, .int v1), (2, .int x21)]) d_Mod_eat_72 rfl 2 rfl (by rw [ex21]; rfl) (by decide) [1, 2, 0] rfl ?_
      refine g_goto (tgt := 45) d_Mod_eat_75 (by decide) ?_
      exact hK45 x21 M20 h
def F_Mod_eat (p1 : Int32) (M : gM) : Option (Int32 × gM) :=
  bI (F_Mod_isGuest p1 M) (fun r2 => (if r2 = 0 then some ((-1), M) else bI (F_Mod_copies M) (fun M5 => (if 0 ≤ (M5 437 11) then (if ((15 + p1) : Int32) < 0 ∨ 38 ≤ ((15 + p1) : Int32).toNatClampNeg then none else nmM (uM M5 437 ((15 + p1) : Int32).toNatClampNeg (M5 437 35)) (fun M8 => H_Mod_eat_45 p1 FU 0 M8)) else some ((-2), M5)))))
set_option maxHeartbeats 4000000 in
set_option maxRecDepth 20000 in
theorem f_Mod_eat {l : Launch} {ld : Nat} {M : gM} {L : gL} {Q : Option Value → gM → gL → gR → Prop} (hld : isLa ld) {p1 : Int32}  {q : Int32 × gM} (h : F_Mod_eat p1 M = some q) (hQ : Q (some (.int q.1)) q.2 L (rf ld)) : Tm l y_Mod_eat (0, 0, 447) 447 [.ref 401, .int p1] M L (rf ld) Q := by
  refine Tm.of (by decide) (Nat.le_of_ble_eq_true rfl) ?_
  show Wp l y_Mod_eat (0, 0, 447) 447 0 0 0 [(0, .ref 401), (1, .int p1)] [] M L (rf ld) Q
  unfold F_Mod_eat at h
  refine g_aload_n (pc1 := 1) d_Mod_eat_0 rfl 0 rfl ?_
  refine g_iload_n (pc1 := 2) d_Mod_eat_1 rfl 1 rfl ?_
  refine g_callV0 (pc1 := 5) (As := [.int p1]) (rest := []) d_Mod_eat_2 rfl mo_Mod_380 mi_Mod_isGuest mv_Mod_isGuest rfl sh_401 (by decide) (by decide) rfl rfl (Nat.le_of_ble_eq_true rfl) ?_
  obtain ⟨r2, hq1, h⟩ := bnd h
  refine f_Mod_isGuest hld  hq1 ?_
  dsimp only [psh]
  refine g_if_ne (pc1 := 8) (tgt := 10) d_Mod_eat_5 (by decide) rfl (fun c3 => ?_) (fun c3 => ?_)
  · replace h := itn h c3
    refine g_aload_n (pc1 := 11) d_Mod_eat_10 rfl 0 rfl ?_
    refine g_callV0 (pc1 := 14) (As := []) (rest := []) d_Mod_eat_11 rfl mo_Mod_377 mi_Mod_copies mv_Mod_copies rfl sh_401 (by decide) (by decide) rfl rfl (Nat.le_of_ble_eq_true rfl) ?_
    obtain ⟨M5, hq4, h⟩ := bnd h
    refine f_Mod_copies hld  hq4 ?_
    dsimp only [psh]
    refine g_aload_n (pc1 := 15) d_Mod_eat_14 rfl 0 rfl ?_
    refine g_getr (pc1 := 18) d_Mod_eat_15 rfl ⟨_, fo_Mod_125⟩ sh_401 (by decide) (rf_401_53 ld) ?_
    refine g_bipush (pc1 := 20) (v := 11) d_Mod_eat_18 rfl (by decide) ?_
    refine g_iald (pc1 := 21) d_Mod_eat_20 rfl sh_437 (by decide) (vin_lit (x := 11) (by decide)) ?_
    refine Wp.vali (y := (M5 437 11)) (congrArg (M5 437) (by decide)) ?_
    refine g_if_ge (pc1 := 24) (tgt := 27) d_Mod_eat_21 (by decide) rfl (fun c6 => ?_) (fun c6 => ?_)
    · replace h := itp h c6
      refine g_aload_n (pc1 := 28) d_Mod_eat_27 rfl 0 rfl ?_
      refine g_getr (pc1 := 31) d_Mod_eat_28 rfl ⟨_, fo_Mod_125⟩ sh_401 (by decide) (rf_401_53 ld) ?_
      refine g_bipush (pc1 := 33) (v := 15) d_Mod_eat_31 rfl (by decide) ?_
      refine g_iload_n (pc1 := 34) d_Mod_eat_33 rfl 1 rfl ?_
      refine g_iadd (pc1 := 35) d_Mod_eat_34 rfl ?_
      refine g_aload_n (pc1 := 36) d_Mod_eat_35 rfl 0 rfl ?_
      refine g_getr (pc1 := 39) d_Mod_eat_36 rfl ⟨_, fo_Mod_125⟩ sh_401 (by decide) (rf_401_53 ld) ?_
      refine g_bipush (pc1 := 41) (v := 35) d_Mod_eat_39 rfl (by decide) ?_
      refine g_iald (pc1 := 42) d_Mod_eat_41 rfl sh_437 (by decide) (vin_lit (x := 35) (by decide)) ?_
      refine Wp.vali (y := (M5 437 35)) (congrArg (M5 437) (by decide)) ?_
      obtain ⟨g7, h⟩ := gdn h
      refine g_iast (pc1 := 43) d_Mod_eat_42 rfl sh_437 (by decide) g7 ?_
      refine Wp.lM h (fun M8 h => ?_)
      refine g_iconst (pc1 := 44) (v := 0) d_Mod_eat_43 rfl (by decide) ?_
      refine g_istore_n (pc1 := 45) (lv' := [(0, .ref 401), (1, .int p1), (2, .int 0)]) d_Mod_eat_44 rfl rfl (by decide) [1, 2, 0] rfl ?_
      exact h_Mod_eat_45 hld  hQ  _ 0 M8 h
    · replace h := itn h c6
      refine g_bipush (pc1 := 26) (v := (-2)) d_Mod_eat_24 rfl (by decide) ?_
      refine g_ireturn (Or.inl rfl) d_Mod_eat_26 rfl ?_
      cases h; exact hQ
  · replace h := itp h c3
    refine g_iconst (pc1 := 9) (v := (-1)) d_Mod_eat_8 rfl (by decide) ?_
    refine g_ireturn (Or.inl rfl) d_Mod_eat_9 rfl ?_
    cases h; exact hQ

def J_Mod_freestOf_63 (K10 : Int32 → Int32 → gM → Option (Int32 × gM)) (v1 : Int32) (v2 : Int32) (v3 : Int32) (M : gM) : Option (Int32 × gM) :=
  nmI (v3 + 1) (fun x15 => K10 v2 x15 M)
set_option maxHeartbeats 4000000 in
set_option maxRecDepth 20000 in
theorem j_Mod_freestOf_63 {l : Launch} {ld : Nat} {Q : Option Value → gM → gL → gR → Prop} (hld : isLa ld)   {q : Int32 × gM} {M : gM} {L : gL} (hQ : Q (some (.int q.1)) q.2 L (rf ld)) {K10 : Int32 → Int32 → gM → Option (Int32 × gM)} {v1 : Int32} {v2 : Int32} {v3 : Int32} (hK10 : ∀ (w2 : Int32) (w3 : Int32) (M : gM), K10 w2 w3 M = some q → Wp l y_Mod_freestOf (0, 0, 447) 447 0 0 10 [(0, .ref 401), (1, .int v1), (2, .int w2), (3, .int w3)] [] M L (rf ld) Q) (h : J_Mod_freestOf_63 K10 v1 v2 v3 M = some q) : Wp l y_Mod_freestOf (0, 0, 447) 447 0 0 63 [(0, .ref 401), (1, .int v1), (2, .int v2), (3, .int v3)] [] M L (rf ld) Q := by
  unfold J_Mod_freestOf_63 at h
  obtain ⟨x15, ex15, h⟩ := ltI h
  refine g_iinc (pc1 := 66) (v := x15) (lv' := [(0, .ref 401), (1, .int v1), (2, .int v2), (3, .int x15)]) d_Mod_freestOf_63 rfl 3 rfl (by rw [ex15]; rfl) (by decide) [1, 2, 3, 0] rfl ?_
  refine g_goto (tgt := 10) d_Mod_freestOf_66 (by decide) ?_
  exact hK10 v2 x15 M h
def B_Mod_freestOf_10 (v1 : Int32) (K10 : Int32 → Int32 → gM → Option (Int32 × gM)) : Int32 → Int32 → gM → Option (Int32 × gM) := fun v2 v3 M =>
  (if ((M 401 18) : Int32) < 0 ∨ 2 ≤ ((M 401 18) : Int32).toNatClampNeg then none else (if (M 415 ((M 401 18) : Int32).toNatClampNeg) ≤ v3 then some (v2, M) else bI (F_Mod_copies M) (fun M5 => bI (F_Mod_eatsDish v1 v3 M5) (fun M7 => bI2 (F_Mod_freeBits v1 M7) (fun r9 M10 => bI (F_Mod_bits r9) (fun r12 => (if (M10 401 63) < r12 then nmM (uM M10 401 63 r12) (fun M14 => J_Mod_freestOf_63 K10 v1 v3 v3 M14) else J_Mod_freestOf_63 K10 v1 v2 v3 M10)))))))
def H_Mod_freestOf_10 (v1 : Int32) : Nat → Int32 → Int32 → gM → Option (Int32 × gM) := lpK (B_Mod_freestOf_10 v1) (fun _ _ _ => none)
set_option maxHeartbeats 4000000 in
set_option maxRecDepth 20000 in
theorem h_Mod_freestOf_10 {l : Launch} {ld : Nat} {Q : Option Value → gM → gL → gR → Prop} (hld : isLa ld)   {q : Int32 × gM} {L : gL} (hQ : Q (some (.int q.1)) q.2 L (rf ld))  {v1 : Int32}  : ∀ (f : Nat) (v2 : Int32) (v3 : Int32) (M : gM), H_Mod_freestOf_10 v1 f v2 v3 M = some q → Wp l y_Mod_freestOf (0, 0, 447) 447 0 0 10 [(0, .ref 401), (1, .int v1), (2, .int v2), (3, .int v3)] [] M L (rf ld) Q := by
  intro f
  induction f with
  | zero => intro v2 v3 M h; cases h
  | succ f hK10 =>
    intro v2 v3 M h
    replace h : B_Mod_freestOf_10 v1 (H_Mod_freestOf_10 v1 f) v2 v3 M = some q := h
    unfold B_Mod_freestOf_10 at h
    refine g_iload_n (pc1 := 11) d_Mod_freestOf_10 rfl 3 rfl ?_
    refine g_aload_n (pc1 := 12) d_Mod_freestOf_11 rfl 0 rfl ?_
    refine g_getr (pc1 := 15) d_Mod_freestOf_12 rfl ⟨_, fo_Mod_58⟩ sh_401 (by decide) (rf_401_27 ld) ?_
    refine g_aload_n (pc1 := 16) d_Mod_freestOf_15 rfl 0 rfl ?_
    refine g_geti (pc1 := 19) d_Mod_freestOf_16 rfl ⟨_, fo_Mod_236⟩ sh_401 (by decide) ?_
    obtain ⟨g2, h⟩ := gdn h
    refine g_iald (pc1 := 20) d_Mod_freestOf_19 rfl sh_415 (by decide) g2 ?_
    refine g_icmp_ge (pc1 := 23) (tgt := 69) d_Mod_freestOf_20 (by decide) rfl (fun c3 => ?_) (fun c3 => ?_)
    · replace h := itp h c3
      refine g_iload_n (pc1 := 70) d_Mod_freestOf_69 rfl 2 rfl ?_
      refine g_ireturn (Or.inl rfl) d_Mod_freestOf_70 rfl ?_
      cases h; exact hQ
    · replace h := itn h c3
      refine g_aload_n (pc1 := 24) d_Mod_freestOf_23 rfl 0 rfl ?_
      refine g_callV0 (pc1 := 27) (As := []) (rest := []) d_Mod_freestOf_24 rfl mo_Mod_377 mi_Mod_copies mv_Mod_copies rfl sh_401 (by decide) (by decide) rfl rfl (Nat.le_of_ble_eq_true rfl) ?_
      obtain ⟨M5, hq4, h⟩ := bnd h
      refine f_Mod_copies hld  hq4 ?_
      dsimp only [psh]
      refine g_aload_n (pc1 := 28) d_Mod_freestOf_27 rfl 0 rfl ?_
      refine g_iload_n (pc1 := 29) d_Mod_freestOf_28 rfl 1 rfl ?_
      refine g_iload_n (pc1 := 30) d_Mod_freestOf_29 rfl 3 rfl ?_
      refine g_callV0 (pc1 := 33) (As := [.int v1, .int v3]) (rest := []) d_Mod_freestOf_30 rfl mo_Mod_431 mi_Mod_eatsDish mv_Mod_eatsDish rfl sh_401 (by decide) (by decide) rfl rfl (Nat.le_of_ble_eq_true rfl) ?_
      obtain ⟨M7, hq6, h⟩ := bnd h
      refine f_Mod_eatsDish hld  hq6 ?_
      dsimp only [psh]
      refine g_aload_n (pc1 := 34) d_Mod_freestOf_33 rfl 0 rfl ?_
      refine g_iload_n (pc1 := 35) d_Mod_freestOf_34 rfl 1 rfl ?_
      refine g_callV0 (pc1 := 38) (As := [.int v1]) (rest := []) d_Mod_freestOf_35 rfl mo_Mod_395 mi_Mod_freeBits mv_Mod_freeBits rfl sh_401 (by decide) (by decide) rfl rfl (Nat.le_of_ble_eq_true rfl) ?_
      obtain ⟨r9, M10, hq8, h⟩ := bnd2 h
      refine f_Mod_freeBits hld  hq8 ?_
      dsimp only [psh]
      refine g_callS0 (pc1 := 41) (As := [.int r9]) (rest := []) d_Mod_freestOf_38 rfl mo_Mod_434 ms_Mod_bits (by decide) rfl rfl (Nat.le_of_ble_eq_true rfl) ?_
      obtain ⟨r12, hq11, h⟩ := bnd h
      refine f_Mod_bits hld  hq11 ?_
      dsimp only [psh]
      refine g_istore (pc1 := 43) (lv' := [(0, .ref 401), (1, .int v1), (2, .int v2), (3, .int v3), (4, .int r12)]) d_Mod_freestOf_41 rfl (by decide) [1, 2, 3, 4, 0] rfl ?_
      refine g_iload (pc1 := 45) d_Mod_freestOf_43 rfl 4 rfl ?_
      refine g_aload_n (pc1 := 46) d_Mod_freestOf_45 rfl 0 rfl ?_
      refine g_geti (pc1 := 49) d_Mod_freestOf_46 rfl ⟨_, fo_Mod_428⟩ sh_401 (by decide) ?_
      refine g_icmp_gt (pc1 := 52) (tgt := 55) d_Mod_freestOf_49 (by decide) rfl (fun c13 => ?_) (fun c13 => ?_)
      · replace h := itp h c13
        refine g_iload_n (pc1 := 56) d_Mod_freestOf_55 rfl 3 rfl ?_
        refine g_istore_n (pc1 := 57) (lv' := [(0, .ref 401), (1, .int v1), (2, .int v3), (3, .int v3), (4, .int r12)]) d_Mod_freestOf_56 rfl rfl (by decide) [1, 2, 0, 3, 4] rfl ?_
        refine g_aload_n (pc1 := 58) d_Mod_freestOf_57 rfl 0 rfl ?_
        refine g_iload (pc1 := 60) d_Mod_freestOf_58 rfl 4 rfl ?_
        refine g_puti (pc1 := 63) d_Mod_freestOf_60 rfl fo_Mod_428 (po_12_63 _) sh_401 (by decide) ?_
        refine Wp.lM h (fun M14 h => ?_)
        refine Wp.loc (lv' := [(0, .ref 401), (1, .int v1), (2, .int v3), (3, .int v3)]) [0, 1, 2, 3] rfl ?_
        exact j_Mod_freestOf_63 hld  hQ hK10 h
      · replace h := itn h c13
        refine g_goto (tgt := 63) d_Mod_freestOf_52 (by decide) ?_
        refine Wp.loc (lv' := [(0, .ref 401), (1, .int v1), (2, .int v2), (3, .int v3)]) [0, 1, 2, 3] rfl ?_
        exact j_Mod_freestOf_63 hld  hQ hK10 h
def F_Mod_freestOf (p1 : Int32) (M : gM) : Option (Int32 × gM) :=
  nmM (uM M 401 63 (-1)) (fun M1 => H_Mod_freestOf_10 p1 FU (-2) 0 M1)
set_option maxHeartbeats 4000000 in
set_option maxRecDepth 20000 in
theorem f_Mod_freestOf {l : Launch} {ld : Nat} {M : gM} {L : gL} {Q : Option Value → gM → gL → gR → Prop} (hld : isLa ld) {p1 : Int32}  {q : Int32 × gM} (h : F_Mod_freestOf p1 M = some q) (hQ : Q (some (.int q.1)) q.2 L (rf ld)) : Tm l y_Mod_freestOf (0, 0, 447) 447 [.ref 401, .int p1] M L (rf ld) Q := by
  refine Tm.of (by decide) (Nat.le_of_ble_eq_true rfl) ?_
  show Wp l y_Mod_freestOf (0, 0, 447) 447 0 0 0 [(0, .ref 401), (1, .int p1)] [] M L (rf ld) Q
  unfold F_Mod_freestOf at h
  refine g_bipush (pc1 := 2) (v := (-2)) d_Mod_freestOf_0 rfl (by decide) ?_
  refine g_istore_n (pc1 := 3) (lv' := [(0, .ref 401), (1, .int p1), (2, .int (-2))]) d_Mod_freestOf_2 rfl rfl (by decide) [1, 2, 0] rfl ?_
  refine g_aload_n (pc1 := 4) d_Mod_freestOf_3 rfl 0 rfl ?_
  refine g_iconst (pc1 := 5) (v := (-1)) d_Mod_freestOf_4 rfl (by decide) ?_
  refine g_puti (pc1 := 8) d_Mod_freestOf_5 rfl fo_Mod_428 (po_12_63 _) sh_401 (by decide) ?_
  refine Wp.lM h (fun M1 h => ?_)
  refine g_iconst (pc1 := 9) (v := 0) d_Mod_freestOf_8 rfl (by decide) ?_
  refine g_istore_n (pc1 := 10) (lv' := [(0, .ref 401), (1, .int p1), (2, .int (-2)), (3, .int 0)]) d_Mod_freestOf_9 rfl rfl (by decide) [1, 2, 3, 0] rfl ?_
  exact h_Mod_freestOf_10 hld  hQ  _ (-2) 0 M1 h

def J_Mod_mealsBy_65 (K10 : Int32 → Int32 → gM → Option (Int32 × gM)) (v1 : Int32) (v2 : Int32) (v3 : Int32) (v4 : Int32) (v5 : Int32) (v6 : Int32) (M : gM) : Option (Int32 × gM) :=
  bI2 (F_Mod_freeBits v2 M) (fun r12 M13 => (if (v4 &&& (r12 ^^^ (-1))) = 0 then nmM (uM M13 437 35 ((M13 437 35) + 1)) (fun M15 => nmI (v6 + 1) (fun x16 => K10 v5 x16 M15)) else some ((-1), M13)))
set_option maxHeartbeats 4000000 in
set_option maxRecDepth 20000 in
theorem j_Mod_mealsBy_65 {l : Launch} {ld : Nat} {Q : Option Value → gM → gL → gR → Prop} (hld : isLa ld)   {q : Int32 × gM} {M : gM} {L : gL} (hQ : Q (some (.int q.1)) q.2 L (rf ld)) {K10 : Int32 → Int32 → gM → Option (Int32 × gM)} {v1 : Int32} {v2 : Int32} {v3 : Int32} {v4 : Int32} {v5 : Int32} {v6 : Int32} (hK10 : ∀ (w5 : Int32) (w6 : Int32) (M : gM), K10 w5 w6 M = some q → Wp l y_Mod_mealsBy (0, 0, 447) 447 0 0 10 [(0, .ref 401), (1, .int v1), (2, .int v2), (3, .int v3), (4, .int v4), (5, .int w5), (6, .int w6)] [] M L (rf ld) Q) (h : J_Mod_mealsBy_65 K10 v1 v2 v3 v4 v5 v6 M = some q) : Wp l y_Mod_mealsBy (0, 0, 447) 447 0 0 65 [(0, .ref 401), (1, .int v1), (2, .int v2), (3, .int v3), (4, .int v4), (5, .int v5), (6, .int v6)] [] M L (rf ld) Q := by
  unfold J_Mod_mealsBy_65 at h
  refine g_iload (pc1 := 67) d_Mod_mealsBy_65 rfl 4 rfl ?_
  refine g_aload_n (pc1 := 68) d_Mod_mealsBy_67 rfl 0 rfl ?_
  refine g_iload_n (pc1 := 69) d_Mod_mealsBy_68 rfl 2 rfl ?_
  refine g_callV0 (pc1 := 72) (As := [.int v2]) (rest := [.int v4]) d_Mod_mealsBy_69 rfl mo_Mod_395 mi_Mod_freeBits mv_Mod_freeBits rfl sh_401 (by decide) (by decide) rfl rfl (Nat.le_of_ble_eq_true rfl) ?_
  obtain ⟨r12, M13, hq11, h⟩ := bnd2 h
  refine f_Mod_freeBits hld  hq11 ?_
  dsimp only [psh]
  refine g_iconst (pc1 := 73) (v := (-1)) d_Mod_mealsBy_72 rfl (by decide) ?_
  refine g_ixor (pc1 := 74) d_Mod_mealsBy_73 rfl ?_
  refine g_iand (pc1 := 75) d_Mod_mealsBy_74 rfl ?_
  refine g_if_eq (pc1 := 78) (tgt := 80) d_Mod_mealsBy_75 (by decide) rfl (fun c14 => ?_) (fun c14 => ?_)
  · replace h := itp h c14
    refine g_aload_n (pc1 := 81) d_Mod_mealsBy_80 rfl 0 rfl ?_
    refine g_getr (pc1 := 84) d_Mod_mealsBy_81 rfl ⟨_, fo_Mod_125⟩ sh_401 (by decide) (rf_401_53 ld) ?_
    refine g_bipush (pc1 := 86) (v := 35) d_Mod_mealsBy_84 rfl (by decide) ?_
    refine g_dup2 (pc1 := 87) d_Mod_mealsBy_86 rfl rfl rfl ?_
    refine g_iald (pc1 := 88) d_Mod_mealsBy_87 rfl sh_437 (by decide) (vin_lit (x := 35) (by decide)) ?_
    refine Wp.vali (y := (M13 437 35)) (congrArg (M13 437) (by decide)) ?_
    refine g_iconst (pc1 := 89) (v := 1) d_Mod_mealsBy_88 rfl (by decide) ?_
    refine g_iadd (pc1 := 90) d_Mod_mealsBy_89 rfl ?_
    refine g_iast (pc1 := 91) d_Mod_mealsBy_90 rfl sh_437 (by decide) (vin_lit (x := 35) (by decide)) ?_
    refine Wp.eqM (M' := uM M13 437 35 ((M13 437 35) + 1)) (congrArg (fun z => uM M13 437 z ((M13 437 35) + 1)) (by decide)) ?_
    refine Wp.lM h (fun M15 h => ?_)
    obtain ⟨x16, ex16, h⟩ := ltI h
    refine g_iinc (pc1 := 94) (v := x16) (lv' := [(0, .ref 401), (1, .int v1), (2, .int v2), (3, .int v3), (4, .int v4), (5, .int v5), (6, .int x16)]) d_Mod_mealsBy_91 rfl 6 rfl (by rw [ex16]; rfl) (by decide) [1, 2, 3, 4, 5, 6, 0] rfl ?_
    refine g_goto (tgt := 10) d_Mod_mealsBy_94 (by decide) ?_
    exact hK10 v5 x16 M15 h
  · replace h := itn h c14
    refine g_iconst (pc1 := 79) (v := (-1)) d_Mod_mealsBy_78 rfl (by decide) ?_
    refine g_ireturn (Or.inl rfl) d_Mod_mealsBy_79 rfl ?_
    cases h; exact hQ
def B_Mod_mealsBy_10 (v1 : Int32) (v2 : Int32) (v3 : Int32) (v4 : Int32) (K10 : Int32 → Int32 → gM → Option (Int32 × gM)) : Int32 → Int32 → gM → Option (Int32 × gM) := fun v5 v6 M =>
  (if v3 ≤ v6 then some (v5, M) else bI (F_Mod_sixes ((v3 - 1) - v6)) (fun r5 => (if r5 = 0 then none else nmI (((v1 / r5) - (v1 / r5) / 6 * 6) - 1) (fun x7 => (if ((M 401 18) : Int32) < 0 ∨ 2 ≤ ((M 401 18) : Int32).toNatClampNeg then none else (if x7 < (M 415 ((M 401 18) : Int32).toNatClampNeg) then (if x7 < 0 then J_Mod_mealsBy_65 K10 v1 v2 v3 v4 v5 v6 M else bI (F_Mod_eatsDish v2 x7 M) (fun M18 => nmI (v5 + 1) (fun x19 => J_Mod_mealsBy_65 K10 v1 v2 v3 v4 x19 v6 M18))) else some ((-1), M)))))))
def H_Mod_mealsBy_10 (v1 : Int32) (v2 : Int32) (v3 : Int32) (v4 : Int32) : Nat → Int32 → Int32 → gM → Option (Int32 × gM) := lpK (B_Mod_mealsBy_10 v1 v2 v3 v4) (fun _ _ _ => none)
set_option maxHeartbeats 4000000 in
set_option maxRecDepth 20000 in
theorem h_Mod_mealsBy_10 {l : Launch} {ld : Nat} {Q : Option Value → gM → gL → gR → Prop} (hld : isLa ld)   {q : Int32 × gM} {L : gL} (hQ : Q (some (.int q.1)) q.2 L (rf ld))  {v1 : Int32} {v2 : Int32} {v3 : Int32} {v4 : Int32}  : ∀ (f : Nat) (v5 : Int32) (v6 : Int32) (M : gM), H_Mod_mealsBy_10 v1 v2 v3 v4 f v5 v6 M = some q → Wp l y_Mod_mealsBy (0, 0, 447) 447 0 0 10 [(0, .ref 401), (1, .int v1), (2, .int v2), (3, .int v3), (4, .int v4), (5, .int v5), (6, .int v6)] [] M L (rf ld) Q := by
  intro f
  induction f with
  | zero => intro v5 v6 M h; cases h
  | succ f hK10 =>
    intro v5 v6 M h
    replace h : B_Mod_mealsBy_10 v1 v2 v3 v4 (H_Mod_mealsBy_10 v1 v2 v3 v4 f) v5 v6 M = some q := h
    unfold B_Mod_mealsBy_10 at h
    refine g_iload (pc1 := 12) d_Mod_mealsBy_10 rfl 6 rfl ?_
    refine g_iload_n (pc1 := 13) d_Mod_mealsBy_12 rfl 3 rfl ?_
    refine g_icmp_ge (pc1 := 16) (tgt := 97) d_Mod_mealsBy_13 (by decide) rfl (fun c3 => ?_) (fun c3 => ?_)
    · replace h := itp h c3
      refine g_iload (pc1 := 99) d_Mod_mealsBy_97 rfl 5 rfl ?_
      refine g_ireturn (Or.inl rfl) d_Mod_mealsBy_99 rfl ?_
      cases h; exact hQ
    · replace h := itn h c3
      refine g_iload_n (pc1 := 17) d_Mod_mealsBy_16 rfl 1 rfl ?_
      refine g_iload_n (pc1 := 18) d_Mod_mealsBy_17 rfl 3 rfl ?_
      refine g_iconst (pc1 := 19) (v := 1) d_Mod_mealsBy_18 rfl (by decide) ?_
      refine g_isub (pc1 := 20) d_Mod_mealsBy_19 rfl ?_
      refine g_iload (pc1 := 22) d_Mod_mealsBy_20 rfl 6 rfl ?_
      refine g_isub (pc1 := 23) d_Mod_mealsBy_22 rfl ?_
      refine g_callS0 (pc1 := 26) (As := [.int ((v3 - 1) - v6)]) (rest := [.int v1]) d_Mod_mealsBy_23 rfl mo_Mod_440 ms_Mod_sixes (by decide) rfl rfl (Nat.le_of_ble_eq_true rfl) ?_
      obtain ⟨r5, hq4, h⟩ := bnd h
      refine f_Mod_sixes hld  hq4 ?_
      dsimp only [psh]
      obtain ⟨g6, h⟩ := gdn h
      refine g_idiv (pc1 := 27) d_Mod_mealsBy_26 rfl g6 ?_
      refine g_bipush (pc1 := 29) (v := 6) d_Mod_mealsBy_27 rfl (by decide) ?_
      refine g_irem (pc1 := 30) d_Mod_mealsBy_29 rfl (by decide) ?_
      refine g_iconst (pc1 := 31) (v := 1) d_Mod_mealsBy_30 rfl (by decide) ?_
      refine g_isub (pc1 := 32) d_Mod_mealsBy_31 rfl ?_
      refine Wp.lI h (fun x7 h => ?_)
      refine g_istore (pc1 := 34) (lv' := [(0, .ref 401), (1, .int v1), (2, .int v2), (3, .int v3), (4, .int v4), (5, .int v5), (6, .int v6), (7, .int x7)]) d_Mod_mealsBy_32 rfl (by decide) [1, 2, 3, 4, 5, 6, 7, 0] rfl ?_
      refine g_iload (pc1 := 36) d_Mod_mealsBy_34 rfl 7 rfl ?_
      refine g_aload_n (pc1 := 37) d_Mod_mealsBy_36 rfl 0 rfl ?_
      refine g_getr (pc1 := 40) d_Mod_mealsBy_37 rfl ⟨_, fo_Mod_58⟩ sh_401 (by decide) (rf_401_27 ld) ?_
      refine g_aload_n (pc1 := 41) d_Mod_mealsBy_40 rfl 0 rfl ?_
      refine g_geti (pc1 := 44) d_Mod_mealsBy_41 rfl ⟨_, fo_Mod_236⟩ sh_401 (by decide) ?_
      obtain ⟨g8, h⟩ := gdn h
      refine g_iald (pc1 := 45) d_Mod_mealsBy_44 rfl sh_415 (by decide) g8 ?_
      refine g_icmp_lt (pc1 := 48) (tgt := 50) d_Mod_mealsBy_45 (by decide) rfl (fun c9 => ?_) (fun c9 => ?_)
      · replace h := itp h c9
        refine g_iload (pc1 := 52) d_Mod_mealsBy_50 rfl 7 rfl ?_
        refine g_if_lt (pc1 := 55) (tgt := 65) d_Mod_mealsBy_52 (by decide) rfl (fun c10 => ?_) (fun c10 => ?_)
        · replace h := itp h c10
          refine Wp.loc (lv' := [(0, .ref 401), (1, .int v1), (2, .int v2), (3, .int v3), (4, .int v4), (5, .int v5), (6, .int v6)]) [0, 1, 2, 3, 4, 5, 6] rfl ?_
          exact j_Mod_mealsBy_65 hld  hQ hK10 h
        · replace h := itn h c10
          refine g_aload_n (pc1 := 56) d_Mod_mealsBy_55 rfl 0 rfl ?_
          refine g_iload_n (pc1 := 57) d_Mod_mealsBy_56 rfl 2 rfl ?_
          refine g_iload (pc1 := 59) d_Mod_mealsBy_57 rfl 7 rfl ?_
          refine g_callV0 (pc1 := 62) (As := [.int v2, .int x7]) (rest := []) d_Mod_mealsBy_59 rfl mo_Mod_431 mi_Mod_eatsDish mv_Mod_eatsDish rfl sh_401 (by decide) (by decide) rfl rfl (Nat.le_of_ble_eq_true rfl) ?_
          obtain ⟨M18, hq17, h⟩ := bnd h
          refine f_Mod_eatsDish hld  hq17 ?_
          dsimp only [psh]
          obtain ⟨x19, ex19, h⟩ := ltI h
          refine g_iinc (pc1 := 65) (v := x19) (lv' := [(0, .ref 401), (1, .int v1), (2, .int v2), (3, .int v3), (4, .int v4), (5, .int x19), (6, .int v6), (7, .int x7)]) d_Mod_mealsBy_62 rfl 5 rfl (by rw [ex19]; rfl) (by decide) [1, 2, 3, 4, 5, 0, 6, 7] rfl ?_
          refine Wp.loc (lv' := [(0, .ref 401), (1, .int v1), (2, .int v2), (3, .int v3), (4, .int v4), (5, .int x19), (6, .int v6)]) [0, 1, 2, 3, 4, 5, 6] rfl ?_
          exact j_Mod_mealsBy_65 hld  hQ hK10 h
      · replace h := itn h c9
        refine g_iconst (pc1 := 49) (v := (-1)) d_Mod_mealsBy_48 rfl (by decide) ?_
        refine g_ireturn (Or.inl rfl) d_Mod_mealsBy_49 rfl ?_
        cases h; exact hQ
def F_Mod_mealsBy (p1 : Int32) (p2 : Int32) (p3 : Int32) (p4 : Int32) (M : gM) : Option (Int32 × gM) :=
  bI (F_Mod_copies M) (fun M2 => H_Mod_mealsBy_10 p1 p2 p3 p4 FU 0 0 M2)
set_option maxHeartbeats 4000000 in
set_option maxRecDepth 20000 in
theorem f_Mod_mealsBy {l : Launch} {ld : Nat} {M : gM} {L : gL} {Q : Option Value → gM → gL → gR → Prop} (hld : isLa ld) {p1 : Int32} {p2 : Int32} {p3 : Int32} {p4 : Int32}  {q : Int32 × gM} (h : F_Mod_mealsBy p1 p2 p3 p4 M = some q) (hQ : Q (some (.int q.1)) q.2 L (rf ld)) : Tm l y_Mod_mealsBy (0, 0, 447) 447 [.ref 401, .int p1, .int p2, .int p3, .int p4] M L (rf ld) Q := by
  refine Tm.of (by decide) (Nat.le_of_ble_eq_true rfl) ?_
  show Wp l y_Mod_mealsBy (0, 0, 447) 447 0 0 0 [(0, .ref 401), (1, .int p1), (2, .int p2), (3, .int p3), (4, .int p4)] [] M L (rf ld) Q
  unfold F_Mod_mealsBy at h
  refine g_aload_n (pc1 := 1) d_Mod_mealsBy_0 rfl 0 rfl ?_
  refine g_callV0 (pc1 := 4) (As := []) (rest := []) d_Mod_mealsBy_1 rfl mo_Mod_377 mi_Mod_copies mv_Mod_copies rfl sh_401 (by decide) (by decide) rfl rfl (Nat.le_of_ble_eq_true rfl) ?_
  obtain ⟨M2, hq1, h⟩ := bnd h
  refine f_Mod_copies hld  hq1 ?_
  dsimp only [psh]
  refine g_iconst (pc1 := 5) (v := 0) d_Mod_mealsBy_4 rfl (by decide) ?_
  refine g_istore (pc1 := 7) (lv' := [(0, .ref 401), (1, .int p1), (2, .int p2), (3, .int p3), (4, .int p4), (5, .int 0)]) d_Mod_mealsBy_5 rfl (by decide) [1, 2, 3, 4, 5, 0] rfl ?_
  refine g_iconst (pc1 := 8) (v := 0) d_Mod_mealsBy_7 rfl (by decide) ?_
  refine g_istore (pc1 := 10) (lv' := [(0, .ref 401), (1, .int p1), (2, .int p2), (3, .int p3), (4, .int p4), (5, .int 0), (6, .int 0)]) d_Mod_mealsBy_8 rfl (by decide) [1, 2, 3, 4, 5, 6, 0] rfl ?_
  exact h_Mod_mealsBy_10 hld  hQ  _ 0 0 M2 h
end MG5x3
section MG5x4
def B_Mod_read_219 (L : gL) (K219 : Int32 → gM → Option (Int32 × gM × gL)) : Int32 → gM → Option (Int32 × gM × gL) := fun v1 M =>
  (if 3 ≤ v1 then some (0, M, L) else (if (v1 : Int32) < 0 ∨ 3 ≤ (v1 : Int32).toNatClampNeg then none else nmM (uM M 445 (v1 : Int32).toNatClampNeg (vp_nar .boolean 0)) (fun M32 => nmI (v1 + 1) (fun x33 => K219 x33 M32))))
def H_Mod_read_219 (L : gL) : Nat → Int32 → gM → Option (Int32 × gM × gL) := lpK (B_Mod_read_219 L) (fun _ _ => none)
set_option maxHeartbeats 4000000 in
set_option maxRecDepth 20000 in
theorem h_Mod_read_219 {l : Launch} {ld : Nat} {Q : Option Value → gM → gL → gR → Prop} (hld : isLa ld)   {q : Int32 × gM × gL} {L : gL} (hQ : Q (some (.int q.1)) q.2.1 q.2.2 (rf ld))    : ∀ (f : Nat) (v1 : Int32) (M : gM), H_Mod_read_219 L f v1 M = some q → Wp l y_Mod_read (0, 0, 447) 447 0 0 219 [(0, .ref 401), (1, .int v1)] [] M L (rf ld) Q := by
  intro f
  induction f with
  | zero => intro v1 M h; cases h
  | succ f hK219 =>
    intro v1 M h
    replace h : B_Mod_read_219 L (H_Mod_read_219 L f) v1 M = some q := h
    unfold B_Mod_read_219 at h
    refine g_iload_n (pc1 := 220) d_Mod_read_219 rfl 1 rfl ?_
    refine g_iconst (pc1 := 221) (v := 3) d_Mod_read_220 rfl (by decide) ?_
    refine g_icmp_ge (pc1 := 224) (tgt := 237) d_Mod_read_221 (by decide) rfl (fun c30 => ?_) (fun c30 => ?_)
    · replace h := itp h c30
      refine g_iconst (pc1 := 238) (v := 0) d_Mod_read_237 rfl (by decide) ?_
      refine g_ireturn (Or.inl rfl) d_Mod_read_238 rfl ?_
      cases h; exact hQ
    · replace h := itn h c30
      refine g_aload_n (pc1 := 225) d_Mod_read_224 rfl 0 rfl ?_
      refine g_getr (pc1 := 228) d_Mod_read_225 rfl ⟨_, fo_Mod_149⟩ sh_401 (by decide) (rf_401_69 ld) ?_
      refine g_iload_n (pc1 := 229) d_Mod_read_228 rfl 1 rfl ?_
      refine g_iconst (pc1 := 230) (v := 0) d_Mod_read_229 rfl (by decide) ?_
      obtain ⟨g31, h⟩ := gdn h
      refine g_zast (pc1 := 231) d_Mod_read_230 rfl sh_445 (by decide) g31 ?_
      refine Wp.lM h (fun M32 h => ?_)
      obtain ⟨x33, ex33, h⟩ := ltI h
      refine g_iinc (pc1 := 234) (v := x33) (lv' := [(0, .ref 401), (1, .int x33)]) d_Mod_read_231 rfl 1 rfl (by rw [ex33]; rfl) (by decide) [1, 0] rfl ?_
      refine g_goto (tgt := 219) d_Mod_read_234 (by decide) ?_
      exact hK219 x33 M32 h
def J_Mod_read_164 (s1 : Int32) (M : gM) (L : gL) : Option (Int32 × gM × gL) :=
  nmM (uM M 401 17 s1) (fun M20 => (if (M20 401 13) ≤ 0 then (if (M20 401 15) ≤ 0 then nmM (uM M20 401 18 (M20 401 19)) (fun M23 => bI (F_Mod_begins M23) (fun M25 => bI (F_Mod_keepsRow M25) (fun M27 => nmM (uM M27 401 57 0) (fun M28 => nmM (uM M28 401 64 0) (fun M29 => H_Mod_read_219 L FU 0 M29))))) else some ((M20 401 15), M20, L)) else some ((M20 401 13), M20, L)))
set_option maxHeartbeats 4000000 in
set_option maxRecDepth 20000 in
theorem j_Mod_read_164 {l : Launch} {ld : Nat} {Q : Option Value → gM → gL → gR → Prop} (hld : isLa ld)   {q : Int32 × gM × gL} {M : gM} {L : gL} (hQ : Q (some (.int q.1)) q.2.1 q.2.2 (rf ld))  {s1 : Int32}  (h : J_Mod_read_164 s1 M L = some q) : Wp l y_Mod_read (0, 0, 447) 447 0 0 164 [(0, .ref 401)] [.int s1, .ref 401] M L (rf ld) Q := by
  unfold J_Mod_read_164 at h
  refine g_puti (pc1 := 167) d_Mod_read_164 rfl fo_Mod_37 (po_12_17 _) sh_401 (by decide) ?_
  refine Wp.lM h (fun M20 h => ?_)
  refine g_aload_n (pc1 := 168) d_Mod_read_167 rfl 0 rfl ?_
  refine g_geti (pc1 := 171) d_Mod_read_168 rfl ⟨_, fo_Mod_206⟩ sh_401 (by decide) ?_
  refine g_if_le (pc1 := 174) (tgt := 179) d_Mod_read_171 (by decide) rfl (fun c21 => ?_) (fun c21 => ?_)
  · replace h := itp h c21
    refine g_aload_n (pc1 := 180) d_Mod_read_179 rfl 0 rfl ?_
    refine g_geti (pc1 := 183) d_Mod_read_180 rfl ⟨_, fo_Mod_215⟩ sh_401 (by decide) ?_
    refine g_if_le (pc1 := 186) (tgt := 191) d_Mod_read_183 (by decide) rfl (fun c22 => ?_) (fun c22 => ?_)
    · replace h := itp h c22
      refine g_aload_n (pc1 := 192) d_Mod_read_191 rfl 0 rfl ?_
      refine g_aload_n (pc1 := 193) d_Mod_read_192 rfl 0 rfl ?_
      refine g_geti (pc1 := 196) d_Mod_read_193 rfl ⟨_, fo_Mod_239⟩ sh_401 (by decide) ?_
      refine g_puti (pc1 := 199) d_Mod_read_196 rfl fo_Mod_236 (po_12_18 _) sh_401 (by decide) ?_
      refine Wp.lM h (fun M23 h => ?_)
      refine g_aload_n (pc1 := 200) d_Mod_read_199 rfl 0 rfl ?_
      refine g_callV0 (pc1 := 203) (As := []) (rest := []) d_Mod_read_200 rfl mo_Mod_163 mi_Mod_begins mv_Mod_begins rfl sh_401 (by decide) (by decide) rfl rfl (Nat.le_of_ble_eq_true rfl) ?_
      obtain ⟨M25, hq24, h⟩ := bnd h
      refine f_Mod_begins hld  hq24 ?_
      dsimp only [psh]
      refine g_aload_n (pc1 := 204) d_Mod_read_203 rfl 0 rfl ?_
      refine g_callV0 (pc1 := 207) (As := []) (rest := []) d_Mod_read_204 rfl mo_Mod_166 mi_Mod_keepsRow mv_Mod_keepsRow rfl sh_401 (by decide) (by decide) rfl rfl (Nat.le_of_ble_eq_true rfl) ?_
      obtain ⟨M27, hq26, h⟩ := bnd h
      refine f_Mod_keepsRow hld  hq26 ?_
      dsimp only [psh]
      refine g_aload_n (pc1 := 208) d_Mod_read_207 rfl 0 rfl ?_
      refine g_iconst (pc1 := 209) (v := 0) d_Mod_read_208 rfl (by decide) ?_
      refine g_puti (pc1 := 212) d_Mod_read_209 rfl fo_Mod_254 (po_12_57 _) sh_401 (by decide) ?_
      refine Wp.lM h (fun M28 h => ?_)
      refine g_aload_n (pc1 := 213) d_Mod_read_212 rfl 0 rfl ?_
      refine g_iconst (pc1 := 214) (v := 0) d_Mod_read_213 rfl (by decide) ?_
      refine g_puti (pc1 := 217) d_Mod_read_214 rfl fo_Mod_257 (po_12_64 _) sh_401 (by decide) ?_
      refine Wp.lM h (fun M29 h => ?_)
      refine g_iconst (pc1 := 218) (v := 0) d_Mod_read_217 rfl (by decide) ?_
      refine g_istore_n (pc1 := 219) (lv' := [(0, .ref 401), (1, .int 0)]) d_Mod_read_218 rfl rfl (by decide) [1, 0] rfl ?_
      exact h_Mod_read_219 hld  hQ  _ 0 M29 h
    · replace h := itn h c22
      refine g_aload_n (pc1 := 187) d_Mod_read_186 rfl 0 rfl ?_
      refine g_geti (pc1 := 190) d_Mod_read_187 rfl ⟨_, fo_Mod_215⟩ sh_401 (by decide) ?_
      refine g_ireturn (Or.inl rfl) d_Mod_read_190 rfl ?_
      cases h; exact hQ
  · replace h := itn h c21
    refine g_aload_n (pc1 := 175) d_Mod_read_174 rfl 0 rfl ?_
    refine g_geti (pc1 := 178) d_Mod_read_175 rfl ⟨_, fo_Mod_206⟩ sh_401 (by decide) ?_
    refine g_ireturn (Or.inl rfl) d_Mod_read_178 rfl ?_
    cases h; exact hQ
def J_Mod_read_134 (M : gM) (L : gL) : Option (Int32 × gM × gL) :=
  (if (M 401 13) ≤ 0 then (if (M 401 15) ≤ 0 then J_Mod_read_164 (-1) M L else J_Mod_read_164 (M 401 16) M L) else J_Mod_read_164 (M 401 14) M L)
set_option maxHeartbeats 4000000 in
set_option maxRecDepth 20000 in
theorem j_Mod_read_134 {l : Launch} {ld : Nat} {Q : Option Value → gM → gL → gR → Prop} (hld : isLa ld)   {q : Int32 × gM × gL} {M : gM} {L : gL} (hQ : Q (some (.int q.1)) q.2.1 q.2.2 (rf ld))    (h : J_Mod_read_134 M L = some q) : Wp l y_Mod_read (0, 0, 447) 447 0 0 134 [(0, .ref 401)] [] M L (rf ld) Q := by
  unfold J_Mod_read_134 at h
  refine g_aload_n (pc1 := 135) d_Mod_read_134 rfl 0 rfl ?_
  refine g_aload_n (pc1 := 136) d_Mod_read_135 rfl 0 rfl ?_
  refine g_geti (pc1 := 139) d_Mod_read_136 rfl ⟨_, fo_Mod_206⟩ sh_401 (by decide) ?_
  refine g_if_le (pc1 := 142) (tgt := 149) d_Mod_read_139 (by decide) rfl (fun c18 => ?_) (fun c18 => ?_)
  · replace h := itp h c18
    refine g_aload_n (pc1 := 150) d_Mod_read_149 rfl 0 rfl ?_
    refine g_geti (pc1 := 153) d_Mod_read_150 rfl ⟨_, fo_Mod_215⟩ sh_401 (by decide) ?_
    refine g_if_le (pc1 := 156) (tgt := 163) d_Mod_read_153 (by decide) rfl (fun c19 => ?_) (fun c19 => ?_)
    · replace h := itp h c19
      refine g_iconst (pc1 := 164) (v := (-1)) d_Mod_read_163 rfl (by decide) ?_
      exact j_Mod_read_164 hld  hQ  h
    · replace h := itn h c19
      refine g_aload_n (pc1 := 157) d_Mod_read_156 rfl 0 rfl ?_
      refine g_geti (pc1 := 160) d_Mod_read_157 rfl ⟨_, fo_Mod_218⟩ sh_401 (by decide) ?_
      refine g_goto (tgt := 164) d_Mod_read_160 (by decide) ?_
      exact j_Mod_read_164 hld  hQ  h
  · replace h := itn h c18
    refine g_aload_n (pc1 := 143) d_Mod_read_142 rfl 0 rfl ?_
    refine g_geti (pc1 := 146) d_Mod_read_143 rfl ⟨_, fo_Mod_212⟩ sh_401 (by decide) ?_
    refine g_goto (tgt := 164) d_Mod_read_146 (by decide) ?_
    exact j_Mod_read_164 hld  hQ  h
def B_Mod_read_112  (K112 : gM → gL → Option (Int32 × gM × gL)) : gM → gL → Option (Int32 × gM × gL) := fun M L =>
  (if (M 401 13) = 0 then bI (F_Mod_is 0 M) (fun r35 => (if r35 = 0 then bI2 (F_Mod_tellOne M L) (fun M38 L39 => K112 M38 L39) else J_Mod_read_134 M L)) else J_Mod_read_134 M L)
def H_Mod_read_112  : Nat → gM → gL → Option (Int32 × gM × gL) := lpK (B_Mod_read_112 ) (fun _ _ => none)
set_option maxHeartbeats 4000000 in
set_option maxRecDepth 20000 in
theorem h_Mod_read_112 {l : Launch} {ld : Nat} {Q : Option Value → gM → gL → gR → Prop} (hld : isLa ld)   {q : Int32 × gM × gL} (hQ : Q (some (.int q.1)) q.2.1 q.2.2 (rf ld))    : ∀ (f : Nat) (M : gM) (L : gL), H_Mod_read_112  f M L = some q → Wp l y_Mod_read (0, 0, 447) 447 0 0 112 [(0, .ref 401)] [] M L (rf ld) Q := by
  intro f
  induction f with
  | zero => intro M L h; cases h
  | succ f hK112 =>
    intro M L h
    replace h : B_Mod_read_112  (H_Mod_read_112  f) M L = some q := h
    unfold B_Mod_read_112 at h
    refine g_aload_n (pc1 := 113) d_Mod_read_112 rfl 0 rfl ?_
    refine g_geti (pc1 := 116) d_Mod_read_113 rfl ⟨_, fo_Mod_206⟩ sh_401 (by decide) ?_
    refine g_if_ne (pc1 := 119) (tgt := 134) d_Mod_read_116 (by decide) rfl (fun c17 => ?_) (fun c17 => ?_)
    · replace h := itn h c17
      exact j_Mod_read_134 hld  hQ  h
    · replace h := itp h c17
      refine g_aload_n (pc1 := 120) d_Mod_read_119 rfl 0 rfl ?_
      refine g_iconst (pc1 := 121) (v := 0) d_Mod_read_120 rfl (by decide) ?_
      refine g_callV0 (pc1 := 124) (As := [.int 0]) (rest := []) d_Mod_read_121 rfl mo_Mod_224 mi_Mod_is mv_Mod_is rfl sh_401 (by decide) (by decide) rfl rfl (Nat.le_of_ble_eq_true rfl) ?_
      obtain ⟨r35, hq34, h⟩ := bnd h
      refine f_Mod_is hld  hq34 ?_
      dsimp only [psh]
      refine g_if_ne (pc1 := 127) (tgt := 134) d_Mod_read_124 (by decide) rfl (fun c36 => ?_) (fun c36 => ?_)
      · replace h := itn h c36
        exact j_Mod_read_134 hld  hQ  h
      · replace h := itp h c36
        refine g_aload_n (pc1 := 128) d_Mod_read_127 rfl 0 rfl ?_
        refine g_callV0 (pc1 := 131) (As := []) (rest := []) d_Mod_read_128 rfl mo_Mod_251 mi_Mod_tellOne mv_Mod_tellOne rfl sh_401 (by decide) (by decide) rfl rfl (Nat.le_of_ble_eq_true rfl) ?_
        obtain ⟨M38, L39, hq37, h⟩ := bnd2 h
        refine f_Mod_tellOne hld  hq37 ?_
        dsimp only [psh]
        refine g_goto (tgt := 112) d_Mod_read_131 (by decide) ?_
        exact hK112 M38 L39 h
def J_Mod_read_36 (M : gM) (L : gL) : Option (Int32 × gM × gL) :=
  nmM (uM M 401 2 0) (fun M3 => bI2 (F_Mod_cut M3 L) (fun M5 L6 => nmM (uM M5 401 11 0) (fun M7 => nmM (uM M7 401 12 0) (fun M8 => nmM (uM M8 401 13 0) (fun M9 => nmM (uM M9 401 15 0) (fun M10 => nmM (uM M10 401 19 (1 - (M10 401 18))) (fun M11 => nmM (uM M11 401 20 0) (fun M12 => bI (F_Mod_plain (M12 401 19) M12) (fun M14 => nmM (uM M14 401 38 (130 * (M14 401 19))) (fun M15 => nmM (uM M15 401 44 (420 * (M15 401 19))) (fun M16 => H_Mod_read_112 FU M16 L6)))))))))))
set_option maxHeartbeats 4000000 in
set_option maxRecDepth 20000 in
theorem j_Mod_read_36 {l : Launch} {ld : Nat} {Q : Option Value → gM → gL → gR → Prop} (hld : isLa ld)   {q : Int32 × gM × gL} {M : gM} {L : gL} (hQ : Q (some (.int q.1)) q.2.1 q.2.2 (rf ld))    (h : J_Mod_read_36 M L = some q) : Wp l y_Mod_read (0, 0, 447) 447 0 0 36 [(0, .ref 401)] [] M L (rf ld) Q := by
  unfold J_Mod_read_36 at h
  refine g_aload_n (pc1 := 37) d_Mod_read_36 rfl 0 rfl ?_
  refine g_iconst (pc1 := 38) (v := 0) d_Mod_read_37 rfl (by decide) ?_
  refine g_puti (pc1 := 41) d_Mod_read_38 rfl fo_Mod_169 (po_12_2 _) sh_401 (by decide) ?_
  refine Wp.lM h (fun M3 h => ?_)
  refine g_aload_n (pc1 := 42) d_Mod_read_41 rfl 0 rfl ?_
  refine g_callV0 (pc1 := 45) (As := []) (rest := []) d_Mod_read_42 rfl mo_Mod_230 mi_Mod_cut mv_Mod_cut rfl sh_401 (by decide) (by decide) rfl rfl (Nat.le_of_ble_eq_true rfl) ?_
  obtain ⟨M5, L6, hq4, h⟩ := bnd2 h
  refine f_Mod_cut hld  hq4 ?_
  dsimp only [psh]
  refine g_aload_n (pc1 := 46) d_Mod_read_45 rfl 0 rfl ?_
  refine g_iconst (pc1 := 47) (v := 0) d_Mod_read_46 rfl (by decide) ?_
  refine g_puti (pc1 := 50) d_Mod_read_47 rfl fo_Mod_209 (po_12_11 _) sh_401 (by decide) ?_
  refine Wp.lM h (fun M7 h => ?_)
  refine g_aload_n (pc1 := 51) d_Mod_read_50 rfl 0 rfl ?_
  refine g_iconst (pc1 := 52) (v := 0) d_Mod_read_51 rfl (by decide) ?_
  refine g_puti (pc1 := 55) d_Mod_read_52 rfl fo_Mod_233 (po_12_12 _) sh_401 (by decide) ?_
  refine Wp.lM h (fun M8 h => ?_)
  refine g_aload_n (pc1 := 56) d_Mod_read_55 rfl 0 rfl ?_
  refine g_iconst (pc1 := 57) (v := 0) d_Mod_read_56 rfl (by decide) ?_
  refine g_puti (pc1 := 60) d_Mod_read_57 rfl fo_Mod_206 (po_12_13 _) sh_401 (by decide) ?_
  refine Wp.lM h (fun M9 h => ?_)
  refine g_aload_n (pc1 := 61) d_Mod_read_60 rfl 0 rfl ?_
  refine g_iconst (pc1 := 62) (v := 0) d_Mod_read_61 rfl (by decide) ?_
  refine g_puti (pc1 := 65) d_Mod_read_62 rfl fo_Mod_215 (po_12_15 _) sh_401 (by decide) ?_
  refine Wp.lM h (fun M10 h => ?_)
  refine g_aload_n (pc1 := 66) d_Mod_read_65 rfl 0 rfl ?_
  refine g_iconst (pc1 := 67) (v := 1) d_Mod_read_66 rfl (by decide) ?_
  refine g_aload_n (pc1 := 68) d_Mod_read_67 rfl 0 rfl ?_
  refine g_geti (pc1 := 71) d_Mod_read_68 rfl ⟨_, fo_Mod_236⟩ sh_401 (by decide) ?_
  refine g_isub (pc1 := 72) d_Mod_read_71 rfl ?_
  refine g_puti (pc1 := 75) d_Mod_read_72 rfl fo_Mod_239 (po_12_19 _) sh_401 (by decide) ?_
  refine Wp.lM h (fun M11 h => ?_)
  refine g_aload_n (pc1 := 76) d_Mod_read_75 rfl 0 rfl ?_
  refine g_iconst (pc1 := 77) (v := 0) d_Mod_read_76 rfl (by decide) ?_
  refine g_puti (pc1 := 80) d_Mod_read_77 rfl fo_Mod_242 (po_12_20 _) sh_401 (by decide) ?_
  refine Wp.lM h (fun M12 h => ?_)
  refine g_aload_n (pc1 := 81) d_Mod_read_80 rfl 0 rfl ?_
  refine g_aload_n (pc1 := 82) d_Mod_read_81 rfl 0 rfl ?_
  refine g_geti (pc1 := 85) d_Mod_read_82 rfl ⟨_, fo_Mod_239⟩ sh_401 (by decide) ?_
  refine g_callV0 (pc1 := 88) (As := [.int (M12 401 19)]) (rest := []) d_Mod_read_85 rfl mo_Mod_155 mi_Mod_plain mv_Mod_plain rfl sh_401 (by decide) (by decide) rfl rfl (Nat.le_of_ble_eq_true rfl) ?_
  obtain ⟨M14, hq13, h⟩ := bnd h
  refine f_Mod_plain hld  hq13 ?_
  dsimp only [psh]
  refine g_aload_n (pc1 := 89) d_Mod_read_88 rfl 0 rfl ?_
  refine g_sipush (pc1 := 92) (v := 130) d_Mod_read_89 rfl (by decide) ?_
  refine g_aload_n (pc1 := 93) d_Mod_read_92 rfl 0 rfl ?_
  refine g_geti (pc1 := 96) d_Mod_read_93 rfl ⟨_, fo_Mod_239⟩ sh_401 (by decide) ?_
  refine g_imul (pc1 := 97) d_Mod_read_96 rfl ?_
  refine g_puti (pc1 := 100) d_Mod_read_97 rfl fo_Mod_245 (po_12_38 _) sh_401 (by decide) ?_
  refine Wp.lM h (fun M15 h => ?_)
  refine g_aload_n (pc1 := 101) d_Mod_read_100 rfl 0 rfl ?_
  refine g_sipush (pc1 := 104) (v := 420) d_Mod_read_101 rfl (by decide) ?_
  refine g_aload_n (pc1 := 105) d_Mod_read_104 rfl 0 rfl ?_
  refine g_geti (pc1 := 108) d_Mod_read_105 rfl ⟨_, fo_Mod_239⟩ sh_401 (by decide) ?_
  refine g_imul (pc1 := 109) d_Mod_read_108 rfl ?_
  refine g_puti (pc1 := 112) d_Mod_read_109 rfl fo_Mod_248 (po_12_44 _) sh_401 (by decide) ?_
  refine Wp.lM h (fun M16 h => ?_)
  exact h_Mod_read_112 hld  hQ  _ M16 L6 h
def B_Mod_read_10 (L : gL) (K10 : Int32 → gM → Option (Int32 × gM × gL)) : Int32 → gM → Option (Int32 × gM × gL) := fun v1 M =>
  (if (M 401 4) ≤ v1 then J_Mod_read_36 M L else (if (v1 : Int32) < 0 ∨ 2000 ≤ (v1 : Int32).toNatClampNeg then none else (if (v1 : Int32) < 0 ∨ 2000 ≤ (v1 : Int32).toNatClampNeg then none else nmM (uM M 403 (v1 : Int32).toNatClampNeg (vp_nar .byte (M 402 (v1 : Int32).toNatClampNeg))) (fun M42 => nmI (v1 + 1) (fun x43 => K10 x43 M42)))))
def H_Mod_read_10 (L : gL) : Nat → Int32 → gM → Option (Int32 × gM × gL) := lpK (B_Mod_read_10 L) (fun _ _ => none)
set_option maxHeartbeats 4000000 in
set_option maxRecDepth 20000 in
theorem h_Mod_read_10 {l : Launch} {ld : Nat} {Q : Option Value → gM → gL → gR → Prop} (hld : isLa ld)   {q : Int32 × gM × gL} {L : gL} (hQ : Q (some (.int q.1)) q.2.1 q.2.2 (rf ld))    : ∀ (f : Nat) (v1 : Int32) (M : gM), H_Mod_read_10 L f v1 M = some q → Wp l y_Mod_read (0, 0, 447) 447 0 0 10 [(0, .ref 401), (1, .int v1)] [] M L (rf ld) Q := by
  intro f
  induction f with
  | zero => intro v1 M h; cases h
  | succ f hK10 =>
    intro v1 M h
    replace h : B_Mod_read_10 L (H_Mod_read_10 L f) v1 M = some q := h
    unfold B_Mod_read_10 at h
    refine g_iload_n (pc1 := 11) d_Mod_read_10 rfl 1 rfl ?_
    refine g_aload_n (pc1 := 12) d_Mod_read_11 rfl 0 rfl ?_
    refine g_geti (pc1 := 15) d_Mod_read_12 rfl ⟨_, fo_Mod_175⟩ sh_401 (by decide) ?_
    refine g_icmp_ge (pc1 := 18) (tgt := 36) d_Mod_read_15 (by decide) rfl (fun c2 => ?_) (fun c2 => ?_)
    · replace h := itp h c2
      refine Wp.loc (lv' := [(0, .ref 401)]) [0] rfl ?_
      exact j_Mod_read_36 hld  hQ  h
    · replace h := itn h c2
      refine g_aload_n (pc1 := 19) d_Mod_read_18 rfl 0 rfl ?_
      refine g_getr (pc1 := 22) d_Mod_read_19 rfl ⟨_, fo_Mod_17⟩ sh_401 (by decide) (rf_401_3 ld) ?_
      refine g_iload_n (pc1 := 23) d_Mod_read_22 rfl 1 rfl ?_
      refine g_aload_n (pc1 := 24) d_Mod_read_23 rfl 0 rfl ?_
      refine g_getr (pc1 := 27) d_Mod_read_24 rfl ⟨_, fo_Mod_13⟩ sh_401 (by decide) (rf_401_1 ld) ?_
      refine g_iload_n (pc1 := 28) d_Mod_read_27 rfl 1 rfl ?_
      obtain ⟨g40, h⟩ := gdn h
      refine g_bald (pc1 := 29) d_Mod_read_28 rfl sh_402 (by decide) g40 ?_
      obtain ⟨g41, h⟩ := gdn h
      refine g_bast (pc1 := 30) d_Mod_read_29 rfl sh_403 (by decide) g41 ?_
      refine Wp.lM h (fun M42 h => ?_)
      obtain ⟨x43, ex43, h⟩ := ltI h
      refine g_iinc (pc1 := 33) (v := x43) (lv' := [(0, .ref 401), (1, .int x43)]) d_Mod_read_30 rfl 1 rfl (by rw [ex43]; rfl) (by decide) [1, 0] rfl ?_
      refine g_goto (tgt := 10) d_Mod_read_33 (by decide) ?_
      exact hK10 x43 M42 h
def F_Mod_read (M : gM) (L : gL) : Option (Int32 × gM × gL) :=
  nmM (uM M 401 4 (M 401 2)) (fun M1 => H_Mod_read_10 L FU 0 M1)
set_option maxHeartbeats 4000000 in
set_option maxRecDepth 20000 in
theorem f_Mod_read {l : Launch} {ld : Nat} {M : gM} {L : gL} {Q : Option Value → gM → gL → gR → Prop} (hld : isLa ld)   {q : Int32 × gM × gL} (h : F_Mod_read M L = some q) (hQ : Q (some (.int q.1)) q.2.1 q.2.2 (rf ld)) : Tm l y_Mod_read (0, 0, 447) 447 [.ref 401] M L (rf ld) Q := by
  refine Tm.of (by decide) (Nat.le_of_ble_eq_true rfl) ?_
  show Wp l y_Mod_read (0, 0, 447) 447 0 0 0 [(0, .ref 401)] [] M L (rf ld) Q
  unfold F_Mod_read at h
  refine g_aload_n (pc1 := 1) d_Mod_read_0 rfl 0 rfl ?_
  refine g_aload_n (pc1 := 2) d_Mod_read_1 rfl 0 rfl ?_
  refine g_geti (pc1 := 5) d_Mod_read_2 rfl ⟨_, fo_Mod_169⟩ sh_401 (by decide) ?_
  refine g_puti (pc1 := 8) d_Mod_read_5 rfl fo_Mod_175 (po_12_4 _) sh_401 (by decide) ?_
  refine Wp.lM h (fun M1 h => ?_)
  refine g_iconst (pc1 := 9) (v := 0) d_Mod_read_8 rfl (by decide) ?_
  refine g_istore_n (pc1 := 10) (lv' := [(0, .ref 401), (1, .int 0)]) d_Mod_read_9 rfl rfl (by decide) [1, 0] rfl ?_
  exact h_Mod_read_10 hld  hQ  _ 0 M1 h

def J_Mod_freest_33 (v3 : Int32) (M : gM) : Option (Int32 × gM) :=
  some (v3, M)
set_option maxHeartbeats 4000000 in
set_option maxRecDepth 20000 in
theorem j_Mod_freest_33 {l : Launch} {ld : Nat} {Q : Option Value → gM → gL → gR → Prop} (hld : isLa ld)   {q : Int32 × gM} {M : gM} {L : gL} (hQ : Q (some (.int q.1)) q.2 L (rf ld))  {v3 : Int32}  (h : J_Mod_freest_33 v3 M = some q) : Wp l y_Mod_freest (0, 0, 447) 447 0 0 33 [(3, .int v3)] [] M L (rf ld) Q := by
  unfold J_Mod_freest_33 at h
  refine g_iload_n (pc1 := 34) d_Mod_freest_33 rfl 0 rfl ?_
  refine g_goto (tgt := 41) d_Mod_freest_34 (by decide) ?_
  refine g_ireturn (Or.inl rfl) d_Mod_freest_41 rfl ?_
  cases h; exact hQ
def F_Mod_freest (p1 : Int32) (p2 : Int32) (M : gM) : Option (Int32 × gM) :=
  bI (F_Mod_isGuest p1 M) (fun r2 => (if r2 = 0 then some ((-1), M) else bI (F_Mod_in p2 0 1) (fun r5 => (if r5 = 0 then some ((-1), M) else bI2 (F_Mod_freestOf p1 M) (fun r8 M9 => (if r8 < 0 then J_Mod_freest_33 r8 M9 else (if p2 = 0 then J_Mod_freest_33 r8 M9 else some ((M9 401 63), M9))))))))
set_option maxHeartbeats 4000000 in
set_option maxRecDepth 20000 in
theorem f_Mod_freest {l : Launch} {ld : Nat} {M : gM} {L : gL} {Q : Option Value → gM → gL → gR → Prop} (hld : isLa ld) {p1 : Int32} {p2 : Int32}  {q : Int32 × gM} (h : F_Mod_freest p1 p2 M = some q) (hQ : Q (some (.int q.1)) q.2 L (rf ld)) : Tm l y_Mod_freest (0, 0, 447) 447 [.ref 401, .int p1, .int p2] M L (rf ld) Q := by
  refine Tm.of (by decide) (Nat.le_of_ble_eq_true rfl) ?_
  show Wp l y_Mod_freest (0, 0, 447) 447 0 0 0 [(0, .ref 401), (1, .int p1), (2, .int p2)] [] M L (rf ld) Q
  unfold F_Mod_freest at h
  refine g_aload_n (pc1 := 1) d_Mod_freest_0 rfl 0 rfl ?_
  refine g_iload_n (pc1 := 2) d_Mod_freest_1 rfl 1 rfl ?_
  refine g_callV0 (pc1 := 5) (As := [.int p1]) (rest := []) d_Mod_freest_2 rfl mo_Mod_380 mi_Mod_isGuest mv_Mod_isGuest rfl sh_401 (by decide) (by decide) rfl rfl (Nat.le_of_ble_eq_true rfl) ?_
  obtain ⟨r2, hq1, h⟩ := bnd h
  refine f_Mod_isGuest hld  hq1 ?_
  dsimp only [psh]
  refine g_if_eq (pc1 := 8) (tgt := 17) d_Mod_freest_5 (by decide) rfl (fun c3 => ?_) (fun c3 => ?_)
  · replace h := itp h c3
    refine g_iconst (pc1 := 18) (v := (-1)) d_Mod_freest_17 rfl (by decide) ?_
    refine g_ireturn (Or.inl rfl) d_Mod_freest_18 rfl ?_
    cases h; exact hQ
  · replace h := itn h c3
    refine g_iload_n (pc1 := 9) d_Mod_freest_8 rfl 2 rfl ?_
    refine g_iconst (pc1 := 10) (v := 0) d_Mod_freest_9 rfl (by decide) ?_
    refine g_iconst (pc1 := 11) (v := 1) d_Mod_freest_10 rfl (by decide) ?_
    refine g_callS0 (pc1 := 14) (As := [.int p2, .int 0, .int 1]) (rest := []) d_Mod_freest_11 rfl mo_Mod_316 ms_Mod_in (by decide) rfl rfl (Nat.le_of_ble_eq_true rfl) ?_
    obtain ⟨r5, hq4, h⟩ := bnd h
    refine f_Mod_in hld  hq4 ?_
    dsimp only [psh]
    refine g_if_ne (pc1 := 17) (tgt := 19) d_Mod_freest_14 (by decide) rfl (fun c6 => ?_) (fun c6 => ?_)
    · replace h := itn h c6
      refine g_aload_n (pc1 := 20) d_Mod_freest_19 rfl 0 rfl ?_
      refine g_iload_n (pc1 := 21) d_Mod_freest_20 rfl 1 rfl ?_
      refine g_callV0 (pc1 := 24) (As := [.int p1]) (rest := []) d_Mod_freest_21 rfl mo_Mod_437 mi_Mod_freestOf mv_Mod_freestOf rfl sh_401 (by decide) (by decide) rfl rfl (Nat.le_of_ble_eq_true rfl) ?_
      obtain ⟨r8, M9, hq7, h⟩ := bnd2 h
      refine f_Mod_freestOf hld  hq7 ?_
      dsimp only [psh]
      refine g_istore_n (pc1 := 25) (lv' := [(0, .ref 401), (1, .int p1), (2, .int p2), (3, .int r8)]) d_Mod_freest_24 rfl rfl (by decide) [1, 2, 3, 0] rfl ?_
      refine g_iload_n (pc1 := 26) d_Mod_freest_25 rfl 3 rfl ?_
      refine g_if_lt (pc1 := 29) (tgt := 33) d_Mod_freest_26 (by decide) rfl (fun c10 => ?_) (fun c10 => ?_)
      · replace h := itp h c10
        refine Wp.loc (lv' := [(3, .int r8)]) [3] rfl ?_
        exact j_Mod_freest_33 hld  hQ  h
      · replace h := itn h c10
        refine g_iload_n (pc1 := 30) d_Mod_freest_29 rfl 2 rfl ?_
        refine g_if_ne (pc1 := 33) (tgt := 37) d_Mod_freest_30 (by decide) rfl (fun c11 => ?_) (fun c11 => ?_)
        · replace h := itn h c11
          refine g_aload_n (pc1 := 38) d_Mod_freest_37 rfl 0 rfl ?_
          refine g_geti (pc1 := 41) d_Mod_freest_38 rfl ⟨_, fo_Mod_428⟩ sh_401 (by decide) ?_
          refine g_ireturn (Or.inl rfl) d_Mod_freest_41 rfl ?_
          cases h; exact hQ
        · replace h := itp h c11
          refine Wp.loc (lv' := [(3, .int r8)]) [3] rfl ?_
          exact j_Mod_freest_33 hld  hQ  h
    · replace h := itp h c6
      refine g_iconst (pc1 := 18) (v := (-1)) d_Mod_freest_17 rfl (by decide) ?_
      refine g_ireturn (Or.inl rfl) d_Mod_freest_18 rfl ?_
      cases h; exact hQ

def J_Mod_menu_115 (v2 : Int32) (v4 : Int32) (v5 : Int32) (v6 : Int32) (M : gM) : Option (Int32 × gM) :=
  (if 0 ≤ v5 then (if v4 = (-1) then some (v6, M) else bI (F_Mod_sixes ((v2 - 1) - v4)) (fun r20 => (if r20 = 0 then none else nmI (((v5 / r20) - (v5 / r20) / 6 * 6) - 1) (fun x22 => (if 0 ≤ x22 then some (x22, M) else some ((-2), M)))))) else (if v4 = (-1) then some ((-2), M) else some ((-3), M)))
set_option maxHeartbeats 4000000 in
set_option maxRecDepth 20000 in
theorem j_Mod_menu_115 {l : Launch} {ld : Nat} {Q : Option Value → gM → gL → gR → Prop} (hld : isLa ld)   {q : Int32 × gM} {M : gM} {L : gL} (hQ : Q (some (.int q.1)) q.2 L (rf ld))  {v2 : Int32} {v4 : Int32} {v5 : Int32} {v6 : Int32}  (h : J_Mod_menu_115 v2 v4 v5 v6 M = some q) : Wp l y_Mod_menu (0, 0, 447) 447 0 0 115 [(2, .int v2), (4, .int v4), (5, .int v5), (6, .int v6)] [] M L (rf ld) Q := by
  unfold J_Mod_menu_115 at h
  refine g_iload (pc1 := 117) d_Mod_menu_115 rfl 2 rfl ?_
  refine g_if_ge (pc1 := 120) (tgt := 134) d_Mod_menu_117 (by decide) rfl (fun c17 => ?_) (fun c17 => ?_)
  · replace h := itp h c17
    refine g_iload (pc1 := 136) d_Mod_menu_134 rfl 1 rfl ?_
    refine g_iconst (pc1 := 137) (v := (-1)) d_Mod_menu_136 rfl (by decide) ?_
    refine g_icmp_ne (pc1 := 140) (tgt := 143) d_Mod_menu_137 (by decide) rfl (fun c18 => ?_) (fun c18 => ?_)
    · replace h := itn h c18
      refine g_iload (pc1 := 145) d_Mod_menu_143 rfl 2 rfl ?_
      refine g_iload_n (pc1 := 146) d_Mod_menu_145 rfl 0 rfl ?_
      refine g_iconst (pc1 := 147) (v := 1) d_Mod_menu_146 rfl (by decide) ?_
      refine g_isub (pc1 := 148) d_Mod_menu_147 rfl ?_
      refine g_iload (pc1 := 150) d_Mod_menu_148 rfl 1 rfl ?_
      refine g_isub (pc1 := 151) d_Mod_menu_150 rfl ?_
      refine g_callS0 (pc1 := 154) (As := [.int ((v2 - 1) - v4)]) (rest := [.int v5]) d_Mod_menu_151 rfl mo_Mod_440 ms_Mod_sixes (by decide) rfl rfl (Nat.le_of_ble_eq_true rfl) ?_
      obtain ⟨r20, hq19, h⟩ := bnd h
      refine f_Mod_sixes hld  hq19 ?_
      dsimp only [psh]
      obtain ⟨g21, h⟩ := gdn h
      refine g_idiv (pc1 := 155) d_Mod_menu_154 rfl g21 ?_
      refine g_bipush (pc1 := 157) (v := 6) d_Mod_menu_155 rfl (by decide) ?_
      refine g_irem (pc1 := 158) d_Mod_menu_157 rfl (by decide) ?_
      refine g_iconst (pc1 := 159) (v := 1) d_Mod_menu_158 rfl (by decide) ?_
      refine g_isub (pc1 := 160) d_Mod_menu_159 rfl ?_
      refine Wp.lI h (fun x22 h => ?_)
      refine g_istore (pc1 := 162) (lv' := [(2, .int v2), (4, .int v4), (5, .int v5), (6, .int v6), (7, .int x22)]) d_Mod_menu_160 rfl (by decide) [1, 2, 3, 4, 0] rfl ?_
      refine g_iload (pc1 := 164) d_Mod_menu_162 rfl 4 rfl ?_
      refine g_if_ge (pc1 := 167) (tgt := 172) d_Mod_menu_164 (by decide) rfl (fun c23 => ?_) (fun c23 => ?_)
      · replace h := itp h c23
        refine g_iload (pc1 := 174) d_Mod_menu_172 rfl 4 rfl ?_
        refine g_ireturn (Or.inl rfl) d_Mod_menu_174 rfl ?_
        cases h; exact hQ
      · replace h := itn h c23
        refine g_bipush (pc1 := 169) (v := (-2)) d_Mod_menu_167 rfl (by decide) ?_
        refine g_goto (tgt := 174) d_Mod_menu_169 (by decide) ?_
        refine g_ireturn (Or.inl rfl) d_Mod_menu_174 rfl ?_
        cases h; exact hQ
    · replace h := itp h c18
      refine g_iload (pc1 := 142) d_Mod_menu_140 rfl 3 rfl ?_
      refine g_ireturn (Or.inl rfl) d_Mod_menu_142 rfl ?_
      cases h; exact hQ
  · replace h := itn h c17
    refine g_iload (pc1 := 122) d_Mod_menu_120 rfl 1 rfl ?_
    refine g_iconst (pc1 := 123) (v := (-1)) d_Mod_menu_122 rfl (by decide) ?_
    refine g_icmp_ne (pc1 := 126) (tgt := 131) d_Mod_menu_123 (by decide) rfl (fun c24 => ?_) (fun c24 => ?_)
    · replace h := itn h c24
      refine g_bipush (pc1 := 133) (v := (-3)) d_Mod_menu_131 rfl (by decide) ?_
      refine g_ireturn (Or.inl rfl) d_Mod_menu_133 rfl ?_
      cases h; exact hQ
    · replace h := itp h c24
      refine g_bipush (pc1 := 128) (v := (-2)) d_Mod_menu_126 rfl (by decide) ?_
      refine g_goto (tgt := 133) d_Mod_menu_128 (by decide) ?_
      refine g_ireturn (Or.inl rfl) d_Mod_menu_133 rfl ?_
      cases h; exact hQ
def J_Mod_menu_109 (K61 : Int32 → Int32 → Int32 → gM → Option (Int32 × gM)) (v1 : Int32) (v2 : Int32) (v3 : Int32) (v4 : Int32) (v5 : Int32) (v6 : Int32) (v7 : Int32) (M : gM) : Option (Int32 × gM) :=
  nmI (v7 + 1) (fun x29 => K61 v5 v6 x29 M)
set_option maxHeartbeats 4000000 in
set_option maxRecDepth 20000 in
theorem j_Mod_menu_109 {l : Launch} {ld : Nat} {Q : Option Value → gM → gL → gR → Prop} (hld : isLa ld)   {q : Int32 × gM} {M : gM} {L : gL} (hQ : Q (some (.int q.1)) q.2 L (rf ld)) {K61 : Int32 → Int32 → Int32 → gM → Option (Int32 × gM)} {v1 : Int32} {v2 : Int32} {v3 : Int32} {v4 : Int32} {v5 : Int32} {v6 : Int32} {v7 : Int32} (hK61 : ∀ (w5 : Int32) (w6 : Int32) (w7 : Int32) (M : gM), K61 w5 w6 w7 M = some q → Wp l y_Mod_menu (0, 0, 447) 447 0 0 61 [(0, .ref 401), (1, .int v1), (2, .int v2), (3, .int v3), (4, .int v4), (5, .int w5), (6, .int w6), (7, .int w7)] [] M L (rf ld) Q) (h : J_Mod_menu_109 K61 v1 v2 v3 v4 v5 v6 v7 M = some q) : Wp l y_Mod_menu (0, 0, 447) 447 0 0 109 [(0, .ref 401), (1, .int v1), (2, .int v2), (3, .int v3), (4, .int v4), (5, .int v5), (6, .int v6), (7, .int v7)] [] M L (rf ld) Q := by
  unfold J_Mod_menu_109 at h
  obtain ⟨x29, ex29, h⟩ := ltI h
  refine g_iinc (pc1 := 112) (v := x29) (lv' := [(0, .ref 401), (1, .int v1), (2, .int v2), (3, .int v3), (4, .int v4), (5, .int v5), (6, .int v6), (7, .int x29)]) d_Mod_menu_109 rfl 7 rfl (by rw [ex29]; rfl) (by decide) [1, 2, 3, 4, 5, 6, 7, 0] rfl ?_
  refine g_goto (tgt := 61) d_Mod_menu_112 (by decide) ?_
  exact hK61 v5 v6 x29 M h
def J_Mod_menu_101 (K61 : Int32 → Int32 → Int32 → gM → Option (Int32 × gM)) (v1 : Int32) (v2 : Int32) (v3 : Int32) (v4 : Int32) (v7 : Int32) (v8 : Int32) (M : gM) : Option (Int32 × gM) :=
  J_Mod_menu_109 K61 v1 v2 v3 v4 v7 v8 v7 M
set_option maxHeartbeats 4000000 in
set_option maxRecDepth 20000 in
theorem j_Mod_menu_101 {l : Launch} {ld : Nat} {Q : Option Value → gM → gL → gR → Prop} (hld : isLa ld)   {q : Int32 × gM} {M : gM} {L : gL} (hQ : Q (some (.int q.1)) q.2 L (rf ld)) {K61 : Int32 → Int32 → Int32 → gM → Option (Int32 × gM)} {v1 : Int32} {v2 : Int32} {v3 : Int32} {v4 : Int32} {v7 : Int32} {v8 : Int32} (hK61 : ∀ (w5 : Int32) (w6 : Int32) (w7 : Int32) (M : gM), K61 w5 w6 w7 M = some q → Wp l y_Mod_menu (0, 0, 447) 447 0 0 61 [(0, .ref 401), (1, .int v1), (2, .int v2), (3, .int v3), (4, .int v4), (5, .int w5), (6, .int w6), (7, .int w7)] [] M L (rf ld) Q) (h : J_Mod_menu_101 K61 v1 v2 v3 v4 v7 v8 M = some q) : Wp l y_Mod_menu (0, 0, 447) 447 0 0 101 [(0, .ref 401), (1, .int v1), (2, .int v2), (3, .int v3), (4, .int v4), (7, .int v7), (8, .int v8)] [] M L (rf ld) Q := by
  unfold J_Mod_menu_101 at h
  refine g_iload (pc1 := 103) d_Mod_menu_101 rfl 5 rfl ?_
  refine g_istore (pc1 := 105) (lv' := [(0, .ref 401), (1, .int v1), (2, .int v2), (3, .int v3), (4, .int v4), (5, .int v7), (7, .int v7), (8, .int v8)]) d_Mod_menu_103 rfl (by decide) [1, 2, 3, 4, 5, 0, 6, 7] rfl ?_
  refine g_iload (pc1 := 107) d_Mod_menu_105 rfl 7 rfl ?_
  refine g_istore (pc1 := 109) (lv' := [(0, .ref 401), (1, .int v1), (2, .int v2), (3, .int v3), (4, .int v4), (5, .int v7), (6, .int v8), (7, .int v7), (8, .int v8)]) d_Mod_menu_107 rfl (by decide) [1, 2, 3, 4, 5, 6, 0, 7, 8] rfl ?_
  refine Wp.loc (lv' := [(0, .ref 401), (1, .int v1), (2, .int v2), (3, .int v3), (4, .int v4), (5, .int v7), (6, .int v8), (7, .int v7)]) [0, 1, 2, 3, 4, 5, 6, 7] rfl ?_
  exact j_Mod_menu_109 hld  hQ hK61 h
def B_Mod_menu_61 (v1 : Int32) (v2 : Int32) (v3 : Int32) (v4 : Int32) (K61 : Int32 → Int32 → Int32 → gM → Option (Int32 × gM)) : Int32 → Int32 → Int32 → gM → Option (Int32 × gM) := fun v5 v6 v7 M =>
  bI (F_Mod_sixes v2) (fun r15 => (if r15 ≤ v7 then J_Mod_menu_115 v2 v4 v5 v6 M else bI2 (F_Mod_mealsBy v7 v1 v2 v3 M) (fun r26 M27 => (if r26 < 0 then J_Mod_menu_109 K61 v1 v2 v3 v4 v5 v6 v7 M27 else (if v5 < 0 then J_Mod_menu_101 K61 v1 v2 v3 v4 v7 r26 M27 else (if r26 < v6 then J_Mod_menu_101 K61 v1 v2 v3 v4 v7 r26 M27 else J_Mod_menu_109 K61 v1 v2 v3 v4 v5 v6 v7 M27))))))
def H_Mod_menu_61 (v1 : Int32) (v2 : Int32) (v3 : Int32) (v4 : Int32) : Nat → Int32 → Int32 → Int32 → gM → Option (Int32 × gM) := lpK (B_Mod_menu_61 v1 v2 v3 v4) (fun _ _ _ _ => none)
set_option maxHeartbeats 4000000 in
set_option maxRecDepth 20000 in
theorem h_Mod_menu_61 {l : Launch} {ld : Nat} {Q : Option Value → gM → gL → gR → Prop} (hld : isLa ld)   {q : Int32 × gM} {L : gL} (hQ : Q (some (.int q.1)) q.2 L (rf ld))  {v1 : Int32} {v2 : Int32} {v3 : Int32} {v4 : Int32}  : ∀ (f : Nat) (v5 : Int32) (v6 : Int32) (v7 : Int32) (M : gM), H_Mod_menu_61 v1 v2 v3 v4 f v5 v6 v7 M = some q → Wp l y_Mod_menu (0, 0, 447) 447 0 0 61 [(0, .ref 401), (1, .int v1), (2, .int v2), (3, .int v3), (4, .int v4), (5, .int v5), (6, .int v6), (7, .int v7)] [] M L (rf ld) Q := by
  intro f
  induction f with
  | zero => intro v5 v6 v7 M h; cases h
  | succ f hK61 =>
    intro v5 v6 v7 M h
    replace h : B_Mod_menu_61 v1 v2 v3 v4 (H_Mod_menu_61 v1 v2 v3 v4 f) v5 v6 v7 M = some q := h
    unfold B_Mod_menu_61 at h
    refine g_iload (pc1 := 63) d_Mod_menu_61 rfl 7 rfl ?_
    refine g_iload_n (pc1 := 64) d_Mod_menu_63 rfl 2 rfl ?_
    refine g_callS0 (pc1 := 67) (As := [.int v2]) (rest := [.int v7]) d_Mod_menu_64 rfl mo_Mod_440 ms_Mod_sixes (by decide) rfl rfl (Nat.le_of_ble_eq_true rfl) ?_
    obtain ⟨r15, hq14, h⟩ := bnd h
    refine f_Mod_sixes hld  hq14 ?_
    dsimp only [psh]
    refine g_icmp_ge (pc1 := 70) (tgt := 115) d_Mod_menu_67 (by decide) rfl (fun c16 => ?_) (fun c16 => ?_)
    · replace h := itp h c16
      refine Wp.loc (lv' := [(2, .int v2), (4, .int v4), (5, .int v5), (6, .int v6)]) [2, 4, 5, 6] rfl ?_
      exact j_Mod_menu_115 hld  hQ  h
    · replace h := itn h c16
      refine g_aload_n (pc1 := 71) d_Mod_menu_70 rfl 0 rfl ?_
      refine g_iload (pc1 := 73) d_Mod_menu_71 rfl 7 rfl ?_
      refine g_iload_n (pc1 := 74) d_Mod_menu_73 rfl 1 rfl ?_
      refine g_iload_n (pc1 := 75) d_Mod_menu_74 rfl 2 rfl ?_
      refine g_iload_n (pc1 := 76) d_Mod_menu_75 rfl 3 rfl ?_
      refine g_callV0 (pc1 := 79) (As := [.int v7, .int v1, .int v2, .int v3]) (rest := []) d_Mod_menu_76 rfl mo_Mod_443 mi_Mod_mealsBy mv_Mod_mealsBy rfl sh_401 (by decide) (by decide) rfl rfl (Nat.le_of_ble_eq_true rfl) ?_
      obtain ⟨r26, M27, hq25, h⟩ := bnd2 h
      refine f_Mod_mealsBy hld  hq25 ?_
      dsimp only [psh]
      refine g_istore (pc1 := 81) (lv' := [(0, .ref 401), (1, .int v1), (2, .int v2), (3, .int v3), (4, .int v4), (5, .int v5), (6, .int v6), (7, .int v7), (8, .int r26)]) d_Mod_menu_79 rfl (by decide) [1, 2, 3, 4, 5, 6, 7, 8, 0] rfl ?_
      refine g_iload (pc1 := 83) d_Mod_menu_81 rfl 8 rfl ?_
      refine g_if_lt (pc1 := 86) (tgt := 109) d_Mod_menu_83 (by decide) rfl (fun c28 => ?_) (fun c28 => ?_)
      · replace h := itp h c28
        refine Wp.loc (lv' := [(0, .ref 401), (1, .int v1), (2, .int v2), (3, .int v3), (4, .int v4), (5, .int v5), (6, .int v6), (7, .int v7)]) [0, 1, 2, 3, 4, 5, 6, 7] rfl ?_
        exact j_Mod_menu_109 hld  hQ hK61 h
      · replace h := itn h c28
        refine g_iload (pc1 := 88) d_Mod_menu_86 rfl 5 rfl ?_
        refine g_if_lt (pc1 := 91) (tgt := 101) d_Mod_menu_88 (by decide) rfl (fun c30 => ?_) (fun c30 => ?_)
        · replace h := itp h c30
          refine Wp.loc (lv' := [(0, .ref 401), (1, .int v1), (2, .int v2), (3, .int v3), (4, .int v4), (7, .int v7), (8, .int r26)]) [0, 1, 2, 3, 4, 7, 8] rfl ?_
          exact j_Mod_menu_101 hld  hQ hK61 h
        · replace h := itn h c30
          refine g_iload (pc1 := 93) d_Mod_menu_91 rfl 8 rfl ?_
          refine g_iload (pc1 := 95) d_Mod_menu_93 rfl 6 rfl ?_
          refine g_icmp_lt (pc1 := 98) (tgt := 101) d_Mod_menu_95 (by decide) rfl (fun c31 => ?_) (fun c31 => ?_)
          · replace h := itp h c31
            refine Wp.loc (lv' := [(0, .ref 401), (1, .int v1), (2, .int v2), (3, .int v3), (4, .int v4), (7, .int v7), (8, .int r26)]) [0, 1, 2, 3, 4, 7, 8] rfl ?_
            exact j_Mod_menu_101 hld  hQ hK61 h
          · replace h := itn h c31
            refine g_goto (tgt := 109) d_Mod_menu_98 (by decide) ?_
            refine Wp.loc (lv' := [(0, .ref 401), (1, .int v1), (2, .int v2), (3, .int v3), (4, .int v4), (5, .int v5), (6, .int v6), (7, .int v7)]) [0, 1, 2, 3, 4, 5, 6, 7] rfl ?_
            exact j_Mod_menu_109 hld  hQ hK61 h
def F_Mod_menu (p1 : Int32) (p2 : Int32) (p3 : Int32) (p4 : Int32) (M : gM) : Option (Int32 × gM) :=
  bI (F_Mod_isGuest p1 M) (fun r2 => (if r2 = 0 then some ((-1), M) else bI (F_Mod_in p2 1 4) (fun r5 => (if r5 = 0 then some ((-1), M) else (if ((M 401 18) : Int32) < 0 ∨ 2 ≤ ((M 401 18) : Int32).toNatClampNeg then none else bI (F_Mod_in p3 0 ((1 <<< ((M 420 ((M 401 18) : Int32).toNatClampNeg) &&& 31)) - 1)) (fun r9 => (if r9 = 0 then some ((-1), M) else bI (F_Mod_in p4 (-1) (p2 - 1)) (fun r12 => (if r12 = 0 then some ((-1), M) else H_Mod_menu_61 p1 p2 p3 p4 FU (-1) 0 0 M)))))))))
set_option maxHeartbeats 4000000 in
set_option maxRecDepth 20000 in
theorem f_Mod_menu {l : Launch} {ld : Nat} {M : gM} {L : gL} {Q : Option Value → gM → gL → gR → Prop} (hld : isLa ld) {p1 : Int32} {p2 : Int32} {p3 : Int32} {p4 : Int32}  {q : Int32 × gM} (h : F_Mod_menu p1 p2 p3 p4 M = some q) (hQ : Q (some (.int q.1)) q.2 L (rf ld)) : Tm l y_Mod_menu (0, 0, 447) 447 [.ref 401, .int p1, .int p2, .int p3, .int p4] M L (rf ld) Q := by
  refine Tm.of (by decide) (Nat.le_of_ble_eq_true rfl) ?_
  show Wp l y_Mod_menu (0, 0, 447) 447 0 0 0 [(0, .ref 401), (1, .int p1), (2, .int p2), (3, .int p3), (4, .int p4)] [] M L (rf ld) Q
  unfold F_Mod_menu at h
  refine g_aload_n (pc1 := 1) d_Mod_menu_0 rfl 0 rfl ?_
  refine g_iload_n (pc1 := 2) d_Mod_menu_1 rfl 1 rfl ?_
  refine g_callV0 (pc1 := 5) (As := [.int p1]) (rest := []) d_Mod_menu_2 rfl mo_Mod_380 mi_Mod_isGuest mv_Mod_isGuest rfl sh_401 (by decide) (by decide) rfl rfl (Nat.le_of_ble_eq_true rfl) ?_
  obtain ⟨r2, hq1, h⟩ := bnd h
  refine f_Mod_isGuest hld  hq1 ?_
  dsimp only [psh]
  refine g_if_eq (pc1 := 8) (tgt := 50) d_Mod_menu_5 (by decide) rfl (fun c3 => ?_) (fun c3 => ?_)
  · replace h := itp h c3
    refine g_iconst (pc1 := 51) (v := (-1)) d_Mod_menu_50 rfl (by decide) ?_
    refine g_ireturn (Or.inl rfl) d_Mod_menu_51 rfl ?_
    cases h; exact hQ
  · replace h := itn h c3
    refine g_iload_n (pc1 := 9) d_Mod_menu_8 rfl 2 rfl ?_
    refine g_iconst (pc1 := 10) (v := 1) d_Mod_menu_9 rfl (by decide) ?_
    refine g_iconst (pc1 := 11) (v := 4) d_Mod_menu_10 rfl (by decide) ?_
    refine g_callS0 (pc1 := 14) (As := [.int p2, .int 1, .int 4]) (rest := []) d_Mod_menu_11 rfl mo_Mod_316 ms_Mod_in (by decide) rfl rfl (Nat.le_of_ble_eq_true rfl) ?_
    obtain ⟨r5, hq4, h⟩ := bnd h
    refine f_Mod_in hld  hq4 ?_
    dsimp only [psh]
    refine g_if_eq (pc1 := 17) (tgt := 50) d_Mod_menu_14 (by decide) rfl (fun c6 => ?_) (fun c6 => ?_)
    · replace h := itp h c6
      refine g_iconst (pc1 := 51) (v := (-1)) d_Mod_menu_50 rfl (by decide) ?_
      refine g_ireturn (Or.inl rfl) d_Mod_menu_51 rfl ?_
      cases h; exact hQ
    · replace h := itn h c6
      refine g_iload_n (pc1 := 18) d_Mod_menu_17 rfl 3 rfl ?_
      refine g_iconst (pc1 := 19) (v := 0) d_Mod_menu_18 rfl (by decide) ?_
      refine g_iconst (pc1 := 20) (v := 1) d_Mod_menu_19 rfl (by decide) ?_
      refine g_aload_n (pc1 := 21) d_Mod_menu_20 rfl 0 rfl ?_
      refine g_getr (pc1 := 24) d_Mod_menu_21 rfl ⟨_, fo_Mod_73⟩ sh_401 (by decide) (rf_401_32 ld) ?_
      refine g_aload_n (pc1 := 25) d_Mod_menu_24 rfl 0 rfl ?_
      refine g_geti (pc1 := 28) d_Mod_menu_25 rfl ⟨_, fo_Mod_236⟩ sh_401 (by decide) ?_
      obtain ⟨g7, h⟩ := gdn h
      refine g_iald (pc1 := 29) d_Mod_menu_28 rfl sh_420 (by decide) g7 ?_
      refine g_ishl (pc1 := 30) d_Mod_menu_29 rfl ?_
      refine g_iconst (pc1 := 31) (v := 1) d_Mod_menu_30 rfl (by decide) ?_
      refine g_isub (pc1 := 32) d_Mod_menu_31 rfl ?_
      refine g_callS0 (pc1 := 35) (As := [.int p3, .int 0, .int ((1 <<< ((M 420 ((M 401 18) : Int32).toNatClampNeg) &&& 31)) - 1)]) (rest := []) d_Mod_menu_32 rfl mo_Mod_316 ms_Mod_in (by decide) rfl rfl (Nat.le_of_ble_eq_true rfl) ?_
      obtain ⟨r9, hq8, h⟩ := bnd h
      refine f_Mod_in hld  hq8 ?_
      dsimp only [psh]
      refine g_if_eq (pc1 := 38) (tgt := 50) d_Mod_menu_35 (by decide) rfl (fun c10 => ?_) (fun c10 => ?_)
      · replace h := itp h c10
        refine g_iconst (pc1 := 51) (v := (-1)) d_Mod_menu_50 rfl (by decide) ?_
        refine g_ireturn (Or.inl rfl) d_Mod_menu_51 rfl ?_
        cases h; exact hQ
      · replace h := itn h c10
        refine g_iload (pc1 := 40) d_Mod_menu_38 rfl 4 rfl ?_
        refine g_iconst (pc1 := 41) (v := (-1)) d_Mod_menu_40 rfl (by decide) ?_
        refine g_iload_n (pc1 := 42) d_Mod_menu_41 rfl 2 rfl ?_
        refine g_iconst (pc1 := 43) (v := 1) d_Mod_menu_42 rfl (by decide) ?_
        refine g_isub (pc1 := 44) d_Mod_menu_43 rfl ?_
        refine g_callS0 (pc1 := 47) (As := [.int p4, .int (-1), .int (p2 - 1)]) (rest := []) d_Mod_menu_44 rfl mo_Mod_316 ms_Mod_in (by decide) rfl rfl (Nat.le_of_ble_eq_true rfl) ?_
        obtain ⟨r12, hq11, h⟩ := bnd h
        refine f_Mod_in hld  hq11 ?_
        dsimp only [psh]
        refine g_if_ne (pc1 := 50) (tgt := 52) d_Mod_menu_47 (by decide) rfl (fun c13 => ?_) (fun c13 => ?_)
        · replace h := itn h c13
          refine g_iconst (pc1 := 53) (v := (-1)) d_Mod_menu_52 rfl (by decide) ?_
          refine g_istore (pc1 := 55) (lv' := [(0, .ref 401), (1, .int p1), (2, .int p2), (3, .int p3), (4, .int p4), (5, .int (-1))]) d_Mod_menu_53 rfl (by decide) [1, 2, 3, 4, 5, 0] rfl ?_
          refine g_iconst (pc1 := 56) (v := 0) d_Mod_menu_55 rfl (by decide) ?_
          refine g_istore (pc1 := 58) (lv' := [(0, .ref 401), (1, .int p1), (2, .int p2), (3, .int p3), (4, .int p4), (5, .int (-1)), (6, .int 0)]) d_Mod_menu_56 rfl (by decide) [1, 2, 3, 4, 5, 6, 0] rfl ?_
          refine g_iconst (pc1 := 59) (v := 0) d_Mod_menu_58 rfl (by decide) ?_
          refine g_istore (pc1 := 61) (lv' := [(0, .ref 401), (1, .int p1), (2, .int p2), (3, .int p3), (4, .int p4), (5, .int (-1)), (6, .int 0), (7, .int 0)]) d_Mod_menu_59 rfl (by decide) [1, 2, 3, 4, 5, 6, 7, 0] rfl ?_
          exact h_Mod_menu_61 hld  hQ  _ (-1) 0 0 M h
        · replace h := itp h c13
          refine g_iconst (pc1 := 51) (v := (-1)) d_Mod_menu_50 rfl (by decide) ?_
          refine g_ireturn (Or.inl rfl) d_Mod_menu_51 rfl ?_
          cases h; exact hQ

def B_Mod_supper_4  (K4 : Int32 → Int32 → gM → Option (Int32 × gM)) : Int32 → Int32 → gM → Option (Int32 × gM) := fun v1 v2 M =>
  (if ((M 401 18) : Int32) < 0 ∨ 2 ≤ ((M 401 18) : Int32).toNatClampNeg then none else (if (M 418 ((M 401 18) : Int32).toNatClampNeg) ≤ v2 then some (v1, M) else (if ((M 401 18) : Int32) < 0 ∨ 2 ≤ ((M 401 18) : Int32).toNatClampNeg then none else (if (M 415 ((M 401 18) : Int32).toNatClampNeg) ≤ 0 then some (v1, M) else bI2 (F_Mod_freestOf v2 M) (fun r6 M7 => nmI (v1 + (M7 401 63)) (fun x8 => nmI (v2 + 1) (fun x9 => K4 x8 x9 M7)))))))
def H_Mod_supper_4  : Nat → Int32 → Int32 → gM → Option (Int32 × gM) := lpK (B_Mod_supper_4 ) (fun _ _ _ => none)
set_option maxHeartbeats 4000000 in
set_option maxRecDepth 20000 in
theorem h_Mod_supper_4 {l : Launch} {ld : Nat} {Q : Option Value → gM → gL → gR → Prop} (hld : isLa ld)   {q : Int32 × gM} {L : gL} (hQ : Q (some (.int q.1)) q.2 L (rf ld))    : ∀ (f : Nat) (v1 : Int32) (v2 : Int32) (M : gM), H_Mod_supper_4  f v1 v2 M = some q → Wp l y_Mod_supper (0, 0, 447) 447 0 0 4 [(0, .ref 401), (1, .int v1), (2, .int v2)] [] M L (rf ld) Q := by
  intro f
  induction f with
  | zero => intro v1 v2 M h; cases h
  | succ f hK4 =>
    intro v1 v2 M h
    replace h : B_Mod_supper_4  (H_Mod_supper_4  f) v1 v2 M = some q := h
    unfold B_Mod_supper_4 at h
    refine g_iload_n (pc1 := 5) d_Mod_supper_4 rfl 2 rfl ?_
    refine g_aload_n (pc1 := 6) d_Mod_supper_5 rfl 0 rfl ?_
    refine g_getr (pc1 := 9) d_Mod_supper_6 rfl ⟨_, fo_Mod_67⟩ sh_401 (by decide) (rf_401_30 ld) ?_
    refine g_aload_n (pc1 := 10) d_Mod_supper_9 rfl 0 rfl ?_
    refine g_geti (pc1 := 13) d_Mod_supper_10 rfl ⟨_, fo_Mod_236⟩ sh_401 (by decide) ?_
    obtain ⟨g1, h⟩ := gdn h
    refine g_iald (pc1 := 14) d_Mod_supper_13 rfl sh_418 (by decide) g1 ?_
    refine g_icmp_ge (pc1 := 17) (tgt := 48) d_Mod_supper_14 (by decide) rfl (fun c2 => ?_) (fun c2 => ?_)
    · replace h := itp h c2
      refine g_iload_n (pc1 := 49) d_Mod_supper_48 rfl 1 rfl ?_
      refine g_ireturn (Or.inl rfl) d_Mod_supper_49 rfl ?_
      cases h; exact hQ
    · replace h := itn h c2
      refine g_aload_n (pc1 := 18) d_Mod_supper_17 rfl 0 rfl ?_
      refine g_getr (pc1 := 21) d_Mod_supper_18 rfl ⟨_, fo_Mod_58⟩ sh_401 (by decide) (rf_401_27 ld) ?_
      refine g_aload_n (pc1 := 22) d_Mod_supper_21 rfl 0 rfl ?_
      refine g_geti (pc1 := 25) d_Mod_supper_22 rfl ⟨_, fo_Mod_236⟩ sh_401 (by decide) ?_
      obtain ⟨g3, h⟩ := gdn h
      refine g_iald (pc1 := 26) d_Mod_supper_25 rfl sh_415 (by decide) g3 ?_
      refine g_if_le (pc1 := 29) (tgt := 48) d_Mod_supper_26 (by decide) rfl (fun c4 => ?_) (fun c4 => ?_)
      · replace h := itp h c4
        refine g_iload_n (pc1 := 49) d_Mod_supper_48 rfl 1 rfl ?_
        refine g_ireturn (Or.inl rfl) d_Mod_supper_49 rfl ?_
        cases h; exact hQ
      · replace h := itn h c4
        refine g_aload_n (pc1 := 30) d_Mod_supper_29 rfl 0 rfl ?_
        refine g_iload_n (pc1 := 31) d_Mod_supper_30 rfl 2 rfl ?_
        refine g_callV0 (pc1 := 34) (As := [.int v2]) (rest := []) d_Mod_supper_31 rfl mo_Mod_437 mi_Mod_freestOf mv_Mod_freestOf rfl sh_401 (by decide) (by decide) rfl rfl (Nat.le_of_ble_eq_true rfl) ?_
        obtain ⟨r6, M7, hq5, h⟩ := bnd2 h
        refine f_Mod_freestOf hld  hq5 ?_
        dsimp only [psh]
        refine g_pop (pc1 := 35) d_Mod_supper_34 rfl rfl ?_
        refine g_iload_n (pc1 := 36) d_Mod_supper_35 rfl 1 rfl ?_
        refine g_aload_n (pc1 := 37) d_Mod_supper_36 rfl 0 rfl ?_
        refine g_geti (pc1 := 40) d_Mod_supper_37 rfl ⟨_, fo_Mod_428⟩ sh_401 (by decide) ?_
        refine g_iadd (pc1 := 41) d_Mod_supper_40 rfl ?_
        refine Wp.lI h (fun x8 h => ?_)
        refine g_istore_n (pc1 := 42) (lv' := [(0, .ref 401), (1, .int x8), (2, .int v2)]) d_Mod_supper_41 rfl rfl (by decide) [1, 0, 2] rfl ?_
        obtain ⟨x9, ex9, h⟩ := ltI h
        refine g_iinc (pc1 := 45) (v := x9) (lv' := [(0, .ref 401), (1, .int x8), (2, .int x9)]) d_Mod_supper_42 rfl 2 rfl (by rw [ex9]; rfl) (by decide) [1, 2, 0] rfl ?_
        refine g_goto (tgt := 4) d_Mod_supper_45 (by decide) ?_
        exact hK4 x8 x9 M7 h
def F_Mod_supper (M : gM) : Option (Int32 × gM) :=
  H_Mod_supper_4 FU 0 0 M
set_option maxHeartbeats 4000000 in
set_option maxRecDepth 20000 in
theorem f_Mod_supper {l : Launch} {ld : Nat} {M : gM} {L : gL} {Q : Option Value → gM → gL → gR → Prop} (hld : isLa ld)   {q : Int32 × gM} (h : F_Mod_supper M = some q) (hQ : Q (some (.int q.1)) q.2 L (rf ld)) : Tm l y_Mod_supper (0, 0, 447) 447 [.ref 401] M L (rf ld) Q := by
  refine Tm.of (by decide) (Nat.le_of_ble_eq_true rfl) ?_
  show Wp l y_Mod_supper (0, 0, 447) 447 0 0 0 [(0, .ref 401)] [] M L (rf ld) Q
  unfold F_Mod_supper at h
  refine g_iconst (pc1 := 1) (v := 0) d_Mod_supper_0 rfl (by decide) ?_
  refine g_istore_n (pc1 := 2) (lv' := [(0, .ref 401), (1, .int 0)]) d_Mod_supper_1 rfl rfl (by decide) [1, 0] rfl ?_
  refine g_iconst (pc1 := 3) (v := 0) d_Mod_supper_2 rfl (by decide) ?_
  refine g_istore_n (pc1 := 4) (lv' := [(0, .ref 401), (1, .int 0), (2, .int 0)]) d_Mod_supper_3 rfl rfl (by decide) [1, 2, 0] rfl ?_
  exact h_Mod_supper_4 hld  hQ  _ 0 0 M h
end MG5x4
