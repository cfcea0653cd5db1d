def F_State_hasEaten (X0 : Nat) (p1 : Int32) (M : gM) : Option (Int32) :=
  bI (F_Main_at (X0 + 4) 4 p1 M) (fun r2 => (if r2 ≤ 0 then some 0 else some 1))
set_option maxHeartbeats 4000000 in
set_option maxRecDepth 20000 in
theorem f_State_hasEaten {l : Launch} {ld : Nat} {M : gM} {L : gL} {Q : Option Value → gM → gL → gR → Prop} (hld : isLa ld) {X0 : Nat} {p1 : Int32} (hX0 : isSt X0) {q : Int32} (h : F_State_hasEaten X0 p1 M = some q) (hQ : Q (some (.int q)) M L (rf ld)) : Tm l y_State_hasEaten (0, 0, 447) 447 [.ref X0, .int p1] M L (rf ld) Q := by
  refine Tm.of (by decide) (Nat.le_of_ble_eq_true rfl) ?_
  show Wp l y_State_hasEaten (0, 0, 447) 447 0 0 0 [(0, .ref X0), (1, .int p1)] [] M L (rf ld) Q
  unfold F_State_hasEaten at h
  refine g_aload_n (pc1 := 1) d_State_hasEaten_0 rfl 0 rfl ?_
  refine g_getr (pc1 := 4) d_State_hasEaten_1 rfl ⟨_, fo_State_25⟩ (shSt_0 hX0) (ltSt_0 hX0) (rfSt_7 ld hX0) ?_
  refine g_iload_n (pc1 := 5) d_State_hasEaten_4 rfl 1 rfl ?_
  refine g_callS0 (pc1 := 8) (As := [.ref (X0 + 4), .int p1]) (rest := []) d_State_hasEaten_5 rfl mo_State_53 ms_Main_at (by decide) rfl rfl (Nat.le_of_ble_eq_true rfl) ?_
  obtain ⟨r2, hq1, h⟩ := bnd h
  refine f_Main_at hld (shSt_4 hX0) (ltSt_4 hX0) (by decide) hq1 ?_
  dsimp only [psh]
  refine g_if_le (pc1 := 11) (tgt := 15) d_State_hasEaten_8 (by decide) rfl (fun c3 => ?_) (fun c3 => ?_)
  · replace h := itp h c3
    refine g_iconst (pc1 := 16) (v := 0) d_State_hasEaten_15 rfl (by decide) ?_
    refine g_ireturn (Or.inr ⟨rfl, rfl⟩) d_State_hasEaten_16 rfl ?_
    cases h; exact hQ
  · replace h := itn h c3
    refine g_iconst (pc1 := 12) (v := 1) d_State_hasEaten_11 rfl (by decide) ?_
    refine g_goto (tgt := 16) d_State_hasEaten_12 (by decide) ?_
    refine g_ireturn (Or.inr ⟨rfl, rfl⟩) d_State_hasEaten_16 rfl ?_
    cases h; exact hQ

def B_Tape_write_3 (v1 : Int32) (K3 : Int32 → gM → Option (gM)) : Int32 → gM → Option (gM) := fun v2 M =>
  (if v2 < 0 then some M else bI (F_Main_put 2 2000 (M 1 1) (((v1.toUInt32 >>> (v2.toUInt32 &&& Int32.toUInt32 31)).toInt32) &&& 255) M) (fun M3 => nmM (uM M3 1 1 ((M3 1 1) + 1)) (fun M4 => nmI (v2 + (-8)) (fun x5 => K3 x5 M4))))
def H_Tape_write_3 (v1 : Int32) : Nat → Int32 → gM → Option (gM) := lpK (B_Tape_write_3 v1) (fun _ _ => none)
set_option maxHeartbeats 4000000 in
set_option maxRecDepth 20000 in
theorem h_Tape_write_3 {l : Launch} {ld : Nat} {Q : Option Value → gM → gL → gR → Prop} (hld : isLa ld)   {q : gM} {L : gL} (hQ : Q none q L (rf ld))  {v1 : Int32}  : ∀ (f : Nat) (v2 : Int32) (M : gM), H_Tape_write_3 v1 f v2 M = some q → Wp l y_Tape_write (0, 0, 447) 447 0 0 3 [(0, .ref 1), (1, .int v1), (2, .int v2)] [] M L (rf ld) Q := by
  intro f
  induction f with
  | zero => intro v2 M h; cases h
  | succ f hK3 =>
    intro v2 M h
    replace h : B_Tape_write_3 v1 (H_Tape_write_3 v1 f) v2 M = some q := h
    unfold B_Tape_write_3 at h
    refine g_iload_n (pc1 := 4) d_Tape_write_3 rfl 2 rfl ?_
    refine g_if_lt (pc1 := 7) (tgt := 41) d_Tape_write_4 (by decide) rfl (fun c1 => ?_) (fun c1 => ?_)
    · replace h := itp h c1
      refine g_return rfl d_Tape_write_41 rfl ?_
      cases h; exact hQ
    · replace h := itn h c1
      refine g_aload_n (pc1 := 8) d_Tape_write_7 rfl 0 rfl ?_
      refine g_getr (pc1 := 11) d_Tape_write_8 rfl ⟨_, fo_Tape_9⟩ sh_1 (by decide) (rf_1_0 ld) ?_
      refine g_aload_n (pc1 := 12) d_Tape_write_11 rfl 0 rfl ?_
      refine g_geti (pc1 := 15) d_Tape_write_12 rfl ⟨_, fo_Tape_15⟩ sh_1 (by decide) ?_
      refine g_iload_n (pc1 := 16) d_Tape_write_15 rfl 1 rfl ?_
      refine g_iload_n (pc1 := 17) d_Tape_write_16 rfl 2 rfl ?_
      refine g_iushr (pc1 := 18) d_Tape_write_17 rfl ?_
      refine g_sipush (pc1 := 21) (v := 255) d_Tape_write_18 rfl (by decide) ?_
      refine g_iand (pc1 := 22) d_Tape_write_21 rfl ?_
      refine g_callS0 (pc1 := 25) (As := [.ref 2, .int (M 1 1), .int (((v1.toUInt32 >>> (v2.toUInt32 &&& Int32.toUInt32 31)).toInt32) &&& 255)]) (rest := []) d_Tape_write_22 rfl mo_Tape_19 ms_Main_put (by decide) rfl rfl (Nat.le_of_ble_eq_true rfl) ?_
      obtain ⟨M3, hq2, h⟩ := bnd h
      refine f_Main_put hld sh_2 (by decide) (by decide) hq2 ?_
      dsimp only [psh]
      refine g_aload_n (pc1 := 26) d_Tape_write_25 rfl 0 rfl ?_
      refine g_dup (pc1 := 27) d_Tape_write_26 rfl rfl ?_
      refine g_geti (pc1 := 30) d_Tape_write_27 rfl ⟨_, fo_Tape_15⟩ sh_1 (by decide) ?_
      refine g_iconst (pc1 := 31) (v := 1) d_Tape_write_30 rfl (by decide) ?_
      refine g_iadd (pc1 := 32) d_Tape_write_31 rfl ?_
      refine g_puti (pc1 := 35) d_Tape_write_32 rfl fo_Tape_15 (po_1_1 _) sh_1 (by decide) ?_
      refine Wp.lM h (fun M4 h => ?_)
      obtain ⟨x5, ex5, h⟩ := ltI h
      refine g_iinc (pc1 := 38) (v := x5) (lv' := [(0, .ref 1), (1, .int v1), (2, .int x5)]) d_Tape_write_35 rfl 2 rfl (by rw [ex5]; rfl) (by decide) [1, 2, 0] rfl ?_
      refine g_goto (tgt := 3) d_Tape_write_38 (by decide) ?_
      exact hK3 x5 M4 h
def F_Tape_write (p1 : Int32) (M : gM) : Option (gM) :=
  H_Tape_write_3 p1 FU 24 M
set_option maxHeartbeats 4000000 in
set_option maxRecDepth 20000 in
theorem f_Tape_write {l : Launch} {ld : Nat} {M : gM} {L : gL} {Q : Option Value → gM → gL → gR → Prop} (hld : isLa ld) {p1 : Int32}  {q : gM} (h : F_Tape_write p1 M = some q) (hQ : Q none q L (rf ld)) : Tm l y_Tape_write (0, 0, 447) 447 [.ref 1, .int p1] M L (rf ld) Q := by
  refine Tm.of (by decide) (Nat.le_of_ble_eq_true rfl) ?_
  show Wp l y_Tape_write (0, 0, 447) 447 0 0 0 [(0, .ref 1), (1, .int p1)] [] M L (rf ld) Q
  unfold F_Tape_write at h
  refine g_bipush (pc1 := 2) (v := 24) d_Tape_write_0 rfl (by decide) ?_
  refine g_istore_n (pc1 := 3) (lv' := [(0, .ref 1), (1, .int p1), (2, .int 24)]) d_Tape_write_2 rfl rfl (by decide) [1, 2, 0] rfl ?_
  exact h_Tape_write_3 hld  hQ  _ 24 M h

def B_Tokens_behindBlanks_2 (M : gM) (K2 : Int32 → Option (Int32)) : Int32 → Option (Int32) := fun v2 =>
  (if (M 1 1) ≤ v2 then some v2 else bI (F_Tape_byteAt v2 M) (fun r3 => bI (F_Tokens_isBlank r3) (fun r5 => (if r5 = 0 then some v2 else nmI (v2 + 1) (fun x7 => K2 x7)))))
def H_Tokens_behindBlanks_2 (M : gM) : Nat → Int32 → Option (Int32) := lpK (B_Tokens_behindBlanks_2 M) (fun _ => none)
set_option maxHeartbeats 4000000 in
set_option maxRecDepth 20000 in
theorem h_Tokens_behindBlanks_2 {l : Launch} {ld : Nat} {Q : Option Value → gM → gL → gR → Prop} (hld : isLa ld)   {q : Int32} {M : gM} {L : gL} (hQ : Q (some (.int q)) M L (rf ld))    : ∀ (f : Nat) (v2 : Int32), H_Tokens_behindBlanks_2 M f v2 = some q → Wp l y_Tokens_behindBlanks (0, 0, 447) 447 0 0 2 [(0, .ref 1), (2, .int v2)] [] M L (rf ld) Q := by
  intro f
  induction f with
  | zero => intro v2 h; cases h
  | succ f hK2 =>
    intro v2 h
    replace h : B_Tokens_behindBlanks_2 M (H_Tokens_behindBlanks_2 M f) v2 = some q := h
    unfold B_Tokens_behindBlanks_2 at h
    refine g_iload_n (pc1 := 3) d_Tokens_behindBlanks_2 rfl 1 rfl ?_
    refine g_aload_n (pc1 := 4) d_Tokens_behindBlanks_3 rfl 0 rfl ?_
    refine g_geti (pc1 := 7) d_Tokens_behindBlanks_4 rfl ⟨_, fo_Tokens_55⟩ sh_1 (by decide) ?_
    refine g_icmp_ge (pc1 := 10) (tgt := 27) d_Tokens_behindBlanks_7 (by decide) rfl (fun c1 => ?_) (fun c1 => ?_)
    · replace h := itp h c1
      refine g_iload_n (pc1 := 28) d_Tokens_behindBlanks_27 rfl 1 rfl ?_
      refine g_ireturn (Or.inl rfl) d_Tokens_behindBlanks_28 rfl ?_
      cases h; exact hQ
    · replace h := itn h c1
      refine g_aload_n (pc1 := 11) d_Tokens_behindBlanks_10 rfl 0 rfl ?_
      refine g_iload_n (pc1 := 12) d_Tokens_behindBlanks_11 rfl 1 rfl ?_
      refine g_callV0 (pc1 := 15) (As := [.int v2]) (rest := []) d_Tokens_behindBlanks_12 rfl mo_Tokens_60 mi_Tape_byteAt mv_Tape_byteAt rfl sh_1 (by decide) (by decide) rfl rfl (Nat.le_of_ble_eq_true rfl) ?_
      obtain ⟨r3, hq2, h⟩ := bnd h
      refine f_Tape_byteAt hld  hq2 ?_
      dsimp only [psh]
      refine g_callS0 (pc1 := 18) (As := [.int r3]) (rest := []) d_Tokens_behindBlanks_15 rfl mo_Tokens_64 ms_Tokens_isBlank (by decide) rfl rfl (Nat.le_of_ble_eq_true rfl) ?_
      obtain ⟨r5, hq4, h⟩ := bnd h
      refine f_Tokens_isBlank hld  hq4 ?_
      dsimp only [psh]
      refine g_if_eq (pc1 := 21) (tgt := 27) d_Tokens_behindBlanks_18 (by decide) rfl (fun c6 => ?_) (fun c6 => ?_)
      · replace h := itp h c6
        refine g_iload_n (pc1 := 28) d_Tokens_behindBlanks_27 rfl 1 rfl ?_
        refine g_ireturn (Or.inl rfl) d_Tokens_behindBlanks_28 rfl ?_
        cases h; exact hQ
      · replace h := itn h c6
        obtain ⟨x7, ex7, h⟩ := ltI h
        refine g_iinc (pc1 := 24) (v := x7) (lv' := [(0, .ref 1), (2, .int x7)]) d_Tokens_behindBlanks_21 rfl 1 rfl (by rw [ex7]; rfl) (by decide) [1, 0] rfl ?_
        refine g_goto (tgt := 2) d_Tokens_behindBlanks_24 (by decide) ?_
        exact hK2 x7 h
def F_Tokens_behindBlanks (p2 : Int32) (M : gM) : Option (Int32) :=
  H_Tokens_behindBlanks_2 M FU p2
set_option maxHeartbeats 4000000 in
set_option maxRecDepth 20000 in
theorem f_Tokens_behindBlanks {l : Launch} {ld : Nat} {M : gM} {L : gL} {Q : Option Value → gM → gL → gR → Prop} (hld : isLa ld) {p2 : Int32}  {q : Int32} (h : F_Tokens_behindBlanks p2 M = some q) (hQ : Q (some (.int q)) M L (rf ld)) : Tm l y_Tokens_behindBlanks (0, 0, 447) 447 [.ref 1, .int p2] M L (rf ld) Q := by
  refine Tm.of (by decide) (Nat.le_of_ble_eq_true rfl) ?_
  show Wp l y_Tokens_behindBlanks (0, 0, 447) 447 0 0 0 [(0, .ref 1), (1, .int p2)] [] M L (rf ld) Q
  unfold F_Tokens_behindBlanks at h
  refine g_iload_n (pc1 := 1) d_Tokens_behindBlanks_0 rfl 1 rfl ?_
  refine g_istore_n (pc1 := 2) (lv' := [(0, .ref 1), (1, .int p2), (2, .int p2)]) d_Tokens_behindBlanks_1 rfl rfl (by decide) [1, 2, 0] rfl ?_
  refine Wp.loc (lv' := [(0, .ref 1), (2, .int p2)]) [0, 2] rfl ?_
  exact h_Tokens_behindBlanks_2 hld  hQ  _ p2 h

def J_Tokens_cutDigits_77 (v4 : Int64) (v6 : Int32) (s1 : Int32) (s2 : Int32) (M : gM) (L : gL) : Option (Int32 × gM × gL) :=
  bI2 (F_Tokens_set s1 s2 v4 M L) (fun M4 L5 => some (v6, M4, L5))
set_option maxHeartbeats 4000000 in
set_option maxRecDepth 20000 in
theorem j_Tokens_cutDigits_77 {l : Launch} {ld : Nat} {Q : Option Value → gM → gL → gR → Prop} (hld : isLa ld)   {q : Int32 × gM × gL} {M : gM} {L : gL} (hQ : Q (some (.int q.1)) q.2.1 q.2.2 (rf ld))  {v4 : Int64} {v6 : Int32} {s1 : Int32} {s2 : Int32}  (h : J_Tokens_cutDigits_77 v4 v6 s1 s2 M L = some q) : Wp l y_Tokens_cutDigits (0, 0, 447) 447 0 0 77 [(4, .long v4), (6, .int v6)] [.int s2, .int s1, .ref 4] M L (rf ld) Q := by
  unfold J_Tokens_cutDigits_77 at h
  refine g_lload (pc1 := 79) d_Tokens_cutDigits_77 rfl 0 rfl ?_
  refine g_callV0 (pc1 := 82) (As := [.int s1, .int s2, .long v4]) (rest := []) d_Tokens_cutDigits_79 rfl mo_Tokens_74 mi_Tokens_set mv_Tokens_set rfl sh_4 (by decide) (by decide) rfl rfl (Nat.le_of_ble_eq_true rfl) ?_
  obtain ⟨M4, L5, hq3, h⟩ := bnd2 h
  refine f_Tokens_set hld  hq3 ?_
  dsimp only [psh]
  refine g_iload (pc1 := 84) d_Tokens_cutDigits_82 rfl 1 rfl ?_
  refine g_ireturn (Or.inl rfl) d_Tokens_cutDigits_84 rfl ?_
  cases h; exact hQ
def J_Tokens_cutDigits_62 (v2 : Int32) (v3 : Int32) (v4 : Int64) (v6 : Int32) (M : gM) (L : gL) : Option (Int32 × gM × gL) :=
  (if (v6 - v2) ≤ 4 then J_Tokens_cutDigits_77 v4 v6 v3 3 M L else J_Tokens_cutDigits_77 v4 v6 v3 1 M L)
set_option maxHeartbeats 4000000 in
set_option maxRecDepth 20000 in
theorem j_Tokens_cutDigits_62 {l : Launch} {ld : Nat} {Q : Option Value → gM → gL → gR → Prop} (hld : isLa ld)   {q : Int32 × gM × gL} {M : gM} {L : gL} (hQ : Q (some (.int q.1)) q.2.1 q.2.2 (rf ld))  {v2 : Int32} {v3 : Int32} {v4 : Int64} {v6 : Int32}  (h : J_Tokens_cutDigits_62 v2 v3 v4 v6 M L = some q) : Wp l y_Tokens_cutDigits (0, 0, 447) 447 0 0 62 [(0, .ref 4), (2, .int v2), (3, .int v3), (4, .long v4), (6, .int v6)] [] M L (rf ld) Q := by
  unfold J_Tokens_cutDigits_62 at h
  refine g_aload_n (pc1 := 63) d_Tokens_cutDigits_62 rfl 0 rfl ?_
  refine g_iload_n (pc1 := 64) d_Tokens_cutDigits_63 rfl 2 rfl ?_
  refine g_iload (pc1 := 66) d_Tokens_cutDigits_64 rfl 4 rfl ?_
  refine g_iload_n (pc1 := 67) d_Tokens_cutDigits_66 rfl 1 rfl ?_
  refine g_isub (pc1 := 68) d_Tokens_cutDigits_67 rfl ?_
  refine g_iconst (pc1 := 69) (v := 4) d_Tokens_cutDigits_68 rfl (by decide) ?_
  refine g_icmp_le (pc1 := 72) (tgt := 76) d_Tokens_cutDigits_69 (by decide) rfl (fun c2 => ?_) (fun c2 => ?_)
  · replace h := itp h c2
    refine g_iconst (pc1 := 77) (v := 3) d_Tokens_cutDigits_76 rfl (by decide) ?_
    refine Wp.loc (lv' := [(4, .long v4), (6, .int v6)]) [3, 4] rfl ?_
    exact j_Tokens_cutDigits_77 hld  hQ  h
  · replace h := itn h c2
    refine g_iconst (pc1 := 73) (v := 1) d_Tokens_cutDigits_72 rfl (by decide) ?_
    refine g_goto (tgt := 77) d_Tokens_cutDigits_73 (by decide) ?_
    refine Wp.loc (lv' := [(4, .long v4), (6, .int v6)]) [3, 4] rfl ?_
    exact j_Tokens_cutDigits_77 hld  hQ  h
def B_Tokens_cutDigits_6 (v2 : Int32) (v3 : Int32) (M : gM) (L : gL) (K6 : Int64 → Int32 → Option (Int32 × gM × gL)) : Int64 → Int32 → Option (Int32 × gM × gL) := fun v4 v6 =>
  (if (M 1 1) ≤ v6 then J_Tokens_cutDigits_62 v2 v3 v4 v6 M L else bI (F_Tape_byteAt v6 M) (fun r7 => (if r7 < 48 then J_Tokens_cutDigits_62 v2 v3 v4 v6 M L else bI (F_Tape_byteAt v6 M) (fun r10 => (if 57 < r10 then J_Tokens_cutDigits_62 v2 v3 v4 v6 M L else bI (F_Tape_byteAt v6 M) (fun r13 => nmJ ((v4 * 10) + (((r13 - 48) : Int32).toInt64)) (fun x14 => nmI (v6 + 1) (fun x15 => K6 x14 x15))))))))
def H_Tokens_cutDigits_6 (v2 : Int32) (v3 : Int32) (M : gM) (L : gL) : Nat → Int64 → Int32 → Option (Int32 × gM × gL) := lpK (B_Tokens_cutDigits_6 v2 v3 M L) (fun _ _ => none)
set_option maxHeartbeats 4000000 in
set_option maxRecDepth 20000 in
theorem h_Tokens_cutDigits_6 {l : Launch} {ld : Nat} {Q : Option Value → gM → gL → gR → Prop} (hld : isLa ld)   {q : Int32 × gM × gL} {M : gM} {L : gL} (hQ : Q (some (.int q.1)) q.2.1 q.2.2 (rf ld))  {v2 : Int32} {v3 : Int32}  : ∀ (f : Nat) (v4 : Int64) (v6 : Int32), H_Tokens_cutDigits_6 v2 v3 M L f v4 v6 = some q → Wp l y_Tokens_cutDigits (0, 0, 447) 447 0 0 6 [(0, .ref 4), (1, .ref 1), (2, .int v2), (3, .int v3), (4, .long v4), (6, .int v6)] [] M L (rf ld) Q := by
  intro f
  induction f with
  | zero => intro v4 v6 h; cases h
  | succ f hK6 =>
    intro v4 v6 h
    replace h : B_Tokens_cutDigits_6 v2 v3 M L (H_Tokens_cutDigits_6 v2 v3 M L f) v4 v6 = some q := h
    unfold B_Tokens_cutDigits_6 at h
    refine g_iload (pc1 := 8) d_Tokens_cutDigits_6 rfl 5 rfl ?_
    refine g_aload_n (pc1 := 9) d_Tokens_cutDigits_8 rfl 1 rfl ?_
    refine g_geti (pc1 := 12) d_Tokens_cutDigits_9 rfl ⟨_, fo_Tokens_55⟩ sh_1 (by decide) ?_
    refine g_icmp_ge (pc1 := 15) (tgt := 62) d_Tokens_cutDigits_12 (by decide) rfl (fun c1 => ?_) (fun c1 => ?_)
    · replace h := itp h c1
      refine Wp.loc (lv' := [(0, .ref 4), (2, .int v2), (3, .int v3), (4, .long v4), (6, .int v6)]) [0, 2, 3, 4, 5] rfl ?_
      exact j_Tokens_cutDigits_62 hld  hQ  h
    · replace h := itn h c1
      refine g_aload_n (pc1 := 16) d_Tokens_cutDigits_15 rfl 1 rfl ?_
      refine g_iload (pc1 := 18) d_Tokens_cutDigits_16 rfl 5 rfl ?_
      refine g_callV0 (pc1 := 21) (As := [.int v6]) (rest := []) d_Tokens_cutDigits_18 rfl mo_Tokens_60 mi_Tape_byteAt mv_Tape_byteAt rfl sh_1 (by decide) (by decide) rfl rfl (Nat.le_of_ble_eq_true rfl) ?_
      obtain ⟨r7, hq6, h⟩ := bnd h
      refine f_Tape_byteAt hld  hq6 ?_
      dsimp only [psh]
      refine g_bipush (pc1 := 23) (v := 48) d_Tokens_cutDigits_21 rfl (by decide) ?_
      refine g_icmp_lt (pc1 := 26) (tgt := 62) d_Tokens_cutDigits_23 (by decide) rfl (fun c8 => ?_) (fun c8 => ?_)
      · replace h := itp h c8
        refine Wp.loc (lv' := [(0, .ref 4), (2, .int v2), (3, .int v3), (4, .long v4), (6, .int v6)]) [0, 2, 3, 4, 5] rfl ?_
        exact j_Tokens_cutDigits_62 hld  hQ  h
      · replace h := itn h c8
        refine g_aload_n (pc1 := 27) d_Tokens_cutDigits_26 rfl 1 rfl ?_
        refine g_iload (pc1 := 29) d_Tokens_cutDigits_27 rfl 5 rfl ?_
        refine g_callV0 (pc1 := 32) (As := [.int v6]) (rest := []) d_Tokens_cutDigits_29 rfl mo_Tokens_60 mi_Tape_byteAt mv_Tape_byteAt rfl sh_1 (by decide) (by decide) rfl rfl (Nat.le_of_ble_eq_true rfl) ?_
        obtain ⟨r10, hq9, h⟩ := bnd h
        refine f_Tape_byteAt hld  hq9 ?_
        dsimp only [psh]
        refine g_bipush (pc1 := 34) (v := 57) d_Tokens_cutDigits_32 rfl (by decide) ?_
        refine g_icmp_gt (pc1 := 37) (tgt := 62) d_Tokens_cutDigits_34 (by decide) rfl (fun c11 => ?_) (fun c11 => ?_)
        · replace h := itp h c11
          refine Wp.loc (lv' := [(0, .ref 4), (2, .int v2), (3, .int v3), (4, .long v4), (6, .int v6)]) [0, 2, 3, 4, 5] rfl ?_
          exact j_Tokens_cutDigits_62 hld  hQ  h
        · replace h := itn h c11
          refine g_lload (pc1 := 39) d_Tokens_cutDigits_37 rfl 4 rfl ?_
          refine g_ldc2 (pc1 := 42) (v := 10) d_Tokens_cutDigits_39 rfl co_Tokens_85 ?_
          refine g_lmul (pc1 := 43) d_Tokens_cutDigits_42 rfl ?_
          refine g_aload_n (pc1 := 44) d_Tokens_cutDigits_43 rfl 1 rfl ?_
          refine g_iload (pc1 := 46) d_Tokens_cutDigits_44 rfl 5 rfl ?_
          refine g_callV0 (pc1 := 49) (As := [.int v6]) (rest := [.long (v4 * 10)]) d_Tokens_cutDigits_46 rfl mo_Tokens_60 mi_Tape_byteAt mv_Tape_byteAt rfl sh_1 (by decide) (by decide) rfl rfl (Nat.le_of_ble_eq_true rfl) ?_
          obtain ⟨r13, hq12, h⟩ := bnd h
          refine f_Tape_byteAt hld  hq12 ?_
          dsimp only [psh]
          refine g_bipush (pc1 := 51) (v := 48) d_Tokens_cutDigits_49 rfl (by decide) ?_
          refine g_isub (pc1 := 52) d_Tokens_cutDigits_51 rfl ?_
          refine g_i2l (pc1 := 53) d_Tokens_cutDigits_52 rfl ?_
          refine g_ladd (pc1 := 54) d_Tokens_cutDigits_53 rfl ?_
          refine Wp.lJ h (fun x14 h => ?_)
          refine g_lstore (pc1 := 56) (lv' := [(0, .ref 4), (1, .ref 1), (2, .int v2), (3, .int v3), (4, .long x14), (6, .int v6)]) d_Tokens_cutDigits_54 rfl (by decide) [1, 2, 3, 4, 0, 5] rfl ?_
          obtain ⟨x15, ex15, h⟩ := ltI h
          refine g_iinc (pc1 := 59) (v := x15) (lv' := [(0, .ref 4), (1, .ref 1), (2, .int v2), (3, .int v3), (4, .long x14), (6, .int x15)]) d_Tokens_cutDigits_56 rfl 5 rfl (by rw [ex15]; rfl) (by decide) [1, 2, 3, 4, 5, 0] rfl ?_
          refine g_goto (tgt := 6) d_Tokens_cutDigits_59 (by decide) ?_
          exact hK6 x14 x15 h
def F_Tokens_cutDigits (p2 : Int32) (p3 : Int32) (M : gM) (L : gL) : Option (Int32 × gM × gL) :=
  H_Tokens_cutDigits_6 p2 p3 M L FU 0 p2
set_option maxHeartbeats 4000000 in
set_option maxRecDepth 20000 in
theorem f_Tokens_cutDigits {l : Launch} {ld : Nat} {M : gM} {L : gL} {Q : Option Value → gM → gL → gR → Prop} (hld : isLa ld) {p2 : Int32} {p3 : Int32}  {q : Int32 × gM × gL} (h : F_Tokens_cutDigits p2 p3 M L = some q) (hQ : Q (some (.int q.1)) q.2.1 q.2.2 (rf ld)) : Tm l y_Tokens_cutDigits (0, 0, 447) 447 [.ref 4, .ref 1, .int p2, .int p3] M L (rf ld) Q := by
  refine Tm.of (by decide) (Nat.le_of_ble_eq_true rfl) ?_
  show Wp l y_Tokens_cutDigits (0, 0, 447) 447 0 0 0 [(0, .ref 4), (1, .ref 1), (2, .int p2), (3, .int p3)] [] M L (rf ld) Q
  unfold F_Tokens_cutDigits at h
  refine g_lconst (pc1 := 1) (v := 0) d_Tokens_cutDigits_0 rfl (by decide) ?_
  refine g_lstore (pc1 := 3) (lv' := [(0, .ref 4), (1, .ref 1), (2, .int p2), (3, .int p3), (4, .long 0)]) d_Tokens_cutDigits_1 rfl (by decide) [1, 2, 3, 4, 0] rfl ?_
  refine g_iload_n (pc1 := 4) d_Tokens_cutDigits_3 rfl 2 rfl ?_
  refine g_istore (pc1 := 6) (lv' := [(0, .ref 4), (1, .ref 1), (2, .int p2), (3, .int p3), (4, .long 0), (6, .int p2)]) d_Tokens_cutDigits_4 rfl (by decide) [1, 2, 3, 4, 5, 0] rfl ?_
  exact h_Tokens_cutDigits_6 hld  hQ  _ 0 p2 h

def J_Tokens_cutLetters_77 (v4 : Int64) (v6 : Int32) (s1 : Int32) (s2 : Int32) (M : gM) (L : gL) : Option (Int32 × gM × gL) :=
  bI2 (F_Tokens_set s1 s2 v4 M L) (fun M6 L7 => some (v6, M6, L7))
set_option maxHeartbeats 4000000 in
set_option maxRecDepth 20000 in
theorem j_Tokens_cutLetters_77 {l : Launch} {ld : Nat} {Q : Option Value → gM → gL → gR → Prop} (hld : isLa ld)   {q : Int32 × gM × gL} {M : gM} {L : gL} (hQ : Q (some (.int q.1)) q.2.1 q.2.2 (rf ld))  {v4 : Int64} {v6 : Int32} {s1 : Int32} {s2 : Int32}  (h : J_Tokens_cutLetters_77 v4 v6 s1 s2 M L = some q) : Wp l y_Tokens_cutLetters (0, 0, 447) 447 0 0 77 [(4, .long v4), (6, .int v6)] [.int s2, .int s1, .ref 4] M L (rf ld) Q := by
  unfold J_Tokens_cutLetters_77 at h
  refine g_lload (pc1 := 79) d_Tokens_cutLetters_77 rfl 0 rfl ?_
  refine g_callV0 (pc1 := 82) (As := [.int s1, .int s2, .long v4]) (rest := []) d_Tokens_cutLetters_79 rfl mo_Tokens_74 mi_Tokens_set mv_Tokens_set rfl sh_4 (by decide) (by decide) rfl rfl (Nat.le_of_ble_eq_true rfl) ?_
  obtain ⟨M6, L7, hq5, h⟩ := bnd2 h
  refine f_Tokens_set hld  hq5 ?_
  dsimp only [psh]
  refine g_iload (pc1 := 84) d_Tokens_cutLetters_82 rfl 1 rfl ?_
  refine g_ireturn (Or.inl rfl) d_Tokens_cutLetters_84 rfl ?_
  cases h; exact hQ
def J_Tokens_cutLetters_56 (v2 : Int32) (v3 : Int32) (v4 : Int64) (v6 : Int32) (M : gM) (L : gL) : Option (Int32 × gM × gL) :=
  (if (v6 - v2) ≤ 8 then bI (F_Tokens_kindOf v4 L) (fun r4 => J_Tokens_cutLetters_77 v4 v6 v3 r4 M L) else J_Tokens_cutLetters_77 v4 v6 v3 1 M L)
set_option maxHeartbeats 4000000 in
set_option maxRecDepth 20000 in
theorem j_Tokens_cutLetters_56 {l : Launch} {ld : Nat} {Q : Option Value → gM → gL → gR → Prop} (hld : isLa ld)   {q : Int32 × gM × gL} {M : gM} {L : gL} (hQ : Q (some (.int q.1)) q.2.1 q.2.2 (rf ld))  {v2 : Int32} {v3 : Int32} {v4 : Int64} {v6 : Int32}  (h : J_Tokens_cutLetters_56 v2 v3 v4 v6 M L = some q) : Wp l y_Tokens_cutLetters (0, 0, 447) 447 0 0 56 [(0, .ref 4), (2, .int v2), (3, .int v3), (4, .long v4), (6, .int v6)] [] M L (rf ld) Q := by
  unfold J_Tokens_cutLetters_56 at h
  refine g_aload_n (pc1 := 57) d_Tokens_cutLetters_56 rfl 0 rfl ?_
  refine g_iload_n (pc1 := 58) d_Tokens_cutLetters_57 rfl 2 rfl ?_
  refine g_iload (pc1 := 60) d_Tokens_cutLetters_58 rfl 4 rfl ?_
  refine g_iload_n (pc1 := 61) d_Tokens_cutLetters_60 rfl 1 rfl ?_
  refine g_isub (pc1 := 62) d_Tokens_cutLetters_61 rfl ?_
  refine g_bipush (pc1 := 64) (v := 8) d_Tokens_cutLetters_62 rfl (by decide) ?_
  refine g_icmp_le (pc1 := 67) (tgt := 71) d_Tokens_cutLetters_64 (by decide) rfl (fun c2 => ?_) (fun c2 => ?_)
  · replace h := itp h c2
    refine g_aload_n (pc1 := 72) d_Tokens_cutLetters_71 rfl 0 rfl ?_
    refine g_lload (pc1 := 74) d_Tokens_cutLetters_72 rfl 3 rfl ?_
    refine g_callV0 (pc1 := 77) (As := [.long v4]) (rest := [.int v3, .ref 4]) d_Tokens_cutLetters_74 rfl mo_Tokens_81 mi_Tokens_kindOf mv_Tokens_kindOf rfl sh_4 (by decide) (by decide) rfl rfl (Nat.le_of_ble_eq_true rfl) ?_
    obtain ⟨r4, hq3, h⟩ := bnd h
    refine f_Tokens_kindOf hld  hq3 ?_
    dsimp only [psh]
    refine Wp.loc (lv' := [(4, .long v4), (6, .int v6)]) [3, 4] rfl ?_
    exact j_Tokens_cutLetters_77 hld  hQ  h
  · replace h := itn h c2
    refine g_iconst (pc1 := 68) (v := 1) d_Tokens_cutLetters_67 rfl (by decide) ?_
    refine g_goto (tgt := 77) d_Tokens_cutLetters_68 (by decide) ?_
    refine Wp.loc (lv' := [(4, .long v4), (6, .int v6)]) [3, 4] rfl ?_
    exact j_Tokens_cutLetters_77 hld  hQ  h
def B_Tokens_cutLetters_6 (v2 : Int32) (v3 : Int32) (M : gM) (L : gL) (K6 : Int64 → Int32 → Option (Int32 × gM × gL)) : Int64 → Int32 → Option (Int32 × gM × gL) := fun v4 v6 =>
  (if (M 1 1) ≤ v6 then J_Tokens_cutLetters_56 v2 v3 v4 v6 M L else bI (F_Tape_byteAt v6 M) (fun r9 => (if r9 < 97 then J_Tokens_cutLetters_56 v2 v3 v4 v6 M L else bI (F_Tape_byteAt v6 M) (fun r12 => (if 122 < r12 then J_Tokens_cutLetters_56 v2 v3 v4 v6 M L else bI (F_Tape_byteAt v6 M) (fun r15 => bI (F_Tokens_withLetter v4 r15) (fun r17 => nmI (v6 + 1) (fun x18 => K6 r17 x18))))))))
def H_Tokens_cutLetters_6 (v2 : Int32) (v3 : Int32) (M : gM) (L : gL) : Nat → Int64 → Int32 → Option (Int32 × gM × gL) := lpK (B_Tokens_cutLetters_6 v2 v3 M L) (fun _ _ => none)
set_option maxHeartbeats 4000000 in
set_option maxRecDepth 20000 in
theorem h_Tokens_cutLetters_6 {l : Launch} {ld : Nat} {Q : Option Value → gM → gL → gR → Prop} (hld : isLa ld)   {q : Int32 × gM × gL} {M : gM} {L : gL} (hQ : Q (some (.int q.1)) q.2.1 q.2.2 (rf ld))  {v2 : Int32} {v3 : Int32}  : ∀ (f : Nat) (v4 : Int64) (v6 : Int32), H_Tokens_cutLetters_6 v2 v3 M L f v4 v6 = some q → Wp l y_Tokens_cutLetters (0, 0, 447) 447 0 0 6 [(0, .ref 4), (1, .ref 1), (2, .int v2), (3, .int v3), (4, .long v4), (6, .int v6)] [] M L (rf ld) Q := by
  intro f
  induction f with
  | zero => intro v4 v6 h; cases h
  | succ f hK6 =>
    intro v4 v6 h
    replace h : B_Tokens_cutLetters_6 v2 v3 M L (H_Tokens_cutLetters_6 v2 v3 M L f) v4 v6 = some q := h
    unfold B_Tokens_cutLetters_6 at h
    refine g_iload (pc1 := 8) d_Tokens_cutLetters_6 rfl 5 rfl ?_
    refine g_aload_n (pc1 := 9) d_Tokens_cutLetters_8 rfl 1 rfl ?_
    refine g_geti (pc1 := 12) d_Tokens_cutLetters_9 rfl ⟨_, fo_Tokens_55⟩ sh_1 (by decide) ?_
    refine g_icmp_ge (pc1 := 15) (tgt := 56) d_Tokens_cutLetters_12 (by decide) rfl (fun c1 => ?_) (fun c1 => ?_)
    · replace h := itp h c1
      refine Wp.loc (lv' := [(0, .ref 4), (2, .int v2), (3, .int v3), (4, .long v4), (6, .int v6)]) [0, 2, 3, 4, 5] rfl ?_
      exact j_Tokens_cutLetters_56 hld  hQ  h
    · replace h := itn h c1
      refine g_aload_n (pc1 := 16) d_Tokens_cutLetters_15 rfl 1 rfl ?_
      refine g_iload (pc1 := 18) d_Tokens_cutLetters_16 rfl 5 rfl ?_
      refine g_callV0 (pc1 := 21) (As := [.int v6]) (rest := []) d_Tokens_cutLetters_18 rfl mo_Tokens_60 mi_Tape_byteAt mv_Tape_byteAt rfl sh_1 (by decide) (by decide) rfl rfl (Nat.le_of_ble_eq_true rfl) ?_
      obtain ⟨r9, hq8, h⟩ := bnd h
      refine f_Tape_byteAt hld  hq8 ?_
      dsimp only [psh]
      refine g_bipush (pc1 := 23) (v := 97) d_Tokens_cutLetters_21 rfl (by decide) ?_
      refine g_icmp_lt (pc1 := 26) (tgt := 56) d_Tokens_cutLetters_23 (by decide) rfl (fun c10 => ?_) (fun c10 => ?_)
      · replace h := itp h c10
        refine Wp.loc (lv' := [(0, .ref 4), (2, .int v2), (3, .int v3), (4, .long v4), (6, .int v6)]) [0, 2, 3, 4, 5] rfl ?_
        exact j_Tokens_cutLetters_56 hld  hQ  h
      · replace h := itn h c10
        refine g_aload_n (pc1 := 27) d_Tokens_cutLetters_26 rfl 1 rfl ?_
        refine g_iload (pc1 := 29) d_Tokens_cutLetters_27 rfl 5 rfl ?_
        refine g_callV0 (pc1 := 32) (As := [.int v6]) (rest := []) d_Tokens_cutLetters_29 rfl mo_Tokens_60 mi_Tape_byteAt mv_Tape_byteAt rfl sh_1 (by decide) (by decide) rfl rfl (Nat.le_of_ble_eq_true rfl) ?_
        obtain ⟨r12, hq11, h⟩ := bnd h
        refine f_Tape_byteAt hld  hq11 ?_
        dsimp only [psh]
        refine g_bipush (pc1 := 34) (v := 122) d_Tokens_cutLetters_32 rfl (by decide) ?_
        refine g_icmp_gt (pc1 := 37) (tgt := 56) d_Tokens_cutLetters_34 (by decide) rfl (fun c13 => ?_) (fun c13 => ?_)
        · replace h := itp h c13
          refine Wp.loc (lv' := [(0, .ref 4), (2, .int v2), (3, .int v3), (4, .long v4), (6, .int v6)]) [0, 2, 3, 4, 5] rfl ?_
          exact j_Tokens_cutLetters_56 hld  hQ  h
        · replace h := itn h c13
          refine g_lload (pc1 := 39) d_Tokens_cutLetters_37 rfl 4 rfl ?_
          refine g_aload_n (pc1 := 40) d_Tokens_cutLetters_39 rfl 1 rfl ?_
          refine g_iload (pc1 := 42) d_Tokens_cutLetters_40 rfl 5 rfl ?_
          refine g_callV0 (pc1 := 45) (As := [.int v6]) (rest := [.long v4]) d_Tokens_cutLetters_42 rfl mo_Tokens_60 mi_Tape_byteAt mv_Tape_byteAt rfl sh_1 (by decide) (by decide) rfl rfl (Nat.le_of_ble_eq_true rfl) ?_
          obtain ⟨r15, hq14, h⟩ := bnd h
          refine f_Tape_byteAt hld  hq14 ?_
          dsimp only [psh]
          refine g_callS0 (pc1 := 48) (As := [.long v4, .int r15]) (rest := []) d_Tokens_cutLetters_45 rfl mo_Tokens_37 ms_Tokens_withLetter (by decide) rfl rfl (Nat.le_of_ble_eq_true rfl) ?_
          obtain ⟨r17, hq16, h⟩ := bnd h
          refine f_Tokens_withLetter hld  hq16 ?_
          dsimp only [psh]
          refine g_lstore (pc1 := 50) (lv' := [(0, .ref 4), (1, .ref 1), (2, .int v2), (3, .int v3), (4, .long r17), (6, .int v6)]) d_Tokens_cutLetters_48 rfl (by decide) [1, 2, 3, 4, 0, 5] rfl ?_
          obtain ⟨x18, ex18, h⟩ := ltI h
          refine g_iinc (pc1 := 53) (v := x18) (lv' := [(0, .ref 4), (1, .ref 1), (2, .int v2), (3, .int v3), (4, .long r17), (6, .int x18)]) d_Tokens_cutLetters_50 rfl 5 rfl (by rw [ex18]; rfl) (by decide) [1, 2, 3, 4, 5, 0] rfl ?_
          refine g_goto (tgt := 6) d_Tokens_cutLetters_53 (by decide) ?_
          exact hK6 r17 x18 h
def F_Tokens_cutLetters (p2 : Int32) (p3 : Int32) (M : gM) (L : gL) : Option (Int32 × gM × gL) :=
  H_Tokens_cutLetters_6 p2 p3 M L FU 0 p2
set_option maxHeartbeats 4000000 in
set_option maxRecDepth 20000 in
theorem f_Tokens_cutLetters {l : Launch} {ld : Nat} {M : gM} {L : gL} {Q : Option Value → gM → gL → gR → Prop} (hld : isLa ld) {p2 : Int32} {p3 : Int32}  {q : Int32 × gM × gL} (h : F_Tokens_cutLetters p2 p3 M L = some q) (hQ : Q (some (.int q.1)) q.2.1 q.2.2 (rf ld)) : Tm l y_Tokens_cutLetters (0, 0, 447) 447 [.ref 4, .ref 1, .int p2, .int p3] M L (rf ld) Q := by
  refine Tm.of (by decide) (Nat.le_of_ble_eq_true rfl) ?_
  show Wp l y_Tokens_cutLetters (0, 0, 447) 447 0 0 0 [(0, .ref 4), (1, .ref 1), (2, .int p2), (3, .int p3)] [] M L (rf ld) Q
  unfold F_Tokens_cutLetters at h
  refine g_lconst (pc1 := 1) (v := 0) d_Tokens_cutLetters_0 rfl (by decide) ?_
  refine g_lstore (pc1 := 3) (lv' := [(0, .ref 4), (1, .ref 1), (2, .int p2), (3, .int p3), (4, .long 0)]) d_Tokens_cutLetters_1 rfl (by decide) [1, 2, 3, 4, 0] rfl ?_
  refine g_iload_n (pc1 := 4) d_Tokens_cutLetters_3 rfl 2 rfl ?_
  refine g_istore (pc1 := 6) (lv' := [(0, .ref 4), (1, .ref 1), (2, .int p2), (3, .int p3), (4, .long 0), (6, .int p2)]) d_Tokens_cutLetters_4 rfl (by decide) [1, 2, 3, 4, 5, 0] rfl ?_
  exact h_Tokens_cutLetters_6 hld  hQ  _ 0 p2 h

def F_Told_add (p1 : Int32) (p2 : Int32) (p3 : Int32) (M : gM) : Option (Int32 × gM) :=
  (if (M 383 3) < 20 then bI (F_Main_put 384 20 (M 383 3) p1 M) (fun M3 => bI (F_Main_put 385 20 (M3 383 3) p2 M3) (fun M5 => bI (F_Main_put 386 20 (M5 383 3) p3 M5) (fun M7 => nmM (uM M7 383 3 ((M7 383 3) + 1)) (fun M8 => some (((M8 383 3) - 1), M8))))) else some ((-1), M))
set_option maxHeartbeats 4000000 in
set_option maxRecDepth 20000 in
theorem f_Told_add {l : Launch} {ld : Nat} {M : gM} {L : gL} {Q : Option Value → gM → gL → gR → Prop} (hld : isLa ld) {p1 : Int32} {p2 : Int32} {p3 : Int32}  {q : Int32 × gM} (h : F_Told_add p1 p2 p3 M = some q) (hQ : Q (some (.int q.1)) q.2 L (rf ld)) : Tm l y_Told_add (0, 0, 447) 447 [.ref 383, .int p1, .int p2, .int p3] M L (rf ld) Q := by
  refine Tm.of (by decide) (Nat.le_of_ble_eq_true rfl) ?_
  show Wp l y_Told_add (0, 0, 447) 447 0 0 0 [(0, .ref 383), (1, .int p1), (2, .int p2), (3, .int p3)] [] M L (rf ld) Q
  unfold F_Told_add at h
  refine g_aload_n (pc1 := 1) d_Told_add_0 rfl 0 rfl ?_
  refine g_geti (pc1 := 4) d_Told_add_1 rfl ⟨_, fo_Told_33⟩ sh_383 (by decide) ?_
  refine g_bipush (pc1 := 6) (v := 20) d_Told_add_4 rfl (by decide) ?_
  refine g_icmp_lt (pc1 := 9) (tgt := 11) d_Told_add_6 (by decide) rfl (fun c1 => ?_) (fun c1 => ?_)
  · replace h := itp h c1
    refine g_aload_n (pc1 := 12) d_Told_add_11 rfl 0 rfl ?_
    refine g_getr (pc1 := 15) d_Told_add_12 rfl ⟨_, fo_Told_11⟩ sh_383 (by decide) (rf_383_0 ld) ?_
    refine g_aload_n (pc1 := 16) d_Told_add_15 rfl 0 rfl ?_
    refine g_geti (pc1 := 19) d_Told_add_16 rfl ⟨_, fo_Told_33⟩ sh_383 (by decide) ?_
    refine g_iload_n (pc1 := 20) d_Told_add_19 rfl 1 rfl ?_
    refine g_callS0 (pc1 := 23) (As := [.ref 384, .int (M 383 3), .int p1]) (rest := []) d_Told_add_20 rfl mo_Told_37 ms_Main_put (by decide) rfl rfl (Nat.le_of_ble_eq_true rfl) ?_
    obtain ⟨M3, hq2, h⟩ := bnd h
    refine f_Main_put hld sh_384 (by decide) (by decide) hq2 ?_
    dsimp only [psh]
    refine g_aload_n (pc1 := 24) d_Told_add_23 rfl 0 rfl ?_
    refine g_getr (pc1 := 27) d_Told_add_24 rfl ⟨_, fo_Told_15⟩ sh_383 (by decide) (rf_383_1 ld) ?_
    refine g_aload_n (pc1 := 28) d_Told_add_27 rfl 0 rfl ?_
    refine g_geti (pc1 := 31) d_Told_add_28 rfl ⟨_, fo_Told_33⟩ sh_383 (by decide) ?_
    refine g_iload_n (pc1 := 32) d_Told_add_31 rfl 2 rfl ?_
    refine g_callS0 (pc1 := 35) (As := [.ref 385, .int (M3 383 3), .int p2]) (rest := []) d_Told_add_32 rfl mo_Told_37 ms_Main_put (by decide) rfl rfl (Nat.le_of_ble_eq_true rfl) ?_
    obtain ⟨M5, hq4, h⟩ := bnd h
    refine f_Main_put hld sh_385 (by decide) (by decide) hq4 ?_
    dsimp only [psh]
    refine g_aload_n (pc1 := 36) d_Told_add_35 rfl 0 rfl ?_
    refine g_getr (pc1 := 39) d_Told_add_36 rfl ⟨_, fo_Told_18⟩ sh_383 (by decide) (rf_383_2 ld) ?_
    refine g_aload_n (pc1 := 40) d_Told_add_39 rfl 0 rfl ?_
    refine g_geti (pc1 := 43) d_Told_add_40 rfl ⟨_, fo_Told_33⟩ sh_383 (by decide) ?_
    refine g_iload_n (pc1 := 44) d_Told_add_43 rfl 3 rfl ?_
    refine g_callS0 (pc1 := 47) (As := [.ref 386, .int (M5 383 3), .int p3]) (rest := []) d_Told_add_44 rfl mo_Told_37 ms_Main_put (by decide) rfl rfl (Nat.le_of_ble_eq_true rfl) ?_
    obtain ⟨M7, hq6, h⟩ := bnd h
    refine f_Main_put hld sh_386 (by decide) (by decide) hq6 ?_
    dsimp only [psh]
    refine g_aload_n (pc1 := 48) d_Told_add_47 rfl 0 rfl ?_
    refine g_dup (pc1 := 49) d_Told_add_48 rfl rfl ?_
    refine g_geti (pc1 := 52) d_Told_add_49 rfl ⟨_, fo_Told_33⟩ sh_383 (by decide) ?_
    refine g_iconst (pc1 := 53) (v := 1) d_Told_add_52 rfl (by decide) ?_
    refine g_iadd (pc1 := 54) d_Told_add_53 rfl ?_
    refine g_puti (pc1 := 57) d_Told_add_54 rfl fo_Told_33 (po_9_3 _) sh_383 (by decide) ?_
    refine Wp.lM h (fun M8 h => ?_)
    refine g_aload_n (pc1 := 58) d_Told_add_57 rfl 0 rfl ?_
    refine g_geti (pc1 := 61) d_Told_add_58 rfl ⟨_, fo_Told_33⟩ sh_383 (by decide) ?_
    refine g_iconst (pc1 := 62) (v := 1) d_Told_add_61 rfl (by decide) ?_
    refine g_isub (pc1 := 63) d_Told_add_62 rfl ?_
    refine g_ireturn (Or.inl rfl) d_Told_add_63 rfl ?_
    cases h; exact hQ
  · replace h := itn h c1
    refine g_iconst (pc1 := 10) (v := (-1)) d_Told_add_9 rfl (by decide) ?_
    refine g_ireturn (Or.inl rfl) d_Told_add_10 rfl ?_
    cases h; exact hQ

def J_Told_onlyDish_38 (M : gM) : Option (Int32) :=
  (if (M 383 7) ≤ 0 then some (-2) else bI (F_Main_at 387 65 0 M) (fun r4 => some r4))
set_option maxHeartbeats 4000000 in
set_option maxRecDepth 20000 in
theorem j_Told_onlyDish_38 {l : Launch} {ld : Nat} {Q : Option Value → gM → gL → gR → Prop} (hld : isLa ld)   {q : Int32} {M : gM} {L : gL} (hQ : Q (some (.int q)) M L (rf ld))    (h : J_Told_onlyDish_38 M = some q) : Wp l y_Told_onlyDish (0, 0, 447) 447 0 0 38 [(0, .ref 383)] [] M L (rf ld) Q := by
  unfold J_Told_onlyDish_38 at h
  refine g_aload_n (pc1 := 39) d_Told_onlyDish_38 rfl 0 rfl ?_
  refine g_geti (pc1 := 42) d_Told_onlyDish_39 rfl ⟨_, fo_Told_41⟩ sh_383 (by decide) ?_
  refine g_if_le (pc1 := 45) (tgt := 56) d_Told_onlyDish_42 (by decide) rfl (fun c2 => ?_) (fun c2 => ?_)
  · replace h := itp h c2
    refine g_bipush (pc1 := 58) (v := (-2)) d_Told_onlyDish_56 rfl (by decide) ?_
    refine g_ireturn (Or.inl rfl) d_Told_onlyDish_58 rfl ?_
    cases h; exact hQ
  · replace h := itn h c2
    refine g_aload_n (pc1 := 46) d_Told_onlyDish_45 rfl 0 rfl ?_
    refine g_getr (pc1 := 49) d_Told_onlyDish_46 rfl ⟨_, fo_Told_21⟩ sh_383 (by decide) (rf_383_4 ld) ?_
    refine g_iconst (pc1 := 50) (v := 0) d_Told_onlyDish_49 rfl (by decide) ?_
    refine g_callS0 (pc1 := 53) (As := [.ref 387, .int 0]) (rest := []) d_Told_onlyDish_50 rfl mo_Told_73 ms_Main_at (by decide) rfl rfl (Nat.le_of_ble_eq_true rfl) ?_
    obtain ⟨r4, hq3, h⟩ := bnd h
    refine f_Main_at hld sh_387 (by decide) (by decide) hq3 ?_
    dsimp only [psh]
    refine g_goto (tgt := 58) d_Told_onlyDish_53 (by decide) ?_
    refine g_ireturn (Or.inl rfl) d_Told_onlyDish_58 rfl ?_
    cases h; exact hQ
def B_Told_onlyDish_2 (M : gM) (K2 : Int32 → Option (Int32)) : Int32 → Option (Int32) := fun v1 =>
  (if (M 383 7) ≤ v1 then J_Told_onlyDish_38 M else bI (F_Main_at 387 65 v1 M) (fun r6 => bI (F_Main_at 387 65 0 M) (fun r8 => (if r6 = r8 then nmI (v1 + 1) (fun x10 => K2 x10) else some (-2)))))
def H_Told_onlyDish_2 (M : gM) : Nat → Int32 → Option (Int32) := lpK (B_Told_onlyDish_2 M) (fun _ => none)
set_option maxHeartbeats 4000000 in
set_option maxRecDepth 20000 in
theorem h_Told_onlyDish_2 {l : Launch} {ld : Nat} {Q : Option Value → gM → gL → gR → Prop} (hld : isLa ld)   {q : Int32} {M : gM} {L : gL} (hQ : Q (some (.int q)) M L (rf ld))    : ∀ (f : Nat) (v1 : Int32), H_Told_onlyDish_2 M f v1 = some q → Wp l y_Told_onlyDish (0, 0, 447) 447 0 0 2 [(0, .ref 383), (1, .int v1)] [] M L (rf ld) Q := by
  intro f
  induction f with
  | zero => intro v1 h; cases h
  | succ f hK2 =>
    intro v1 h
    replace h : B_Told_onlyDish_2 M (H_Told_onlyDish_2 M f) v1 = some q := h
    unfold B_Told_onlyDish_2 at h
    refine g_iload_n (pc1 := 3) d_Told_onlyDish_2 rfl 1 rfl ?_
    refine g_aload_n (pc1 := 4) d_Told_onlyDish_3 rfl 0 rfl ?_
    refine g_geti (pc1 := 7) d_Told_onlyDish_4 rfl ⟨_, fo_Told_41⟩ sh_383 (by decide) ?_
    refine g_icmp_ge (pc1 := 10) (tgt := 38) d_Told_onlyDish_7 (by decide) rfl (fun c1 => ?_) (fun c1 => ?_)
    · replace h := itp h c1
      refine Wp.loc (lv' := [(0, .ref 383)]) [0] rfl ?_
      exact j_Told_onlyDish_38 hld  hQ  h
    · replace h := itn h c1
      refine g_aload_n (pc1 := 11) d_Told_onlyDish_10 rfl 0 rfl ?_
      refine g_getr (pc1 := 14) d_Told_onlyDish_11 rfl ⟨_, fo_Told_21⟩ sh_383 (by decide) (rf_383_4 ld) ?_
      refine g_iload_n (pc1 := 15) d_Told_onlyDish_14 rfl 1 rfl ?_
      refine g_callS0 (pc1 := 18) (As := [.ref 387, .int v1]) (rest := []) d_Told_onlyDish_15 rfl mo_Told_73 ms_Main_at (by decide) rfl rfl (Nat.le_of_ble_eq_true rfl) ?_
      obtain ⟨r6, hq5, h⟩ := bnd h
      refine f_Main_at hld sh_387 (by decide) (by decide) hq5 ?_
      dsimp only [psh]
      refine g_aload_n (pc1 := 19) d_Told_onlyDish_18 rfl 0 rfl ?_
      refine g_getr (pc1 := 22) d_Told_onlyDish_19 rfl ⟨_, fo_Told_21⟩ sh_383 (by decide) (rf_383_4 ld) ?_
      refine g_iconst (pc1 := 23) (v := 0) d_Told_onlyDish_22 rfl (by decide) ?_
      refine g_callS0 (pc1 := 26) (As := [.ref 387, .int 0]) (rest := [.int r6]) d_Told_onlyDish_23 rfl mo_Told_73 ms_Main_at (by decide) rfl rfl (Nat.le_of_ble_eq_true rfl) ?_
      obtain ⟨r8, hq7, h⟩ := bnd h
      refine f_Main_at hld sh_387 (by decide) (by decide) hq7 ?_
      dsimp only [psh]
      refine g_icmp_eq (pc1 := 29) (tgt := 32) d_Told_onlyDish_26 (by decide) rfl (fun c9 => ?_) (fun c9 => ?_)
      · replace h := itp h c9
        obtain ⟨x10, ex10, h⟩ := ltI h
        refine g_iinc (pc1 := 35) (v := x10) (lv' := [(0, .ref 383), (1, .int x10)]) d_Told_onlyDish_32 rfl 1 rfl (by rw [ex10]; rfl) (by decide) [1, 0] rfl ?_
        refine g_goto (tgt := 2) d_Told_onlyDish_35 (by decide) ?_
        exact hK2 x10 h
      · replace h := itn h c9
        refine g_bipush (pc1 := 31) (v := (-2)) d_Told_onlyDish_29 rfl (by decide) ?_
        refine g_ireturn (Or.inl rfl) d_Told_onlyDish_31 rfl ?_
        cases h; exact hQ
def F_Told_onlyDish (M : gM) : Option (Int32) :=
  H_Told_onlyDish_2 M FU 1
set_option maxHeartbeats 4000000 in
set_option maxRecDepth 20000 in
theorem f_Told_onlyDish {l : Launch} {ld : Nat} {M : gM} {L : gL} {Q : Option Value → gM → gL → gR → Prop} (hld : isLa ld)   {q : Int32} (h : F_Told_onlyDish M = some q) (hQ : Q (some (.int q)) M L (rf ld)) : Tm l y_Told_onlyDish (0, 0, 447) 447 [.ref 383] M L (rf ld) Q := by
  refine Tm.of (by decide) (Nat.le_of_ble_eq_true rfl) ?_
  show Wp l y_Told_onlyDish (0, 0, 447) 447 0 0 0 [(0, .ref 383)] [] M L (rf ld) Q
  unfold F_Told_onlyDish at h
  refine g_iconst (pc1 := 1) (v := 1) d_Told_onlyDish_0 rfl (by decide) ?_
  refine g_istore_n (pc1 := 2) (lv' := [(0, .ref 383), (1, .int 1)]) d_Told_onlyDish_1 rfl rfl (by decide) [1, 0] rfl ?_
  exact h_Told_onlyDish_2 hld  hQ  _ 1 h

def F_Main_amount (ld : Nat) (p1 : Int32) (p2 : Int32) (M : gM) : Option (Int32) :=
  bI (F_Main_isOne p1 (M ld 1)) (fun r2 => (if r2 = 0 then some (-1) else bI (F_Main_isOne p2 (M ld 0)) (fun r5 => (if r5 = 0 then some (-1) else bI (F_Land_inDish ld p1 p2 M) (fun r8 => some r8)))))
set_option maxHeartbeats 4000000 in
set_option maxRecDepth 20000 in
theorem f_Main_amount {l : Launch} {ld : Nat} {M : gM} {L : gL} {Q : Option Value → gM → gL → gR → Prop} (hld : isLa ld) {p1 : Int32} {p2 : Int32}  {q : Int32} (h : F_Main_amount ld p1 p2 M = some q) (hQ : Q (some (.int q)) M L (rf ld)) : Tm l y_Main_amount (0, 0, 447) 447 [.ref 0, .int p1, .int p2] M L (rf ld) Q := by
  refine Tm.of (by decide) (Nat.le_of_ble_eq_true rfl) ?_
  show Wp l y_Main_amount (0, 0, 447) 447 0 0 0 [(0, .ref 0), (1, .int p1), (2, .int p2)] [] M L (rf ld) Q
  unfold F_Main_amount at h
  refine g_iload_n (pc1 := 1) d_Main_amount_0 rfl 1 rfl ?_
  refine g_aload_n (pc1 := 2) d_Main_amount_1 rfl 0 rfl ?_
  refine g_getr (pc1 := 5) d_Main_amount_2 rfl ⟨_, fo_Main_26⟩ sh_0 (by decide) (rf_0_2 ld) ?_
  refine g_geti (pc1 := 8) d_Main_amount_5 rfl ⟨_, fo_Main_131⟩ (shLa_0 hld) (ltLa_0 hld) ?_
  refine g_callS0 (pc1 := 11) (As := [.int p1, .int (M ld 1)]) (rest := []) d_Main_amount_8 rfl mo_Main_112 ms_Main_isOne (by decide) rfl rfl (Nat.le_of_ble_eq_true rfl) ?_
  obtain ⟨r2, hq1, h⟩ := bnd h
  refine f_Main_isOne hld  hq1 ?_
  dsimp only [psh]
  refine g_if_eq (pc1 := 14) (tgt := 28) d_Main_amount_11 (by decide) rfl (fun c3 => ?_) (fun c3 => ?_)
  · replace h := itp h c3
    refine g_iconst (pc1 := 29) (v := (-1)) d_Main_amount_28 rfl (by decide) ?_
    refine g_ireturn (Or.inl rfl) d_Main_amount_29 rfl ?_
    cases h; exact hQ
  · replace h := itn h c3
    refine g_iload_n (pc1 := 15) d_Main_amount_14 rfl 2 rfl ?_
    refine g_aload_n (pc1 := 16) d_Main_amount_15 rfl 0 rfl ?_
    refine g_getr (pc1 := 19) d_Main_amount_16 rfl ⟨_, fo_Main_26⟩ sh_0 (by decide) (rf_0_2 ld) ?_
    refine g_geti (pc1 := 22) d_Main_amount_19 rfl ⟨_, fo_Main_109⟩ (shLa_0 hld) (ltLa_0 hld) ?_
    refine g_callS0 (pc1 := 25) (As := [.int p2, .int (M ld 0)]) (rest := []) d_Main_amount_22 rfl mo_Main_112 ms_Main_isOne (by decide) rfl rfl (Nat.le_of_ble_eq_true rfl) ?_
    obtain ⟨r5, hq4, h⟩ := bnd h
    refine f_Main_isOne hld  hq4 ?_
    dsimp only [psh]
    refine g_if_ne (pc1 := 28) (tgt := 30) d_Main_amount_25 (by decide) rfl (fun c6 => ?_) (fun c6 => ?_)
    · replace h := itn h c6
      refine g_aload_n (pc1 := 31) d_Main_amount_30 rfl 0 rfl ?_
      refine g_getr (pc1 := 34) d_Main_amount_31 rfl ⟨_, fo_Main_26⟩ sh_0 (by decide) (rf_0_2 ld) ?_
      refine g_iload_n (pc1 := 35) d_Main_amount_34 rfl 1 rfl ?_
      refine g_iload_n (pc1 := 36) d_Main_amount_35 rfl 2 rfl ?_
      refine g_callV0 (pc1 := 39) (As := [.int p1, .int p2]) (rest := []) d_Main_amount_36 rfl mo_Main_154 mi_Land_inDish mv_Land_inDish rfl (shLa_0 hld) (ltLa_0 hld) (by decide) rfl rfl (Nat.le_of_ble_eq_true rfl) ?_
      obtain ⟨r8, hq7, h⟩ := bnd h
      refine f_Land_inDish hld hld hq7 ?_
      dsimp only [psh]
      refine g_ireturn (Or.inl rfl) d_Main_amount_39 rfl ?_
      cases h; exact hQ
    · replace h := itp h c6
      refine g_iconst (pc1 := 29) (v := (-1)) d_Main_amount_28 rfl (by decide) ?_
      refine g_ireturn (Or.inl rfl) d_Main_amount_29 rfl ?_
      cases h; exact hQ

def F_Main_beginDraft (ld : Nat) (M : gM) : Option (gM) :=
  bI (F_State_begin 64 (50 - ld) M) (fun M2 => bI (F_Past_clear M2) (fun M4 => bI (F_Slots_clear M4) (fun M6 => bI (F_Told_clear M6) (fun M8 => some M8))))
set_option maxHeartbeats 4000000 in
set_option maxRecDepth 20000 in
theorem f_Main_beginDraft {l : Launch} {ld : Nat} {M : gM} {L : gL} {Q : Option Value → gM → gL → gR → Prop} (hld : isLa ld)   {q : gM} (h : F_Main_beginDraft ld M = some q) (hQ : Q none q L (rf (50 - ld))) : Tm l y_Main_beginDraft (0, 0, 447) 447 [.ref 0] M L (rf ld) Q := by
  refine Tm.of (by decide) (Nat.le_of_ble_eq_true rfl) ?_
  show Wp l y_Main_beginDraft (0, 0, 447) 447 0 0 0 [(0, .ref 0)] [] M L (rf ld) Q
  unfold F_Main_beginDraft at h
  refine g_aload_n (pc1 := 1) d_Main_beginDraft_0 rfl 0 rfl ?_
  refine g_getr (pc1 := 4) d_Main_beginDraft_1 rfl ⟨_, fo_Main_26⟩ sh_0 (by decide) (rf_0_2 ld) ?_
  refine g_astore_n (pc1 := 5) (lv' := [(0, .ref 0), (1, .ref ld)]) d_Main_beginDraft_4 rfl rfl (by decide) [1, 0] rfl ?_
  refine g_aload_n (pc1 := 6) d_Main_beginDraft_5 rfl 0 rfl ?_
  refine g_aload_n (pc1 := 7) d_Main_beginDraft_6 rfl 0 rfl ?_
  refine g_getr (pc1 := 10) d_Main_beginDraft_7 rfl ⟨_, fo_Main_30⟩ sh_0 (by decide) (rf_0_3 ld) ?_
  refine g_putr (pc1 := 13) d_Main_beginDraft_10 rfl fo_Main_26 po_0_2 sh_0 (by decide) ?_
  refine g_aload_n (pc1 := 14) d_Main_beginDraft_13 rfl 0 rfl ?_
  refine g_aload_n (pc1 := 15) d_Main_beginDraft_14 rfl 1 rfl ?_
  refine g_putr (pc1 := 18) d_Main_beginDraft_15 rfl fo_Main_30 po_0_3 sh_0 (by decide) ?_
  refine Wp.eqRR (rf_sw hld) ?_
  refine g_aload_n (pc1 := 19) d_Main_beginDraft_18 rfl 0 rfl ?_
  refine g_getr (pc1 := 22) d_Main_beginDraft_19 rfl ⟨_, fo_Main_36⟩ sh_0 (by decide) (rf_0_4 (50 - ld)) ?_
  refine g_aload_n (pc1 := 23) d_Main_beginDraft_22 rfl 0 rfl ?_
  refine g_getr (pc1 := 26) d_Main_beginDraft_23 rfl ⟨_, fo_Main_26⟩ sh_0 (by decide) (rf_0_2 (50 - ld)) ?_
  refine g_callV0 (pc1 := 29) (As := [.ref (50 - ld)]) (rest := []) d_Main_beginDraft_26 rfl mo_Main_100 mi_State_begin mv_State_begin rfl (shSt_0 isSt_64) (ltSt_0 isSt_64) (by decide) rfl rfl (Nat.le_of_ble_eq_true rfl) ?_
  obtain ⟨M2, hq1, h⟩ := bnd h
  refine f_State_begin (isLa_dr hld) isSt_64 (isLa_dr hld) hq1 ?_
  dsimp only [psh]
  refine g_aload_n (pc1 := 30) d_Main_beginDraft_29 rfl 0 rfl ?_
  refine g_getr (pc1 := 33) d_Main_beginDraft_30 rfl ⟨_, fo_Main_46⟩ sh_0 (by decide) (rf_0_6 (50 - ld)) ?_
  refine g_callV0 (pc1 := 36) (As := []) (rest := []) d_Main_beginDraft_33 rfl mo_Main_104 mi_Past_clear mv_Past_clear rfl sh_78 (by decide) (by decide) rfl rfl (Nat.le_of_ble_eq_true rfl) ?_
  obtain ⟨M4, hq3, h⟩ := bnd h
  refine f_Past_clear (isLa_dr hld)  hq3 ?_
  dsimp only [psh]
  refine g_aload_n (pc1 := 37) d_Main_beginDraft_36 rfl 0 rfl ?_
  refine g_getr (pc1 := 40) d_Main_beginDraft_37 rfl ⟨_, fo_Main_53⟩ sh_0 (by decide) (rf_0_7 (50 - ld)) ?_
  refine g_callV0 (pc1 := 43) (As := []) (rest := []) d_Main_beginDraft_40 rfl mo_Main_107 mi_Slots_clear mv_Slots_clear rfl sh_360 (by decide) (by decide) rfl rfl (Nat.le_of_ble_eq_true rfl) ?_
  obtain ⟨M6, hq5, h⟩ := bnd h
  refine f_Slots_clear (isLa_dr hld)  hq5 ?_
  dsimp only [psh]
  refine g_aload_n (pc1 := 44) d_Main_beginDraft_43 rfl 0 rfl ?_
  refine g_getr (pc1 := 47) d_Main_beginDraft_44 rfl ⟨_, fo_Main_60⟩ sh_0 (by decide) (rf_0_8 (50 - ld)) ?_
  refine g_callV0 (pc1 := 50) (As := []) (rest := []) d_Main_beginDraft_47 rfl mo_Main_108 mi_Told_clear mv_Told_clear rfl sh_383 (by decide) (by decide) rfl rfl (Nat.le_of_ble_eq_true rfl) ?_
  obtain ⟨M8, hq7, h⟩ := bnd h
  refine f_Told_clear (isLa_dr hld)  hq7 ?_
  dsimp only [psh]
  refine g_return rfl d_Main_beginDraft_50 rfl ?_
  cases h; exact hQ

def F_Main_count (ld : Nat) (p1 : Int32) (M : gM) : Option (Int32) :=
  (if p1 = 0 then some (M ld 0) else (if p1 = 1 then some (M ld 1) else (if p1 = 2 then some (M ld 2) else (if p1 = 3 then some (M ld 3) else (if p1 = 4 then some (M 64 0) else (if p1 = 5 then some (M 64 1) else (if p1 = 6 then some (M 64 3) else (if p1 = 7 then bI (F_Main_at (64 + 1) 3 (p1 - 7) M) (fun r10 => some r10) else (if p1 = 8 then bI (F_Main_at (64 + 1) 3 (p1 - 7) M) (fun r13 => some r13) else (if p1 = 9 then bI (F_Main_at (64 + 1) 3 (p1 - 7) M) (fun r16 => some r16) else (if p1 = 10 then some (M 1 1) else (if p1 = 11 then some (M 78 2) else (if p1 = 12 then some (M 383 3) else (if p1 = 13 then bI (F_Slots_full M) (fun r22 => some r22) else (if p1 = 14 then some (M 64 2) else (if p1 = 15 then bI (F_State_allMeals 64 M) (fun r26 => some r26) else some (-1)))))))))))))))))
set_option maxHeartbeats 4000000 in
set_option maxRecDepth 20000 in
theorem f_Main_count {l : Launch} {ld : Nat} {M : gM} {L : gL} {Q : Option Value → gM → gL → gR → Prop} (hld : isLa ld) {p1 : Int32}  {q : Int32} (h : F_Main_count ld p1 M = some q) (hQ : Q (some (.int q)) M L (rf ld)) : Tm l y_Main_count (0, 0, 447) 447 [.ref 0, .int p1] M L (rf ld) Q := by
  refine Tm.of (by decide) (Nat.le_of_ble_eq_true rfl) ?_
  show Wp l y_Main_count (0, 0, 447) 447 0 0 0 [(0, .ref 0), (1, .int p1)] [] M L (rf ld) Q
  unfold F_Main_count at h
  refine g_iload_n (pc1 := 1) d_Main_count_0 rfl 1 rfl ?_
  by_cases c1 : p1 = 0
  · replace h := itp h c1
    refine g_tabK (tgt := 80) (off := 79) d_Main_count_1 c1 (by decide) (by decide) (by decide) (by decide) ?_
    refine g_aload_n (pc1 := 81) d_Main_count_80 rfl 0 rfl ?_
    refine g_getr (pc1 := 84) d_Main_count_81 rfl ⟨_, fo_Main_26⟩ sh_0 (by decide) (rf_0_2 ld) ?_
    refine g_geti (pc1 := 87) d_Main_count_84 rfl ⟨_, fo_Main_109⟩ (shLa_0 hld) (ltLa_0 hld) ?_
    refine g_ireturn (Or.inl rfl) d_Main_count_87 rfl ?_
    cases h; exact hQ
  replace h := itn h c1
  by_cases c2 : p1 = 1
  · replace h := itp h c2
    refine g_tabK (tgt := 88) (off := 87) d_Main_count_1 c2 (by decide) (by decide) (by decide) (by decide) ?_
    refine g_aload_n (pc1 := 89) d_Main_count_88 rfl 0 rfl ?_
    refine g_getr (pc1 := 92) d_Main_count_89 rfl ⟨_, fo_Main_26⟩ sh_0 (by decide) (rf_0_2 ld) ?_
    refine g_geti (pc1 := 95) d_Main_count_92 rfl ⟨_, fo_Main_131⟩ (shLa_0 hld) (ltLa_0 hld) ?_
    refine g_ireturn (Or.inl rfl) d_Main_count_95 rfl ?_
    cases h; exact hQ
  replace h := itn h c2
  by_cases c3 : p1 = 2
  · replace h := itp h c3
    refine g_tabK (tgt := 96) (off := 95) d_Main_count_1 c3 (by decide) (by decide) (by decide) (by decide) ?_
    refine g_aload_n (pc1 := 97) d_Main_count_96 rfl 0 rfl ?_
    refine g_getr (pc1 := 100) d_Main_count_97 rfl ⟨_, fo_Main_26⟩ sh_0 (by decide) (rf_0_2 ld) ?_
    refine g_geti (pc1 := 103) d_Main_count_100 rfl ⟨_, fo_Main_157⟩ (shLa_0 hld) (ltLa_0 hld) ?_
    refine g_ireturn (Or.inl rfl) d_Main_count_103 rfl ?_
    cases h; exact hQ
  replace h := itn h c3
  by_cases c4 : p1 = 3
  · replace h := itp h c4
    refine g_tabK (tgt := 104) (off := 103) d_Main_count_1 c4 (by decide) (by decide) (by decide) (by decide) ?_
    refine g_aload_n (pc1 := 105) d_Main_count_104 rfl 0 rfl ?_
    refine g_getr (pc1 := 108) d_Main_count_105 rfl ⟨_, fo_Main_26⟩ sh_0 (by decide) (rf_0_2 ld) ?_
    refine g_geti (pc1 := 111) d_Main_count_108 rfl ⟨_, fo_Main_177⟩ (shLa_0 hld) (ltLa_0 hld) ?_
    refine g_ireturn (Or.inl rfl) d_Main_count_111 rfl ?_
    cases h; exact hQ
  replace h := itn h c4
  by_cases c5 : p1 = 4
  · replace h := itp h c5
    refine g_tabK (tgt := 112) (off := 111) d_Main_count_1 c5 (by decide) (by decide) (by decide) (by decide) ?_
    refine g_aload_n (pc1 := 113) d_Main_count_112 rfl 0 rfl ?_
    refine g_getr (pc1 := 116) d_Main_count_113 rfl ⟨_, fo_Main_36⟩ sh_0 (by decide) (rf_0_4 ld) ?_
    refine g_geti (pc1 := 119) d_Main_count_116 rfl ⟨_, fo_Main_144⟩ (shSt_0 isSt_64) (ltSt_0 isSt_64) ?_
    refine g_ireturn (Or.inl rfl) d_Main_count_119 rfl ?_
    cases h; exact hQ
  replace h := itn h c5
  by_cases c6 : p1 = 5
  · replace h := itp h c6
    refine g_tabK (tgt := 120) (off := 119) d_Main_count_1 c6 (by decide) (by decide) (by decide) (by decide) ?_
    refine g_aload_n (pc1 := 121) d_Main_count_120 rfl 0 rfl ?_
    refine g_getr (pc1 := 124) d_Main_count_121 rfl ⟨_, fo_Main_36⟩ sh_0 (by decide) (rf_0_4 ld) ?_
    refine g_geti (pc1 := 127) d_Main_count_124 rfl ⟨_, fo_Main_297⟩ (shSt_0 isSt_64) (ltSt_0 isSt_64) ?_
    refine g_ireturn (Or.inl rfl) d_Main_count_127 rfl ?_
    cases h; exact hQ
  replace h := itn h c6
  by_cases c7 : p1 = 6
  · replace h := itp h c7
    refine g_tabK (tgt := 128) (off := 127) d_Main_count_1 c7 (by decide) (by decide) (by decide) (by decide) ?_
    refine g_aload_n (pc1 := 129) d_Main_count_128 rfl 0 rfl ?_
    refine g_getr (pc1 := 132) d_Main_count_129 rfl ⟨_, fo_Main_36⟩ sh_0 (by decide) (rf_0_4 ld) ?_
    refine g_geti (pc1 := 135) d_Main_count_132 rfl ⟨_, fo_Main_208⟩ (shSt_0 isSt_64) (ltSt_0 isSt_64) ?_
    refine g_ireturn (Or.inl rfl) d_Main_count_135 rfl ?_
    cases h; exact hQ
  replace h := itn h c7
  by_cases c8 : p1 = 7
  · replace h := itp h c8
    refine g_tabK (tgt := 136) (off := 135) d_Main_count_1 c8 (by decide) (by decide) (by decide) (by decide) ?_
    refine g_aload_n (pc1 := 137) d_Main_count_136 rfl 0 rfl ?_
    refine g_getr (pc1 := 140) d_Main_count_137 rfl ⟨_, fo_Main_36⟩ sh_0 (by decide) (rf_0_4 ld) ?_
    refine g_getr (pc1 := 143) d_Main_count_140 rfl ⟨_, fo_Main_300⟩ (shSt_0 isSt_64) (ltSt_0 isSt_64) (rfSt_4 ld isSt_64) ?_
    refine g_iload_n (pc1 := 144) d_Main_count_143 rfl 1 rfl ?_
    refine g_bipush (pc1 := 146) (v := 7) d_Main_count_144 rfl (by decide) ?_
    refine g_isub (pc1 := 147) d_Main_count_146 rfl ?_
    refine g_callS0 (pc1 := 150) (As := [.ref (64 + 1), .int (p1 - 7)]) (rest := []) d_Main_count_147 rfl mo_Main_120 ms_Main_at (by decide) rfl rfl (Nat.le_of_ble_eq_true rfl) ?_
    obtain ⟨r10, hq9, h⟩ := bnd h
    refine f_Main_at hld (shSt_1 isSt_64) (ltSt_1 isSt_64) (by decide) hq9 ?_
    dsimp only [psh]
    refine g_ireturn (Or.inl rfl) d_Main_count_150 rfl ?_
    cases h; exact hQ
  replace h := itn h c8
  by_cases c11 : p1 = 8
  · replace h := itp h c11
    refine g_tabK (tgt := 136) (off := 135) d_Main_count_1 c11 (by decide) (by decide) (by decide) (by decide) ?_
    refine g_aload_n (pc1 := 137) d_Main_count_136 rfl 0 rfl ?_
    refine g_getr (pc1 := 140) d_Main_count_137 rfl ⟨_, fo_Main_36⟩ sh_0 (by decide) (rf_0_4 ld) ?_
    refine g_getr (pc1 := 143) d_Main_count_140 rfl ⟨_, fo_Main_300⟩ (shSt_0 isSt_64) (ltSt_0 isSt_64) (rfSt_4 ld isSt_64) ?_
    refine g_iload_n (pc1 := 144) d_Main_count_143 rfl 1 rfl ?_
    refine g_bipush (pc1 := 146) (v := 7) d_Main_count_144 rfl (by decide) ?_
    refine g_isub (pc1 := 147) d_Main_count_146 rfl ?_
    refine g_callS0 (pc1 := 150) (As := [.ref (64 + 1), .int (p1 - 7)]) (rest := []) d_Main_count_147 rfl mo_Main_120 ms_Main_at (by decide) rfl rfl (Nat.le_of_ble_eq_true rfl) ?_
    obtain ⟨r13, hq12, h⟩ := bnd h
    refine f_Main_at hld (shSt_1 isSt_64) (ltSt_1 isSt_64) (by decide) hq12 ?_
    dsimp only [psh]
    refine g_ireturn (Or.inl rfl) d_Main_count_150 rfl ?_
    cases h; exact hQ
  replace h := itn h c11
  by_cases c14 : p1 = 9
  · replace h := itp h c14
    refine g_tabK (tgt := 136) (off := 135) d_Main_count_1 c14 (by decide) (by decide) (by decide) (by decide) ?_
    refine g_aload_n (pc1 := 137) d_Main_count_136 rfl 0 rfl ?_
    refine g_getr (pc1 := 140) d_Main_count_137 rfl ⟨_, fo_Main_36⟩ sh_0 (by decide) (rf_0_4 ld) ?_
    refine g_getr (pc1 := 143) d_Main_count_140 rfl ⟨_, fo_Main_300⟩ (shSt_0 isSt_64) (ltSt_0 isSt_64) (rfSt_4 ld isSt_64) ?_
    refine g_iload_n (pc1 := 144) d_Main_count_143 rfl 1 rfl ?_
    refine g_bipush (pc1 := 146) (v := 7) d_Main_count_144 rfl (by decide) ?_
    refine g_isub (pc1 := 147) d_Main_count_146 rfl ?_
    refine g_callS0 (pc1 := 150) (As := [.ref (64 + 1), .int (p1 - 7)]) (rest := []) d_Main_count_147 rfl mo_Main_120 ms_Main_at (by decide) rfl rfl (Nat.le_of_ble_eq_true rfl) ?_
    obtain ⟨r16, hq15, h⟩ := bnd h
    refine f_Main_at hld (shSt_1 isSt_64) (ltSt_1 isSt_64) (by decide) hq15 ?_
    dsimp only [psh]
    refine g_ireturn (Or.inl rfl) d_Main_count_150 rfl ?_
    cases h; exact hQ
  replace h := itn h c14
  by_cases c17 : p1 = 10
  · replace h := itp h c17
    refine g_tabK (tgt := 151) (off := 150) d_Main_count_1 c17 (by decide) (by decide) (by decide) (by decide) ?_
    refine g_aload_n (pc1 := 152) d_Main_count_151 rfl 0 rfl ?_
    refine g_getr (pc1 := 155) d_Main_count_152 rfl ⟨_, fo_Main_12⟩ sh_0 (by decide) (rf_0_0 ld) ?_
    refine g_geti (pc1 := 158) d_Main_count_155 rfl ⟨_, fo_Main_82⟩ sh_1 (by decide) ?_
    refine g_ireturn (Or.inl rfl) d_Main_count_158 rfl ?_
    cases h; exact hQ
  replace h := itn h c17
  by_cases c18 : p1 = 11
  · replace h := itp h c18
    refine g_tabK (tgt := 159) (off := 158) d_Main_count_1 c18 (by decide) (by decide) (by decide) (by decide) ?_
    refine g_aload_n (pc1 := 160) d_Main_count_159 rfl 0 rfl ?_
    refine g_getr (pc1 := 163) d_Main_count_160 rfl ⟨_, fo_Main_46⟩ sh_0 (by decide) (rf_0_6 ld) ?_
    refine g_geti (pc1 := 166) d_Main_count_163 rfl ⟨_, fo_Main_303⟩ sh_78 (by decide) ?_
    refine g_ireturn (Or.inl rfl) d_Main_count_166 rfl ?_
    cases h; exact hQ
  replace h := itn h c18
  by_cases c19 : p1 = 12
  · replace h := itp h c19
    refine g_tabK (tgt := 167) (off := 166) d_Main_count_1 c19 (by decide) (by decide) (by decide) (by decide) ?_
    refine g_aload_n (pc1 := 168) d_Main_count_167 rfl 0 rfl ?_
    refine g_getr (pc1 := 171) d_Main_count_168 rfl ⟨_, fo_Main_60⟩ sh_0 (by decide) (rf_0_8 ld) ?_
    refine g_geti (pc1 := 174) d_Main_count_171 rfl ⟨_, fo_Main_275⟩ sh_383 (by decide) ?_
    refine g_ireturn (Or.inl rfl) d_Main_count_174 rfl ?_
    cases h; exact hQ
  replace h := itn h c19
  by_cases c20 : p1 = 13
  · replace h := itp h c20
    refine g_tabK (tgt := 175) (off := 174) d_Main_count_1 c20 (by decide) (by decide) (by decide) (by decide) ?_
    refine g_aload_n (pc1 := 176) d_Main_count_175 rfl 0 rfl ?_
    refine g_getr (pc1 := 179) d_Main_count_176 rfl ⟨_, fo_Main_53⟩ sh_0 (by decide) (rf_0_7 ld) ?_
    refine g_callV0 (pc1 := 182) (As := []) (rest := []) d_Main_count_179 rfl mo_Main_304 mi_Slots_full mv_Slots_full rfl sh_360 (by decide) (by decide) rfl rfl (Nat.le_of_ble_eq_true rfl) ?_
    obtain ⟨r22, hq21, h⟩ := bnd h
    refine f_Slots_full hld  hq21 ?_
    dsimp only [psh]
    refine g_ireturn (Or.inl rfl) d_Main_count_182 rfl ?_
    cases h; exact hQ
  replace h := itn h c20
  by_cases c23 : p1 = 14
  · replace h := itp h c23
    refine g_tabK (tgt := 183) (off := 182) d_Main_count_1 c23 (by decide) (by decide) (by decide) (by decide) ?_
    refine g_aload_n (pc1 := 184) d_Main_count_183 rfl 0 rfl ?_
    refine g_getr (pc1 := 187) d_Main_count_184 rfl ⟨_, fo_Main_36⟩ sh_0 (by decide) (rf_0_4 ld) ?_
    refine g_geti (pc1 := 190) d_Main_count_187 rfl ⟨_, fo_Main_307⟩ (shSt_0 isSt_64) (ltSt_0 isSt_64) ?_
    refine g_ireturn (Or.inl rfl) d_Main_count_190 rfl ?_
    cases h; exact hQ
  replace h := itn h c23
  by_cases c24 : p1 = 15
  · replace h := itp h c24
    refine g_tabK (tgt := 191) (off := 190) d_Main_count_1 c24 (by decide) (by decide) (by decide) (by decide) ?_
    refine g_aload_n (pc1 := 192) d_Main_count_191 rfl 0 rfl ?_
    refine g_getr (pc1 := 195) d_Main_count_192 rfl ⟨_, fo_Main_36⟩ sh_0 (by decide) (rf_0_4 ld) ?_
    refine g_callV0 (pc1 := 198) (As := []) (rest := []) d_Main_count_195 rfl mo_Main_310 mi_State_allMeals mv_State_allMeals rfl (shSt_0 isSt_64) (ltSt_0 isSt_64) (by decide) rfl rfl (Nat.le_of_ble_eq_true rfl) ?_
    obtain ⟨r26, hq25, h⟩ := bnd h
    refine f_State_allMeals hld isSt_64 hq25 ?_
    dsimp only [psh]
    refine g_ireturn (Or.inl rfl) d_Main_count_198 rfl ?_
    cases h; exact hQ
  replace h := itn h c24
  refine g_tabOut (tgt := 199) d_Main_count_1 (by
    have nc1 := neT (a := 0) c1 (by decide)
    have nc2 := neT (a := 1) c2 (by decide)
    have nc3 := neT (a := 2) c3 (by decide)
    have nc4 := neT (a := 3) c4 (by decide)
    have nc5 := neT (a := 4) c5 (by decide)
    have nc6 := neT (a := 5) c6 (by decide)
    have nc7 := neT (a := 6) c7 (by decide)
    have nc8 := neT (a := 7) c8 (by decide)
    have nc11 := neT (a := 8) c11 (by decide)
    have nc14 := neT (a := 9) c14 (by decide)
    have nc17 := neT (a := 10) c17 (by decide)
    have nc18 := neT (a := 11) c18 (by decide)
    have nc19 := neT (a := 12) c19 (by decide)
    have nc20 := neT (a := 13) c20 (by decide)
    have nc23 := neT (a := 14) c23 (by decide)
    have nc24 := neT (a := 15) c24 (by decide)
    omega) (by decide) ?_
  refine g_iconst (pc1 := 200) (v := (-1)) d_Main_count_199 rfl (by decide) ?_
  refine g_ireturn (Or.inl rfl) d_Main_count_200 rfl ?_
  cases h; exact hQ

def F_Main_feed (p1 : Int32) (p2 : Int32) (p3 : Int32) (p4 : Int32) (p5 : Int32) (M : gM) : Option (Int32 × gM) :=
  (if ((M 1 1) + 20) ≤ 2000 then bI (F_Tape_write p1 M) (fun M3 => bI (F_Tape_write p2 M3) (fun M5 => bI (F_Tape_write p3 M5) (fun M7 => bI (F_Tape_write p4 M7) (fun M9 => bI (F_Tape_write p5 M9) (fun M11 => some ((M11 1 1), M11)))))) else some ((-1), M))
set_option maxHeartbeats 4000000 in
set_option maxRecDepth 20000 in
theorem f_Main_feed {l : Launch} {ld : Nat} {M : gM} {L : gL} {Q : Option Value → gM → gL → gR → Prop} (hld : isLa ld) {p1 : Int32} {p2 : Int32} {p3 : Int32} {p4 : Int32} {p5 : Int32}  {q : Int32 × gM} (h : F_Main_feed p1 p2 p3 p4 p5 M = some q) (hQ : Q (some (.int q.1)) q.2 L (rf ld)) : Tm l y_Main_feed (0, 0, 447) 447 [.ref 0, .int p1, .int p2, .int p3, .int p4, .int p5] M L (rf ld) Q := by
  refine Tm.of (by decide) (Nat.le_of_ble_eq_true rfl) ?_
  show Wp l y_Main_feed (0, 0, 447) 447 0 0 0 [(0, .ref 0), (1, .int p1), (2, .int p2), (3, .int p3), (4, .int p4), (5, .int p5)] [] M L (rf ld) Q
  unfold F_Main_feed at h
  refine g_aload_n (pc1 := 1) d_Main_feed_0 rfl 0 rfl ?_
  refine g_getr (pc1 := 4) d_Main_feed_1 rfl ⟨_, fo_Main_12⟩ sh_0 (by decide) (rf_0_0 ld) ?_
  refine g_geti (pc1 := 7) d_Main_feed_4 rfl ⟨_, fo_Main_82⟩ sh_1 (by decide) ?_
  refine g_bipush (pc1 := 9) (v := 20) d_Main_feed_7 rfl (by decide) ?_
  refine g_iadd (pc1 := 10) d_Main_feed_9 rfl ?_
  refine g_sipush (pc1 := 13) (v := 2000) d_Main_feed_10 rfl (by decide) ?_
  refine g_icmp_le (pc1 := 16) (tgt := 18) d_Main_feed_13 (by decide) rfl (fun c1 => ?_) (fun c1 => ?_)
  · replace h := itp h c1
    refine g_aload_n (pc1 := 19) d_Main_feed_18 rfl 0 rfl ?_
    refine g_getr (pc1 := 22) d_Main_feed_19 rfl ⟨_, fo_Main_12⟩ sh_0 (by decide) (rf_0_0 ld) ?_
    refine g_iload_n (pc1 := 23) d_Main_feed_22 rfl 1 rfl ?_
    refine g_callV0 (pc1 := 26) (As := [.int p1]) (rest := []) d_Main_feed_23 rfl mo_Main_85 mi_Tape_write mv_Tape_write rfl sh_1 (by decide) (by decide) rfl rfl (Nat.le_of_ble_eq_true rfl) ?_
    obtain ⟨M3, hq2, h⟩ := bnd h
    refine f_Tape_write hld  hq2 ?_
    dsimp only [psh]
    refine g_aload_n (pc1 := 27) d_Main_feed_26 rfl 0 rfl ?_
    refine g_getr (pc1 := 30) d_Main_feed_27 rfl ⟨_, fo_Main_12⟩ sh_0 (by decide) (rf_0_0 ld) ?_
    refine g_iload_n (pc1 := 31) d_Main_feed_30 rfl 2 rfl ?_
    refine g_callV0 (pc1 := 34) (As := [.int p2]) (rest := []) d_Main_feed_31 rfl mo_Main_85 mi_Tape_write mv_Tape_write rfl sh_1 (by decide) (by decide) rfl rfl (Nat.le_of_ble_eq_true rfl) ?_
    obtain ⟨M5, hq4, h⟩ := bnd h
    refine f_Tape_write hld  hq4 ?_
    dsimp only [psh]
    refine g_aload_n (pc1 := 35) d_Main_feed_34 rfl 0 rfl ?_
    refine g_getr (pc1 := 38) d_Main_feed_35 rfl ⟨_, fo_Main_12⟩ sh_0 (by decide) (rf_0_0 ld) ?_
    refine g_iload_n (pc1 := 39) d_Main_feed_38 rfl 3 rfl ?_
    refine g_callV0 (pc1 := 42) (As := [.int p3]) (rest := []) d_Main_feed_39 rfl mo_Main_85 mi_Tape_write mv_Tape_write rfl sh_1 (by decide) (by decide) rfl rfl (Nat.le_of_ble_eq_true rfl) ?_
    obtain ⟨M7, hq6, h⟩ := bnd h
    refine f_Tape_write hld  hq6 ?_
    dsimp only [psh]
    refine g_aload_n (pc1 := 43) d_Main_feed_42 rfl 0 rfl ?_
    refine g_getr (pc1 := 46) d_Main_feed_43 rfl ⟨_, fo_Main_12⟩ sh_0 (by decide) (rf_0_0 ld) ?_
    refine g_iload (pc1 := 48) d_Main_feed_46 rfl 4 rfl ?_
    refine g_callV0 (pc1 := 51) (As := [.int p4]) (rest := []) d_Main_feed_48 rfl mo_Main_85 mi_Tape_write mv_Tape_write rfl sh_1 (by decide) (by decide) rfl rfl (Nat.le_of_ble_eq_true rfl) ?_
    obtain ⟨M9, hq8, h⟩ := bnd h
    refine f_Tape_write hld  hq8 ?_
    dsimp only [psh]
    refine g_aload_n (pc1 := 52) d_Main_feed_51 rfl 0 rfl ?_
    refine g_getr (pc1 := 55) d_Main_feed_52 rfl ⟨_, fo_Main_12⟩ sh_0 (by decide) (rf_0_0 ld) ?_
    refine g_iload (pc1 := 57) d_Main_feed_55 rfl 5 rfl ?_
    refine g_callV0 (pc1 := 60) (As := [.int p5]) (rest := []) d_Main_feed_57 rfl mo_Main_85 mi_Tape_write mv_Tape_write rfl sh_1 (by decide) (by decide) rfl rfl (Nat.le_of_ble_eq_true rfl) ?_
    obtain ⟨M11, hq10, h⟩ := bnd h
    refine f_Tape_write hld  hq10 ?_
    dsimp only [psh]
    refine g_aload_n (pc1 := 61) d_Main_feed_60 rfl 0 rfl ?_
    refine g_getr (pc1 := 64) d_Main_feed_61 rfl ⟨_, fo_Main_12⟩ sh_0 (by decide) (rf_0_0 ld) ?_
    refine g_geti (pc1 := 67) d_Main_feed_64 rfl ⟨_, fo_Main_82⟩ sh_1 (by decide) ?_
    refine g_ireturn (Or.inl rfl) d_Main_feed_67 rfl ?_
    cases h; exact hQ
  · replace h := itn h c1
    refine g_iconst (pc1 := 17) (v := (-1)) d_Main_feed_16 rfl (by decide) ?_
    refine g_ireturn (Or.inl rfl) d_Main_feed_17 rfl ?_
    cases h; exact hQ

def F_Main_food (ld : Nat) (p1 : Int32) (p2 : Int32) (M : gM) : Option (Int32) :=
  bI (F_Main_isOne p1 (M ld 0)) (fun r2 => (if r2 = 0 then some (-1) else (if p2 = 0 then bI (F_Main_at (64 + 2) 6 p1 M) (fun r6 => some r6) else (if p2 = 1 then bI (F_Main_at (ld + 2) 6 p1 M) (fun r9 => some r9) else (if p2 = 2 then bI (F_Land_broughtBy ld p1 (p2 - 2) M) (fun r12 => some r12) else (if p2 = 3 then bI (F_Land_broughtBy ld p1 (p2 - 2) M) (fun r15 => some r15) else (if p2 = 4 then bI (F_Land_broughtBy ld p1 (p2 - 2) M) (fun r18 => some r18) else some (-1))))))))
set_option maxHeartbeats 4000000 in
set_option maxRecDepth 20000 in
theorem f_Main_food {l : Launch} {ld : Nat} {M : gM} {L : gL} {Q : Option Value → gM → gL → gR → Prop} (hld : isLa ld) {p1 : Int32} {p2 : Int32}  {q : Int32} (h : F_Main_food ld p1 p2 M = some q) (hQ : Q (some (.int q)) M L (rf ld)) : Tm l y_Main_food (0, 0, 447) 447 [.ref 0, .int p1, .int p2] M L (rf ld) Q := by
  refine Tm.of (by decide) (Nat.le_of_ble_eq_true rfl) ?_
  show Wp l y_Main_food (0, 0, 447) 447 0 0 0 [(0, .ref 0), (1, .int p1), (2, .int p2)] [] M L (rf ld) Q
  unfold F_Main_food at h
  refine g_iload_n (pc1 := 1) d_Main_food_0 rfl 1 rfl ?_
  refine g_aload_n (pc1 := 2) d_Main_food_1 rfl 0 rfl ?_
  refine g_getr (pc1 := 5) d_Main_food_2 rfl ⟨_, fo_Main_26⟩ sh_0 (by decide) (rf_0_2 ld) ?_
  refine g_geti (pc1 := 8) d_Main_food_5 rfl ⟨_, fo_Main_109⟩ (shLa_0 hld) (ltLa_0 hld) ?_
  refine g_callS0 (pc1 := 11) (As := [.int p1, .int (M ld 0)]) (rest := []) d_Main_food_8 rfl mo_Main_112 ms_Main_isOne (by decide) rfl rfl (Nat.le_of_ble_eq_true rfl) ?_
  obtain ⟨r2, hq1, h⟩ := bnd h
  refine f_Main_isOne hld  hq1 ?_
  dsimp only [psh]
  refine g_if_ne (pc1 := 14) (tgt := 16) d_Main_food_11 (by decide) rfl (fun c3 => ?_) (fun c3 => ?_)
  · replace h := itn h c3
    refine g_iload_n (pc1 := 17) d_Main_food_16 rfl 2 rfl ?_
    by_cases c4 : p2 = 0
    · replace h := itp h c4
      refine g_tabK (tgt := 52) (off := 35) d_Main_food_17 c4 (by decide) (by decide) (by decide) (by decide) ?_
      refine g_aload_n (pc1 := 53) d_Main_food_52 rfl 0 rfl ?_
      refine g_getr (pc1 := 56) d_Main_food_53 rfl ⟨_, fo_Main_36⟩ sh_0 (by decide) (rf_0_4 ld) ?_
      refine g_getr (pc1 := 59) d_Main_food_56 rfl ⟨_, fo_Main_116⟩ (shSt_0 isSt_64) (ltSt_0 isSt_64) (rfSt_5 ld isSt_64) ?_
      refine g_iload_n (pc1 := 60) d_Main_food_59 rfl 1 rfl ?_
      refine g_callS0 (pc1 := 63) (As := [.ref (64 + 2), .int p1]) (rest := []) d_Main_food_60 rfl mo_Main_120 ms_Main_at (by decide) rfl rfl (Nat.le_of_ble_eq_true rfl) ?_
      obtain ⟨r6, hq5, h⟩ := bnd h
      refine f_Main_at hld (shSt_2 isSt_64) (ltSt_2 isSt_64) (by decide) hq5 ?_
      dsimp only [psh]
      refine g_ireturn (Or.inl rfl) d_Main_food_63 rfl ?_
      cases h; exact hQ
    replace h := itn h c4
    by_cases c7 : p2 = 1
    · replace h := itp h c7
      refine g_tabK (tgt := 64) (off := 47) d_Main_food_17 c7 (by decide) (by decide) (by decide) (by decide) ?_
      refine g_aload_n (pc1 := 65) d_Main_food_64 rfl 0 rfl ?_
      refine g_getr (pc1 := 68) d_Main_food_65 rfl ⟨_, fo_Main_26⟩ sh_0 (by decide) (rf_0_2 ld) ?_
      refine g_getr (pc1 := 71) d_Main_food_68 rfl ⟨_, fo_Main_124⟩ (shLa_0 hld) (ltLa_0 hld) (rfLa_6 ld hld) ?_
      refine g_iload_n (pc1 := 72) d_Main_food_71 rfl 1 rfl ?_
      refine g_callS0 (pc1 := 75) (As := [.ref (ld + 2), .int p1]) (rest := []) d_Main_food_72 rfl mo_Main_120 ms_Main_at (by decide) rfl rfl (Nat.le_of_ble_eq_true rfl) ?_
      obtain ⟨r9, hq8, h⟩ := bnd h
      refine f_Main_at hld (shLa_2 hld) (ltLa_2 hld) (by decide) hq8 ?_
      dsimp only [psh]
      refine g_ireturn (Or.inl rfl) d_Main_food_75 rfl ?_
      cases h; exact hQ
    replace h := itn h c7
    by_cases c10 : p2 = 2
    · replace h := itp h c10
      refine g_tabK (tgt := 76) (off := 59) d_Main_food_17 c10 (by decide) (by decide) (by decide) (by decide) ?_
      refine g_aload_n (pc1 := 77) d_Main_food_76 rfl 0 rfl ?_
      refine g_getr (pc1 := 80) d_Main_food_77 rfl ⟨_, fo_Main_26⟩ sh_0 (by decide) (rf_0_2 ld) ?_
      refine g_iload_n (pc1 := 81) d_Main_food_80 rfl 1 rfl ?_
      refine g_iload_n (pc1 := 82) d_Main_food_81 rfl 2 rfl ?_
      refine g_iconst (pc1 := 83) (v := 2) d_Main_food_82 rfl (by decide) ?_
      refine g_isub (pc1 := 84) d_Main_food_83 rfl ?_
      refine g_callV0 (pc1 := 87) (As := [.int p1, .int (p2 - 2)]) (rest := []) d_Main_food_84 rfl mo_Main_127 mi_Land_broughtBy mv_Land_broughtBy rfl (shLa_0 hld) (ltLa_0 hld) (by decide) rfl rfl (Nat.le_of_ble_eq_true rfl) ?_
      obtain ⟨r12, hq11, h⟩ := bnd h
      refine f_Land_broughtBy hld hld hq11 ?_
      dsimp only [psh]
      refine g_ireturn (Or.inl rfl) d_Main_food_87 rfl ?_
      cases h; exact hQ
    replace h := itn h c10
    by_cases c13 : p2 = 3
    · replace h := itp h c13
      refine g_tabK (tgt := 76) (off := 59) d_Main_food_17 c13 (by decide) (by decide) (by decide) (by decide) ?_
      refine g_aload_n (pc1 := 77) d_Main_food_76 rfl 0 rfl ?_
      refine g_getr (pc1 := 80) d_Main_food_77 rfl ⟨_, fo_Main_26⟩ sh_0 (by decide) (rf_0_2 ld) ?_
      refine g_iload_n (pc1 := 81) d_Main_food_80 rfl 1 rfl ?_
      refine g_iload_n (pc1 := 82) d_Main_food_81 rfl 2 rfl ?_
      refine g_iconst (pc1 := 83) (v := 2) d_Main_food_82 rfl (by decide) ?_
      refine g_isub (pc1 := 84) d_Main_food_83 rfl ?_
      refine g_callV0 (pc1 := 87) (As := [.int p1, .int (p2 - 2)]) (rest := []) d_Main_food_84 rfl mo_Main_127 mi_Land_broughtBy mv_Land_broughtBy rfl (shLa_0 hld) (ltLa_0 hld) (by decide) rfl rfl (Nat.le_of_ble_eq_true rfl) ?_
      obtain ⟨r15, hq14, h⟩ := bnd h
      refine f_Land_broughtBy hld hld hq14 ?_
      dsimp only [psh]
      refine g_ireturn (Or.inl rfl) d_Main_food_87 rfl ?_
      cases h; exact hQ
    replace h := itn h c13
    by_cases c16 : p2 = 4
    · replace h := itp h c16
      refine g_tabK (tgt := 76) (off := 59) d_Main_food_17 c16 (by decide) (by decide) (by decide) (by decide) ?_
      refine g_aload_n (pc1 := 77) d_Main_food_76 rfl 0 rfl ?_
      refine g_getr (pc1 := 80) d_Main_food_77 rfl ⟨_, fo_Main_26⟩ sh_0 (by decide) (rf_0_2 ld) ?_
      refine g_iload_n (pc1 := 81) d_Main_food_80 rfl 1 rfl ?_
      refine g_iload_n (pc1 := 82) d_Main_food_81 rfl 2 rfl ?_
      refine g_iconst (pc1 := 83) (v := 2) d_Main_food_82 rfl (by decide) ?_
      refine g_isub (pc1 := 84) d_Main_food_83 rfl ?_
      refine g_callV0 (pc1 := 87) (As := [.int p1, .int (p2 - 2)]) (rest := []) d_Main_food_84 rfl mo_Main_127 mi_Land_broughtBy mv_Land_broughtBy rfl (shLa_0 hld) (ltLa_0 hld) (by decide) rfl rfl (Nat.le_of_ble_eq_true rfl) ?_
      obtain ⟨r18, hq17, h⟩ := bnd h
      refine f_Land_broughtBy hld hld hq17 ?_
      dsimp only [psh]
      refine g_ireturn (Or.inl rfl) d_Main_food_87 rfl ?_
      cases h; exact hQ
    replace h := itn h c16
    refine g_tabOut (tgt := 88) d_Main_food_17 (by
      have nc4 := neT (a := 0) c4 (by decide)
      have nc7 := neT (a := 1) c7 (by decide)
      have nc10 := neT (a := 2) c10 (by decide)
      have nc13 := neT (a := 3) c13 (by decide)
      have nc16 := neT (a := 4) c16 (by decide)
      omega) (by decide) ?_
    refine g_iconst (pc1 := 89) (v := (-1)) d_Main_food_88 rfl (by decide) ?_
    refine g_ireturn (Or.inl rfl) d_Main_food_89 rfl ?_
    cases h; exact hQ
  · replace h := itp h c3
    refine g_iconst (pc1 := 15) (v := (-1)) d_Main_food_14 rfl (by decide) ?_
    refine g_ireturn (Or.inl rfl) d_Main_food_15 rfl ?_
    cases h; exact hQ

def F_Main_tell (p1 : Int32) (p2 : Int32) (p3 : Int32) (M : gM) : Option (Int32 × gM) :=
  bI (F_Main_isOne p1 3) (fun r2 => (if r2 = 0 then some ((-1), M) else bI (F_Main_isOne p2 10) (fun r5 => (if r5 = 0 then some ((-1), M) else bI (F_Main_isOne p3 100) (fun r8 => (if r8 = 0 then some ((-1), M) else bI2 (F_Told_add p1 p2 p3 M) (fun r11 M12 => some (r11, M12))))))))
set_option maxHeartbeats 4000000 in
set_option maxRecDepth 20000 in
theorem f_Main_tell {l : Launch} {ld : Nat} {M : gM} {L : gL} {Q : Option Value → gM → gL → gR → Prop} (hld : isLa ld) {p1 : Int32} {p2 : Int32} {p3 : Int32}  {q : Int32 × gM} (h : F_Main_tell p1 p2 p3 M = some q) (hQ : Q (some (.int q.1)) q.2 L (rf ld)) : Tm l y_Main_tell (0, 0, 447) 447 [.ref 0, .int p1, .int p2, .int p3] M L (rf ld) Q := by
  refine Tm.of (by decide) (Nat.le_of_ble_eq_true rfl) ?_
  show Wp l y_Main_tell (0, 0, 447) 447 0 0 0 [(0, .ref 0), (1, .int p1), (2, .int p2), (3, .int p3)] [] M L (rf ld) Q
  unfold F_Main_tell at h
  refine g_iload_n (pc1 := 1) d_Main_tell_0 rfl 1 rfl ?_
  refine g_iconst (pc1 := 2) (v := 3) d_Main_tell_1 rfl (by decide) ?_
  refine g_callS0 (pc1 := 5) (As := [.int p1, .int 3]) (rest := []) d_Main_tell_2 rfl mo_Main_112 ms_Main_isOne (by decide) rfl rfl (Nat.le_of_ble_eq_true rfl) ?_
  obtain ⟨r2, hq1, h⟩ := bnd h
  refine f_Main_isOne hld  hq1 ?_
  dsimp only [psh]
  refine g_if_eq (pc1 := 8) (tgt := 26) d_Main_tell_5 (by decide) rfl (fun c3 => ?_) (fun c3 => ?_)
  · replace h := itp h c3
    refine g_iconst (pc1 := 27) (v := (-1)) d_Main_tell_26 rfl (by decide) ?_
    refine g_ireturn (Or.inl rfl) d_Main_tell_27 rfl ?_
    cases h; exact hQ
  · replace h := itn h c3
    refine g_iload_n (pc1 := 9) d_Main_tell_8 rfl 2 rfl ?_
    refine g_bipush (pc1 := 11) (v := 10) d_Main_tell_9 rfl (by decide) ?_
    refine g_callS0 (pc1 := 14) (As := [.int p2, .int 10]) (rest := []) d_Main_tell_11 rfl mo_Main_112 ms_Main_isOne (by decide) rfl rfl (Nat.le_of_ble_eq_true rfl) ?_
    obtain ⟨r5, hq4, h⟩ := bnd h
    refine f_Main_isOne hld  hq4 ?_
    dsimp only [psh]
    refine g_if_eq (pc1 := 17) (tgt := 26) d_Main_tell_14 (by decide) rfl (fun c6 => ?_) (fun c6 => ?_)
    · replace h := itp h c6
      refine g_iconst (pc1 := 27) (v := (-1)) d_Main_tell_26 rfl (by decide) ?_
      refine g_ireturn (Or.inl rfl) d_Main_tell_27 rfl ?_
      cases h; exact hQ
    · replace h := itn h c6
      refine g_iload_n (pc1 := 18) d_Main_tell_17 rfl 3 rfl ?_
      refine g_bipush (pc1 := 20) (v := 100) d_Main_tell_18 rfl (by decide) ?_
      refine g_callS0 (pc1 := 23) (As := [.int p3, .int 100]) (rest := []) d_Main_tell_20 rfl mo_Main_112 ms_Main_isOne (by decide) rfl rfl (Nat.le_of_ble_eq_true rfl) ?_
      obtain ⟨r8, hq7, h⟩ := bnd h
      refine f_Main_isOne hld  hq7 ?_
      dsimp only [psh]
      refine g_if_ne (pc1 := 26) (tgt := 28) d_Main_tell_23 (by decide) rfl (fun c9 => ?_) (fun c9 => ?_)
      · replace h := itn h c9
        refine g_aload_n (pc1 := 29) d_Main_tell_28 rfl 0 rfl ?_
        refine g_getr (pc1 := 32) d_Main_tell_29 rfl ⟨_, fo_Main_60⟩ sh_0 (by decide) (rf_0_8 ld) ?_
        refine g_iload_n (pc1 := 33) d_Main_tell_32 rfl 1 rfl ?_
        refine g_iload_n (pc1 := 34) d_Main_tell_33 rfl 2 rfl ?_
        refine g_iload_n (pc1 := 35) d_Main_tell_34 rfl 3 rfl ?_
        refine g_callV0 (pc1 := 38) (As := [.int p1, .int p2, .int p3]) (rest := []) d_Main_tell_35 rfl mo_Main_271 mi_Told_add mv_Told_add rfl sh_383 (by decide) (by decide) rfl rfl (Nat.le_of_ble_eq_true rfl) ?_
        obtain ⟨r11, M12, hq10, h⟩ := bnd2 h
        refine f_Told_add hld  hq10 ?_
        dsimp only [psh]
        refine g_ireturn (Or.inl rfl) d_Main_tell_38 rfl ?_
        cases h; exact hQ
      · replace h := itp h c9
        refine g_iconst (pc1 := 27) (v := (-1)) d_Main_tell_26 rfl (by decide) ?_
        refine g_ireturn (Or.inl rfl) d_Main_tell_27 rfl ?_
        cases h; exact hQ

def F_Land_boundBy (Ld0 : Nat) (p1 : Int32) (p2 : Int32) (p3 : Int32) (p4 : Int32) (p5 : Int32) (M : gM) : Option (Int32 × gM) :=
  bI (F_Law_isTold (Ld0 + 13) M) (fun r2 => (if r2 = 0 then bI (F_Main_within (p3 - p4) 0 99) (fun r22 => some (r22, M)) else bI (F_Law_let (Ld0 + 13) 0 p3 M) (fun M5 => bI (F_Law_let (Ld0 + 13) 2 p2 M5) (fun M7 => bI (F_Main_at (Ld0 + 6) 4 p1 M7) (fun r9 => bI (F_Law_let (Ld0 + 13) 5 r9 M7) (fun M11 => bI (F_Law_let (Ld0 + 13) 6 p4 M11) (fun M13 => bI (F_Law_let (Ld0 + 13) 4 p5 M13) (fun M15 => bI2 (F_Law_value (Ld0 + 13) M15) (fun r17 M18 => bI (F_Main_within r17 0 99) (fun r20 => some (r20, M18)))))))))))
set_option maxHeartbeats 4000000 in
set_option maxRecDepth 20000 in
theorem f_Land_boundBy {l : Launch} {ld : Nat} {M : gM} {L : gL} {Q : Option Value → gM → gL → gR → Prop} (hld : isLa ld) {Ld0 : Nat} {p1 : Int32} {p2 : Int32} {p3 : Int32} {p4 : Int32} {p5 : Int32} (hLd0 : isLa Ld0) {q : Int32 × gM} (h : F_Land_boundBy Ld0 p1 p2 p3 p4 p5 M = some q) (hQ : Q (some (.int q.1)) q.2 L (rf ld)) : Tm l y_Land_boundBy (0, 0, 447) 447 [.ref Ld0, .int p1, .int p2, .int p3, .int p4, .int p5] M L (rf ld) Q := by
  refine Tm.of (by decide) (Nat.le_of_ble_eq_true rfl) ?_
  show Wp l y_Land_boundBy (0, 0, 447) 447 0 0 0 [(0, .ref Ld0), (1, .int p1), (2, .int p2), (3, .int p3), (4, .int p4), (5, .int p5)] [] M L (rf ld) Q
  unfold F_Land_boundBy at h
  refine g_aload_n (pc1 := 1) d_Land_boundBy_0 rfl 0 rfl ?_
  refine g_getr (pc1 := 4) d_Land_boundBy_1 rfl ⟨_, fo_Land_43⟩ (shLa_0 hLd0) (ltLa_0 hLd0) (rfLa_14 ld hLd0) ?_
  refine g_callV0 (pc1 := 7) (As := []) (rest := []) d_Land_boundBy_4 rfl mo_Land_89 mi_Law_isTold mv_Law_isTold rfl (shLw_0 (isLw_13 hLd0)) (ltLw_0 (isLw_13 hLd0)) (by decide) rfl rfl (Nat.le_of_ble_eq_true rfl) ?_
  obtain ⟨r2, hq1, h⟩ := bnd h
  refine f_Law_isTold hld (isLw_13 hLd0) hq1 ?_
  dsimp only [psh]
  refine g_if_ne (pc1 := 10) (tgt := 21) d_Land_boundBy_7 (by decide) rfl (fun c3 => ?_) (fun c3 => ?_)
  · replace h := itn h c3
    refine g_aload_n (pc1 := 22) d_Land_boundBy_21 rfl 0 rfl ?_
    refine g_getr (pc1 := 25) d_Land_boundBy_22 rfl ⟨_, fo_Land_43⟩ (shLa_0 hLd0) (ltLa_0 hLd0) (rfLa_14 ld hLd0) ?_
    refine g_iconst (pc1 := 26) (v := 0) d_Land_boundBy_25 rfl (by decide) ?_
    refine g_iload_n (pc1 := 27) d_Land_boundBy_26 rfl 3 rfl ?_
    refine g_callV0 (pc1 := 30) (As := [.int 0, .int p3]) (rest := []) d_Land_boundBy_27 rfl mo_Land_97 mi_Law_let mv_Law_let rfl (shLw_0 (isLw_13 hLd0)) (ltLw_0 (isLw_13 hLd0)) (by decide) rfl rfl (Nat.le_of_ble_eq_true rfl) ?_
    obtain ⟨M5, hq4, h⟩ := bnd h
    refine f_Law_let hld (isLw_13 hLd0) hq4 ?_
    dsimp only [psh]
    refine g_aload_n (pc1 := 31) d_Land_boundBy_30 rfl 0 rfl ?_
    refine g_getr (pc1 := 34) d_Land_boundBy_31 rfl ⟨_, fo_Land_43⟩ (shLa_0 hLd0) (ltLa_0 hLd0) (rfLa_14 ld hLd0) ?_
    refine g_iconst (pc1 := 35) (v := 2) d_Land_boundBy_34 rfl (by decide) ?_
    refine g_iload_n (pc1 := 36) d_Land_boundBy_35 rfl 2 rfl ?_
    refine g_callV0 (pc1 := 39) (As := [.int 2, .int p2]) (rest := []) d_Land_boundBy_36 rfl mo_Land_97 mi_Law_let mv_Law_let rfl (shLw_0 (isLw_13 hLd0)) (ltLw_0 (isLw_13 hLd0)) (by decide) rfl rfl (Nat.le_of_ble_eq_true rfl) ?_
    obtain ⟨M7, hq6, h⟩ := bnd h
    refine f_Law_let hld (isLw_13 hLd0) hq6 ?_
    dsimp only [psh]
    refine g_aload_n (pc1 := 40) d_Land_boundBy_39 rfl 0 rfl ?_
    refine g_getr (pc1 := 43) d_Land_boundBy_40 rfl ⟨_, fo_Land_43⟩ (shLa_0 hLd0) (ltLa_0 hLd0) (rfLa_14 ld hLd0) ?_
    refine g_iconst (pc1 := 44) (v := 5) d_Land_boundBy_43 rfl (by decide) ?_
    refine g_aload_n (pc1 := 45) d_Land_boundBy_44 rfl 0 rfl ?_
    refine g_getr (pc1 := 48) d_Land_boundBy_45 rfl ⟨_, fo_Land_27⟩ (shLa_0 hLd0) (ltLa_0 hLd0) (rfLa_10 ld hLd0) ?_
    refine g_iload_n (pc1 := 49) d_Land_boundBy_48 rfl 1 rfl ?_
    refine g_callS0 (pc1 := 52) (As := [.ref (Ld0 + 6), .int p1]) (rest := [.int 5, .ref (Ld0 + 13)]) d_Land_boundBy_49 rfl mo_Land_78 ms_Main_at (by decide) rfl rfl (Nat.le_of_ble_eq_true rfl) ?_
    obtain ⟨r9, hq8, h⟩ := bnd h
    refine f_Main_at hld (shLa_6 hLd0) (ltLa_6 hLd0) (by decide) hq8 ?_
    dsimp only [psh]
    refine g_callV0 (pc1 := 55) (As := [.int 5, .int r9]) (rest := []) d_Land_boundBy_52 rfl mo_Land_97 mi_Law_let mv_Law_let rfl (shLw_0 (isLw_13 hLd0)) (ltLw_0 (isLw_13 hLd0)) (by decide) rfl rfl (Nat.le_of_ble_eq_true rfl) ?_
    obtain ⟨M11, hq10, h⟩ := bnd h
    refine f_Law_let hld (isLw_13 hLd0) hq10 ?_
    dsimp only [psh]
    refine g_aload_n (pc1 := 56) d_Land_boundBy_55 rfl 0 rfl ?_
    refine g_getr (pc1 := 59) d_Land_boundBy_56 rfl ⟨_, fo_Land_43⟩ (shLa_0 hLd0) (ltLa_0 hLd0) (rfLa_14 ld hLd0) ?_
    refine g_bipush (pc1 := 61) (v := 6) d_Land_boundBy_59 rfl (by decide) ?_
    refine g_iload (pc1 := 63) d_Land_boundBy_61 rfl 4 rfl ?_
    refine g_callV0 (pc1 := 66) (As := [.int 6, .int p4]) (rest := []) d_Land_boundBy_63 rfl mo_Land_97 mi_Law_let mv_Law_let rfl (shLw_0 (isLw_13 hLd0)) (ltLw_0 (isLw_13 hLd0)) (by decide) rfl rfl (Nat.le_of_ble_eq_true rfl) ?_
    obtain ⟨M13, hq12, h⟩ := bnd h
    refine f_Law_let hld (isLw_13 hLd0) hq12 ?_
    dsimp only [psh]
    refine g_aload_n (pc1 := 67) d_Land_boundBy_66 rfl 0 rfl ?_
    refine g_getr (pc1 := 70) d_Land_boundBy_67 rfl ⟨_, fo_Land_43⟩ (shLa_0 hLd0) (ltLa_0 hLd0) (rfLa_14 ld hLd0) ?_
    refine g_iconst (pc1 := 71) (v := 4) d_Land_boundBy_70 rfl (by decide) ?_
    refine g_iload (pc1 := 73) d_Land_boundBy_71 rfl 5 rfl ?_
    refine g_callV0 (pc1 := 76) (As := [.int 4, .int p5]) (rest := []) d_Land_boundBy_73 rfl mo_Land_97 mi_Law_let mv_Law_let rfl (shLw_0 (isLw_13 hLd0)) (ltLw_0 (isLw_13 hLd0)) (by decide) rfl rfl (Nat.le_of_ble_eq_true rfl) ?_
    obtain ⟨M15, hq14, h⟩ := bnd h
    refine f_Law_let hld (isLw_13 hLd0) hq14 ?_
    dsimp only [psh]
    refine g_aload_n (pc1 := 77) d_Land_boundBy_76 rfl 0 rfl ?_
    refine g_getr (pc1 := 80) d_Land_boundBy_77 rfl ⟨_, fo_Land_43⟩ (shLa_0 hLd0) (ltLa_0 hLd0) (rfLa_14 ld hLd0) ?_
    refine g_callV0 (pc1 := 83) (As := []) (rest := []) d_Land_boundBy_80 rfl mo_Land_101 mi_Law_value mv_Law_value rfl (shLw_0 (isLw_13 hLd0)) (ltLw_0 (isLw_13 hLd0)) (by decide) rfl rfl (Nat.le_of_ble_eq_true rfl) ?_
    obtain ⟨r17, M18, hq16, h⟩ := bnd2 h
    refine f_Law_value hld (isLw_13 hLd0) hq16 ?_
    dsimp only [psh]
    refine g_iconst (pc1 := 84) (v := 0) d_Land_boundBy_83 rfl (by decide) ?_
    refine g_bipush (pc1 := 86) (v := 99) d_Land_boundBy_84 rfl (by decide) ?_
    refine g_callS0 (pc1 := 89) (As := [.int r17, .int 0, .int 99]) (rest := []) d_Land_boundBy_86 rfl mo_Land_93 ms_Main_within (by decide) rfl rfl (Nat.le_of_ble_eq_true rfl) ?_
    obtain ⟨r20, hq19, h⟩ := bnd h
    refine f_Main_within hld  hq19 ?_
    dsimp only [psh]
    refine g_ireturn (Or.inl rfl) d_Land_boundBy_89 rfl ?_
    cases h; exact hQ
  · replace h := itp h c3
    refine g_iload_n (pc1 := 11) d_Land_boundBy_10 rfl 3 rfl ?_
    refine g_iload (pc1 := 13) d_Land_boundBy_11 rfl 4 rfl ?_
    refine g_isub (pc1 := 14) d_Land_boundBy_13 rfl ?_
    refine g_iconst (pc1 := 15) (v := 0) d_Land_boundBy_14 rfl (by decide) ?_
    refine g_bipush (pc1 := 17) (v := 99) d_Land_boundBy_15 rfl (by decide) ?_
    refine g_callS0 (pc1 := 20) (As := [.int (p3 - p4), .int 0, .int 99]) (rest := []) d_Land_boundBy_17 rfl mo_Land_93 ms_Main_within (by decide) rfl rfl (Nat.le_of_ble_eq_true rfl) ?_
    obtain ⟨r22, hq21, h⟩ := bnd h
    refine f_Main_within hld  hq21 ?_
    dsimp only [psh]
    refine g_ireturn (Or.inl rfl) d_Land_boundBy_20 rfl ?_
    cases h; exact hQ

def F_Land_fillOf (Ld0 : Nat) (p1 : Int32) (p2 : Int32) (p3 : Int32) (M : gM) : Option (Int32 × gM) :=
  bI (F_Law_isTold (Ld0 + 17) M) (fun r2 => (if r2 = 0 then some (0, M) else bI (F_Law_let (Ld0 + 17) 7 p2 M) (fun M5 => bI (F_Main_at (Ld0 + 2) 6 p1 M5) (fun r7 => bI (F_Law_let (Ld0 + 17) 8 r7 M5) (fun M9 => bI (F_Law_let (Ld0 + 17) 2 p1 M9) (fun M11 => bI (F_Law_let (Ld0 + 17) 4 p3 M11) (fun M13 => bI2 (F_Law_value (Ld0 + 17) M13) (fun r15 M16 => bI (F_Main_within r15 (-9) 9) (fun r18 => some (r18, M16))))))))))
set_option maxHeartbeats 4000000 in
set_option maxRecDepth 20000 in
theorem f_Land_fillOf {l : Launch} {ld : Nat} {M : gM} {L : gL} {Q : Option Value → gM → gL → gR → Prop} (hld : isLa ld) {Ld0 : Nat} {p1 : Int32} {p2 : Int32} {p3 : Int32} (hLd0 : isLa Ld0) {q : Int32 × gM} (h : F_Land_fillOf Ld0 p1 p2 p3 M = some q) (hQ : Q (some (.int q.1)) q.2 L (rf ld)) : Tm l y_Land_fillOf (0, 0, 447) 447 [.ref Ld0, .int p1, .int p2, .int p3] M L (rf ld) Q := by
  refine Tm.of (by decide) (Nat.le_of_ble_eq_true rfl) ?_
  show Wp l y_Land_fillOf (0, 0, 447) 447 0 0 0 [(0, .ref Ld0), (1, .int p1), (2, .int p2), (3, .int p3)] [] M L (rf ld) Q
  unfold F_Land_fillOf at h
  refine g_aload_n (pc1 := 1) d_Land_fillOf_0 rfl 0 rfl ?_
  refine g_getr (pc1 := 4) d_Land_fillOf_1 rfl ⟨_, fo_Land_46⟩ (shLa_0 hLd0) (ltLa_0 hLd0) (rfLa_15 ld hLd0) ?_
  refine g_callV0 (pc1 := 7) (As := []) (rest := []) d_Land_fillOf_4 rfl mo_Land_89 mi_Law_isTold mv_Law_isTold rfl (shLw_0 (isLw_17 hLd0)) (ltLw_0 (isLw_17 hLd0)) (by decide) rfl rfl (Nat.le_of_ble_eq_true rfl) ?_
  obtain ⟨r2, hq1, h⟩ := bnd h
  refine f_Law_isTold hld (isLw_17 hLd0) hq1 ?_
  dsimp only [psh]
  refine g_if_ne (pc1 := 10) (tgt := 12) d_Land_fillOf_7 (by decide) rfl (fun c3 => ?_) (fun c3 => ?_)
  · replace h := itn h c3
    refine g_aload_n (pc1 := 13) d_Land_fillOf_12 rfl 0 rfl ?_
    refine g_getr (pc1 := 16) d_Land_fillOf_13 rfl ⟨_, fo_Land_46⟩ (shLa_0 hLd0) (ltLa_0 hLd0) (rfLa_15 ld hLd0) ?_
    refine g_bipush (pc1 := 18) (v := 7) d_Land_fillOf_16 rfl (by decide) ?_
    refine g_iload_n (pc1 := 19) d_Land_fillOf_18 rfl 2 rfl ?_
    refine g_callV0 (pc1 := 22) (As := [.int 7, .int p2]) (rest := []) d_Land_fillOf_19 rfl mo_Land_97 mi_Law_let mv_Law_let rfl (shLw_0 (isLw_17 hLd0)) (ltLw_0 (isLw_17 hLd0)) (by decide) rfl rfl (Nat.le_of_ble_eq_true rfl) ?_
    obtain ⟨M5, hq4, h⟩ := bnd h
    refine f_Law_let hld (isLw_17 hLd0) hq4 ?_
    dsimp only [psh]
    refine g_aload_n (pc1 := 23) d_Land_fillOf_22 rfl 0 rfl ?_
    refine g_getr (pc1 := 26) d_Land_fillOf_23 rfl ⟨_, fo_Land_46⟩ (shLa_0 hLd0) (ltLa_0 hLd0) (rfLa_15 ld hLd0) ?_
    refine g_bipush (pc1 := 28) (v := 8) d_Land_fillOf_26 rfl (by decide) ?_
    refine g_aload_n (pc1 := 29) d_Land_fillOf_28 rfl 0 rfl ?_
    refine g_getr (pc1 := 32) d_Land_fillOf_29 rfl ⟨_, fo_Land_15⟩ (shLa_0 hLd0) (ltLa_0 hLd0) (rfLa_6 ld hLd0) ?_
    refine g_iload_n (pc1 := 33) d_Land_fillOf_32 rfl 1 rfl ?_
    refine g_callS0 (pc1 := 36) (As := [.ref (Ld0 + 2), .int p1]) (rest := [.int 8, .ref (Ld0 + 17)]) d_Land_fillOf_33 rfl mo_Land_78 ms_Main_at (by decide) rfl rfl (Nat.le_of_ble_eq_true rfl) ?_
    obtain ⟨r7, hq6, h⟩ := bnd h
    refine f_Main_at hld (shLa_2 hLd0) (ltLa_2 hLd0) (by decide) hq6 ?_
    dsimp only [psh]
    refine g_callV0 (pc1 := 39) (As := [.int 8, .int r7]) (rest := []) d_Land_fillOf_36 rfl mo_Land_97 mi_Law_let mv_Law_let rfl (shLw_0 (isLw_17 hLd0)) (ltLw_0 (isLw_17 hLd0)) (by decide) rfl rfl (Nat.le_of_ble_eq_true rfl) ?_
    obtain ⟨M9, hq8, h⟩ := bnd h
    refine f_Law_let hld (isLw_17 hLd0) hq8 ?_
    dsimp only [psh]
    refine g_aload_n (pc1 := 40) d_Land_fillOf_39 rfl 0 rfl ?_
    refine g_getr (pc1 := 43) d_Land_fillOf_40 rfl ⟨_, fo_Land_46⟩ (shLa_0 hLd0) (ltLa_0 hLd0) (rfLa_15 ld hLd0) ?_
    refine g_iconst (pc1 := 44) (v := 2) d_Land_fillOf_43 rfl (by decide) ?_
    refine g_iload_n (pc1 := 45) d_Land_fillOf_44 rfl 1 rfl ?_
    refine g_callV0 (pc1 := 48) (As := [.int 2, .int p1]) (rest := []) d_Land_fillOf_45 rfl mo_Land_97 mi_Law_let mv_Law_let rfl (shLw_0 (isLw_17 hLd0)) (ltLw_0 (isLw_17 hLd0)) (by decide) rfl rfl (Nat.le_of_ble_eq_true rfl) ?_
    obtain ⟨M11, hq10, h⟩ := bnd h
    refine f_Law_let hld (isLw_17 hLd0) hq10 ?_
    dsimp only [psh]
    refine g_aload_n (pc1 := 49) d_Land_fillOf_48 rfl 0 rfl ?_
    refine g_getr (pc1 := 52) d_Land_fillOf_49 rfl ⟨_, fo_Land_46⟩ (shLa_0 hLd0) (ltLa_0 hLd0) (rfLa_15 ld hLd0) ?_
    refine g_iconst (pc1 := 53) (v := 4) d_Land_fillOf_52 rfl (by decide) ?_
    refine g_iload_n (pc1 := 54) d_Land_fillOf_53 rfl 3 rfl ?_
    refine g_callV0 (pc1 := 57) (As := [.int 4, .int p3]) (rest := []) d_Land_fillOf_54 rfl mo_Land_97 mi_Law_let mv_Law_let rfl (shLw_0 (isLw_17 hLd0)) (ltLw_0 (isLw_17 hLd0)) (by decide) rfl rfl (Nat.le_of_ble_eq_true rfl) ?_
    obtain ⟨M13, hq12, h⟩ := bnd h
    refine f_Law_let hld (isLw_17 hLd0) hq12 ?_
    dsimp only [psh]
    refine g_aload_n (pc1 := 58) d_Land_fillOf_57 rfl 0 rfl ?_
    refine g_getr (pc1 := 61) d_Land_fillOf_58 rfl ⟨_, fo_Land_46⟩ (shLa_0 hLd0) (ltLa_0 hLd0) (rfLa_15 ld hLd0) ?_
    refine g_callV0 (pc1 := 64) (As := []) (rest := []) d_Land_fillOf_61 rfl mo_Land_101 mi_Law_value mv_Law_value rfl (shLw_0 (isLw_17 hLd0)) (ltLw_0 (isLw_17 hLd0)) (by decide) rfl rfl (Nat.le_of_ble_eq_true rfl) ?_
    obtain ⟨r15, M16, hq14, h⟩ := bnd2 h
    refine f_Law_value hld (isLw_17 hLd0) hq14 ?_
    dsimp only [psh]
    refine g_bipush (pc1 := 66) (v := (-9)) d_Land_fillOf_64 rfl (by decide) ?_
    refine g_bipush (pc1 := 68) (v := 9) d_Land_fillOf_66 rfl (by decide) ?_
    refine g_callS0 (pc1 := 71) (As := [.int r15, .int (-9), .int 9]) (rest := []) d_Land_fillOf_68 rfl mo_Land_93 ms_Main_within (by decide) rfl rfl (Nat.le_of_ble_eq_true rfl) ?_
    obtain ⟨r18, hq17, h⟩ := bnd h
    refine f_Main_within hld  hq17 ?_
    dsimp only [psh]
    refine g_ireturn (Or.inl rfl) d_Land_fillOf_71 rfl ?_
    cases h; exact hQ
  · replace h := itp h c3
    refine g_iconst (pc1 := 11) (v := 0) d_Land_fillOf_10 rfl (by decide) ?_
    refine g_ireturn (Or.inl rfl) d_Land_fillOf_11 rfl ?_
    cases h; exact hQ

def B_Land_manyIn_4 (Ld0 : Nat) (v1 : Int32) (M : gM) (K4 : Int32 → Int32 → Option (Int32)) : Int32 → Int32 → Option (Int32) := fun v2 v3 =>
  (if (M Ld0 0) ≤ v3 then some v2 else bI (F_Land_inDish Ld0 v1 v3 M) (fun r3 => nmI (v2 + r3) (fun x4 => nmI (v3 + 1) (fun x5 => K4 x4 x5))))
def H_Land_manyIn_4 (Ld0 : Nat) (v1 : Int32) (M : gM) : Nat → Int32 → Int32 → Option (Int32) := lpK (B_Land_manyIn_4 Ld0 v1 M) (fun _ _ => none)
set_option maxHeartbeats 4000000 in
set_option maxRecDepth 20000 in
theorem h_Land_manyIn_4 {l : Launch} {ld : Nat} {Q : Option Value → gM → gL → gR → Prop} (hld : isLa ld) {Ld0 : Nat} (hLd0 : isLa Ld0) {q : Int32} {M : gM} {L : gL} (hQ : Q (some (.int q)) M L (rf ld))  {v1 : Int32}  : ∀ (f : Nat) (v2 : Int32) (v3 : Int32), H_Land_manyIn_4 Ld0 v1 M f v2 v3 = some q → Wp l y_Land_manyIn (0, 0, 447) 447 0 0 4 [(0, .ref Ld0), (1, .int v1), (2, .int v2), (3, .int v3)] [] M L (rf ld) Q := by
  intro f
  induction f with
  | zero => intro v2 v3 h; cases h
  | succ f hK4 =>
    intro v2 v3 h
    replace h : B_Land_manyIn_4 Ld0 v1 M (H_Land_manyIn_4 Ld0 v1 M f) v2 v3 = some q := h
    unfold B_Land_manyIn_4 at h
    refine g_iload_n (pc1 := 5) d_Land_manyIn_4 rfl 3 rfl ?_
    refine g_aload_n (pc1 := 6) d_Land_manyIn_5 rfl 0 rfl ?_
    refine g_geti (pc1 := 9) d_Land_manyIn_6 rfl ⟨_, fo_Land_55⟩ (shLa_0 hLd0) (ltLa_0 hLd0) ?_
    refine g_icmp_ge (pc1 := 12) (tgt := 27) d_Land_manyIn_9 (by decide) rfl (fun c1 => ?_) (fun c1 => ?_)
    · replace h := itp h c1
      refine g_iload_n (pc1 := 28) d_Land_manyIn_27 rfl 2 rfl ?_
      refine g_ireturn (Or.inl rfl) d_Land_manyIn_28 rfl ?_
      cases h; exact hQ
    · replace h := itn h c1
      refine g_iload_n (pc1 := 13) d_Land_manyIn_12 rfl 2 rfl ?_
      refine g_aload_n (pc1 := 14) d_Land_manyIn_13 rfl 0 rfl ?_
      refine g_iload_n (pc1 := 15) d_Land_manyIn_14 rfl 1 rfl ?_
      refine g_iload_n (pc1 := 16) d_Land_manyIn_15 rfl 3 rfl ?_
      refine g_callV0 (pc1 := 19) (As := [.int v1, .int v3]) (rest := [.int v2]) d_Land_manyIn_16 rfl mo_Land_82 mi_Land_inDish mv_Land_inDish rfl (shLa_0 hLd0) (ltLa_0 hLd0) (by decide) rfl rfl (Nat.le_of_ble_eq_true rfl) ?_
      obtain ⟨r3, hq2, h⟩ := bnd h
      refine f_Land_inDish hld hLd0 hq2 ?_
      dsimp only [psh]
      refine g_iadd (pc1 := 20) d_Land_manyIn_19 rfl ?_
      refine Wp.lI h (fun x4 h => ?_)
      refine g_istore_n (pc1 := 21) (lv' := [(0, .ref Ld0), (1, .int v1), (2, .int x4), (3, .int v3)]) d_Land_manyIn_20 rfl rfl (by decide) [1, 2, 0, 3] rfl ?_
      obtain ⟨x5, ex5, h⟩ := ltI h
      refine g_iinc (pc1 := 24) (v := x5) (lv' := [(0, .ref Ld0), (1, .int v1), (2, .int x4), (3, .int x5)]) d_Land_manyIn_21 rfl 3 rfl (by rw [ex5]; rfl) (by decide) [1, 2, 3, 0] rfl ?_
      refine g_goto (tgt := 4) d_Land_manyIn_24 (by decide) ?_
      exact hK4 x4 x5 h
def F_Land_manyIn (Ld0 : Nat) (p1 : Int32) (M : gM) : Option (Int32) :=
  H_Land_manyIn_4 Ld0 p1 M FU 0 0
set_option maxHeartbeats 4000000 in
set_option maxRecDepth 20000 in
theorem f_Land_manyIn {l : Launch} {ld : Nat} {M : gM} {L : gL} {Q : Option Value → gM → gL → gR → Prop} (hld : isLa ld) {Ld0 : Nat} {p1 : Int32} (hLd0 : isLa Ld0) {q : Int32} (h : F_Land_manyIn Ld0 p1 M = some q) (hQ : Q (some (.int q)) M L (rf ld)) : Tm l y_Land_manyIn (0, 0, 447) 447 [.ref Ld0, .int p1] M L (rf ld) Q := by
  refine Tm.of (by decide) (Nat.le_of_ble_eq_true rfl) ?_
  show Wp l y_Land_manyIn (0, 0, 447) 447 0 0 0 [(0, .ref Ld0), (1, .int p1)] [] M L (rf ld) Q
  unfold F_Land_manyIn at h
  refine g_iconst (pc1 := 1) (v := 0) d_Land_manyIn_0 rfl (by decide) ?_
  refine g_istore_n (pc1 := 2) (lv' := [(0, .ref Ld0), (1, .int p1), (2, .int 0)]) d_Land_manyIn_1 rfl rfl (by decide) [1, 2, 0] rfl ?_
  refine g_iconst (pc1 := 3) (v := 0) d_Land_manyIn_2 rfl (by decide) ?_
  refine g_istore_n (pc1 := 4) (lv' := [(0, .ref Ld0), (1, .int p1), (2, .int 0), (3, .int 0)]) d_Land_manyIn_3 rfl rfl (by decide) [1, 2, 3, 0] rfl ?_
  exact h_Land_manyIn_4 hld hLd0 hQ  _ 0 0 h

def F_Land_potForce (Ld0 : Nat) (p1 : Int32) (p2 : Int32) (p3 : Int32) (p4 : Int32) (p5 : Int32) (M : gM) : Option (Int32 × gM) :=
  bI (F_Law_isTold (Ld0 + 9) M) (fun r2 => (if r2 = 0 then bI (F_Main_within p2 0 99) (fun r20 => some (r20, M)) else bI (F_Law_let (Ld0 + 9) 0 p2 M) (fun M5 => bI (F_Law_let (Ld0 + 9) 1 p3 M5) (fun M7 => bI (F_Law_let (Ld0 + 9) 2 p1 M7) (fun M9 => bI (F_Law_let (Ld0 + 9) 3 p4 M9) (fun M11 => bI (F_Law_let (Ld0 + 9) 4 p5 M11) (fun M13 => bI2 (F_Law_value (Ld0 + 9) M13) (fun r15 M16 => bI (F_Main_within r15 0 99) (fun r18 => some (r18, M16))))))))))
set_option maxHeartbeats 4000000 in
set_option maxRecDepth 20000 in
theorem f_Land_potForce {l : Launch} {ld : Nat} {M : gM} {L : gL} {Q : Option Value → gM → gL → gR → Prop} (hld : isLa ld) {Ld0 : Nat} {p1 : Int32} {p2 : Int32} {p3 : Int32} {p4 : Int32} {p5 : Int32} (hLd0 : isLa Ld0) {q : Int32 × gM} (h : F_Land_potForce Ld0 p1 p2 p3 p4 p5 M = some q) (hQ : Q (some (.int q.1)) q.2 L (rf ld)) : Tm l y_Land_potForce (0, 0, 447) 447 [.ref Ld0, .int p1, .int p2, .int p3, .int p4, .int p5] M L (rf ld) Q := by
  refine Tm.of (by decide) (Nat.le_of_ble_eq_true rfl) ?_
  show Wp l y_Land_potForce (0, 0, 447) 447 0 0 0 [(0, .ref Ld0), (1, .int p1), (2, .int p2), (3, .int p3), (4, .int p4), (5, .int p5)] [] M L (rf ld) Q
  unfold F_Land_potForce at h
  refine g_aload_n (pc1 := 1) d_Land_potForce_0 rfl 0 rfl ?_
  refine g_getr (pc1 := 4) d_Land_potForce_1 rfl ⟨_, fo_Land_39⟩ (shLa_0 hLd0) (ltLa_0 hLd0) (rfLa_13 ld hLd0) ?_
  refine g_callV0 (pc1 := 7) (As := []) (rest := []) d_Land_potForce_4 rfl mo_Land_89 mi_Law_isTold mv_Law_isTold rfl (shLw_0 (isLw_9 hLd0)) (ltLw_0 (isLw_9 hLd0)) (by decide) rfl rfl (Nat.le_of_ble_eq_true rfl) ?_
  obtain ⟨r2, hq1, h⟩ := bnd h
  refine f_Law_isTold hld (isLw_9 hLd0) hq1 ?_
  dsimp only [psh]
  refine g_if_ne (pc1 := 10) (tgt := 18) d_Land_potForce_7 (by decide) rfl (fun c3 => ?_) (fun c3 => ?_)
  · replace h := itn h c3
    refine g_aload_n (pc1 := 19) d_Land_potForce_18 rfl 0 rfl ?_
    refine g_getr (pc1 := 22) d_Land_potForce_19 rfl ⟨_, fo_Land_39⟩ (shLa_0 hLd0) (ltLa_0 hLd0) (rfLa_13 ld hLd0) ?_
    refine g_iconst (pc1 := 23) (v := 0) d_Land_potForce_22 rfl (by decide) ?_
    refine g_iload_n (pc1 := 24) d_Land_potForce_23 rfl 2 rfl ?_
    refine g_callV0 (pc1 := 27) (As := [.int 0, .int p2]) (rest := []) d_Land_potForce_24 rfl mo_Land_97 mi_Law_let mv_Law_let rfl (shLw_0 (isLw_9 hLd0)) (ltLw_0 (isLw_9 hLd0)) (by decide) rfl rfl (Nat.le_of_ble_eq_true rfl) ?_
    obtain ⟨M5, hq4, h⟩ := bnd h
    refine f_Law_let hld (isLw_9 hLd0) hq4 ?_
    dsimp only [psh]
    refine g_aload_n (pc1 := 28) d_Land_potForce_27 rfl 0 rfl ?_
    refine g_getr (pc1 := 31) d_Land_potForce_28 rfl ⟨_, fo_Land_39⟩ (shLa_0 hLd0) (ltLa_0 hLd0) (rfLa_13 ld hLd0) ?_
    refine g_iconst (pc1 := 32) (v := 1) d_Land_potForce_31 rfl (by decide) ?_
    refine g_iload_n (pc1 := 33) d_Land_potForce_32 rfl 3 rfl ?_
    refine g_callV0 (pc1 := 36) (As := [.int 1, .int p3]) (rest := []) d_Land_potForce_33 rfl mo_Land_97 mi_Law_let mv_Law_let rfl (shLw_0 (isLw_9 hLd0)) (ltLw_0 (isLw_9 hLd0)) (by decide) rfl rfl (Nat.le_of_ble_eq_true rfl) ?_
    obtain ⟨M7, hq6, h⟩ := bnd h
    refine f_Law_let hld (isLw_9 hLd0) hq6 ?_
    dsimp only [psh]
    refine g_aload_n (pc1 := 37) d_Land_potForce_36 rfl 0 rfl ?_
    refine g_getr (pc1 := 40) d_Land_potForce_37 rfl ⟨_, fo_Land_39⟩ (shLa_0 hLd0) (ltLa_0 hLd0) (rfLa_13 ld hLd0) ?_
    refine g_iconst (pc1 := 41) (v := 2) d_Land_potForce_40 rfl (by decide) ?_
    refine g_iload_n (pc1 := 42) d_Land_potForce_41 rfl 1 rfl ?_
    refine g_callV0 (pc1 := 45) (As := [.int 2, .int p1]) (rest := []) d_Land_potForce_42 rfl mo_Land_97 mi_Law_let mv_Law_let rfl (shLw_0 (isLw_9 hLd0)) (ltLw_0 (isLw_9 hLd0)) (by decide) rfl rfl (Nat.le_of_ble_eq_true rfl) ?_
    obtain ⟨M9, hq8, h⟩ := bnd h
    refine f_Law_let hld (isLw_9 hLd0) hq8 ?_
    dsimp only [psh]
    refine g_aload_n (pc1 := 46) d_Land_potForce_45 rfl 0 rfl ?_
    refine g_getr (pc1 := 49) d_Land_potForce_46 rfl ⟨_, fo_Land_39⟩ (shLa_0 hLd0) (ltLa_0 hLd0) (rfLa_13 ld hLd0) ?_
    refine g_iconst (pc1 := 50) (v := 3) d_Land_potForce_49 rfl (by decide) ?_
    refine g_iload (pc1 := 52) d_Land_potForce_50 rfl 4 rfl ?_
    refine g_callV0 (pc1 := 55) (As := [.int 3, .int p4]) (rest := []) d_Land_potForce_52 rfl mo_Land_97 mi_Law_let mv_Law_let rfl (shLw_0 (isLw_9 hLd0)) (ltLw_0 (isLw_9 hLd0)) (by decide) rfl rfl (Nat.le_of_ble_eq_true rfl) ?_
    obtain ⟨M11, hq10, h⟩ := bnd h
    refine f_Law_let hld (isLw_9 hLd0) hq10 ?_
    dsimp only [psh]
    refine g_aload_n (pc1 := 56) d_Land_potForce_55 rfl 0 rfl ?_
    refine g_getr (pc1 := 59) d_Land_potForce_56 rfl ⟨_, fo_Land_39⟩ (shLa_0 hLd0) (ltLa_0 hLd0) (rfLa_13 ld hLd0) ?_
    refine g_iconst (pc1 := 60) (v := 4) d_Land_potForce_59 rfl (by decide) ?_
    refine g_iload (pc1 := 62) d_Land_potForce_60 rfl 5 rfl ?_
    refine g_callV0 (pc1 := 65) (As := [.int 4, .int p5]) (rest := []) d_Land_potForce_62 rfl mo_Land_97 mi_Law_let mv_Law_let rfl (shLw_0 (isLw_9 hLd0)) (ltLw_0 (isLw_9 hLd0)) (by decide) rfl rfl (Nat.le_of_ble_eq_true rfl) ?_
    obtain ⟨M13, hq12, h⟩ := bnd h
    refine f_Law_let hld (isLw_9 hLd0) hq12 ?_
    dsimp only [psh]
    refine g_aload_n (pc1 := 66) d_Land_potForce_65 rfl 0 rfl ?_
    refine g_getr (pc1 := 69) d_Land_potForce_66 rfl ⟨_, fo_Land_39⟩ (shLa_0 hLd0) (ltLa_0 hLd0) (rfLa_13 ld hLd0) ?_
    refine g_callV0 (pc1 := 72) (As := []) (rest := []) d_Land_potForce_69 rfl mo_Land_101 mi_Law_value mv_Law_value rfl (shLw_0 (isLw_9 hLd0)) (ltLw_0 (isLw_9 hLd0)) (by decide) rfl rfl (Nat.le_of_ble_eq_true rfl) ?_
    obtain ⟨r15, M16, hq14, h⟩ := bnd2 h
    refine f_Law_value hld (isLw_9 hLd0) hq14 ?_
    dsimp only [psh]
    refine g_iconst (pc1 := 73) (v := 0) d_Land_potForce_72 rfl (by decide) ?_
    refine g_bipush (pc1 := 75) (v := 99) d_Land_potForce_73 rfl (by decide) ?_
    refine g_callS0 (pc1 := 78) (As := [.int r15, .int 0, .int 99]) (rest := []) d_Land_potForce_75 rfl mo_Land_93 ms_Main_within (by decide) rfl rfl (Nat.le_of_ble_eq_true rfl) ?_
    obtain ⟨r18, hq17, h⟩ := bnd h
    refine f_Main_within hld  hq17 ?_
    dsimp only [psh]
    refine g_ireturn (Or.inl rfl) d_Land_potForce_78 rfl ?_
    cases h; exact hQ
  · replace h := itp h c3
    refine g_iload_n (pc1 := 11) d_Land_potForce_10 rfl 2 rfl ?_
    refine g_iconst (pc1 := 12) (v := 0) d_Land_potForce_11 rfl (by decide) ?_
    refine g_bipush (pc1 := 14) (v := 99) d_Land_potForce_12 rfl (by decide) ?_
    refine g_callS0 (pc1 := 17) (As := [.int p2, .int 0, .int 99]) (rest := []) d_Land_potForce_14 rfl mo_Land_93 ms_Main_within (by decide) rfl rfl (Nat.le_of_ble_eq_true rfl) ?_
    obtain ⟨r20, hq19, h⟩ := bnd h
    refine f_Main_within hld  hq19 ?_
    dsimp only [psh]
    refine g_ireturn (Or.inl rfl) d_Land_potForce_17 rfl ?_
    cases h; exact hQ

def B_Land_priceOf_4 (Ld0 : Nat) (v1 : Int32) (M : gM) (K4 : Int32 → Int32 → Option (Int32)) : Int32 → Int32 → Option (Int32) := fun v2 v3 =>
  (if (M Ld0 0) ≤ v3 then some v2 else bI (F_Land_inDish Ld0 v1 v3 M) (fun r3 => bI (F_Main_at (Ld0 + 2) 6 v3 M) (fun r5 => nmI (v2 + (r3 * r5)) (fun x6 => nmI (v3 + 1) (fun x7 => K4 x6 x7)))))
def H_Land_priceOf_4 (Ld0 : Nat) (v1 : Int32) (M : gM) : Nat → Int32 → Int32 → Option (Int32) := lpK (B_Land_priceOf_4 Ld0 v1 M) (fun _ _ => none)
set_option maxHeartbeats 4000000 in
set_option maxRecDepth 20000 in
theorem h_Land_priceOf_4 {l : Launch} {ld : Nat} {Q : Option Value → gM → gL → gR → Prop} (hld : isLa ld) {Ld0 : Nat} (hLd0 : isLa Ld0) {q : Int32} {M : gM} {L : gL} (hQ : Q (some (.int q)) M L (rf ld))  {v1 : Int32}  : ∀ (f : Nat) (v2 : Int32) (v3 : Int32), H_Land_priceOf_4 Ld0 v1 M f v2 v3 = some q → Wp l y_Land_priceOf (0, 0, 447) 447 0 0 4 [(0, .ref Ld0), (1, .int v1), (2, .int v2), (3, .int v3)] [] M L (rf ld) Q := by
  intro f
  induction f with
  | zero => intro v2 v3 h; cases h
  | succ f hK4 =>
    intro v2 v3 h
    replace h : B_Land_priceOf_4 Ld0 v1 M (H_Land_priceOf_4 Ld0 v1 M f) v2 v3 = some q := h
    unfold B_Land_priceOf_4 at h
    refine g_iload_n (pc1 := 5) d_Land_priceOf_4 rfl 3 rfl ?_
    refine g_aload_n (pc1 := 6) d_Land_priceOf_5 rfl 0 rfl ?_
    refine g_geti (pc1 := 9) d_Land_priceOf_6 rfl ⟨_, fo_Land_55⟩ (shLa_0 hLd0) (ltLa_0 hLd0) ?_
    refine g_icmp_ge (pc1 := 12) (tgt := 36) d_Land_priceOf_9 (by decide) rfl (fun c1 => ?_) (fun c1 => ?_)
    · replace h := itp h c1
      refine g_iload_n (pc1 := 37) d_Land_priceOf_36 rfl 2 rfl ?_
      refine g_ireturn (Or.inl rfl) d_Land_priceOf_37 rfl ?_
      cases h; exact hQ
    · replace h := itn h c1
      refine g_iload_n (pc1 := 13) d_Land_priceOf_12 rfl 2 rfl ?_
      refine g_aload_n (pc1 := 14) d_Land_priceOf_13 rfl 0 rfl ?_
      refine g_iload_n (pc1 := 15) d_Land_priceOf_14 rfl 1 rfl ?_
      refine g_iload_n (pc1 := 16) d_Land_priceOf_15 rfl 3 rfl ?_
      refine g_callV0 (pc1 := 19) (As := [.int v1, .int v3]) (rest := [.int v2]) d_Land_priceOf_16 rfl mo_Land_82 mi_Land_inDish mv_Land_inDish rfl (shLa_0 hLd0) (ltLa_0 hLd0) (by decide) rfl rfl (Nat.le_of_ble_eq_true rfl) ?_
      obtain ⟨r3, hq2, h⟩ := bnd h
      refine f_Land_inDish hld hLd0 hq2 ?_
      dsimp only [psh]
      refine g_aload_n (pc1 := 20) d_Land_priceOf_19 rfl 0 rfl ?_
      refine g_getr (pc1 := 23) d_Land_priceOf_20 rfl ⟨_, fo_Land_15⟩ (shLa_0 hLd0) (ltLa_0 hLd0) (rfLa_6 ld hLd0) ?_
      refine g_iload_n (pc1 := 24) d_Land_priceOf_23 rfl 3 rfl ?_
      refine g_callS0 (pc1 := 27) (As := [.ref (Ld0 + 2), .int v3]) (rest := [.int r3, .int v2]) d_Land_priceOf_24 rfl mo_Land_78 ms_Main_at (by decide) rfl rfl (Nat.le_of_ble_eq_true rfl) ?_
      obtain ⟨r5, hq4, h⟩ := bnd h
      refine f_Main_at hld (shLa_2 hLd0) (ltLa_2 hLd0) (by decide) hq4 ?_
      dsimp only [psh]
      refine g_imul (pc1 := 28) d_Land_priceOf_27 rfl ?_
      refine g_iadd (pc1 := 29) d_Land_priceOf_28 rfl ?_
      refine Wp.lI h (fun x6 h => ?_)
      refine g_istore_n (pc1 := 30) (lv' := [(0, .ref Ld0), (1, .int v1), (2, .int x6), (3, .int v3)]) d_Land_priceOf_29 rfl rfl (by decide) [1, 2, 0, 3] rfl ?_
      obtain ⟨x7, ex7, h⟩ := ltI h
      refine g_iinc (pc1 := 33) (v := x7) (lv' := [(0, .ref Ld0), (1, .int v1), (2, .int x6), (3, .int x7)]) d_Land_priceOf_30 rfl 3 rfl (by rw [ex7]; rfl) (by decide) [1, 2, 3, 0] rfl ?_
      refine g_goto (tgt := 4) d_Land_priceOf_33 (by decide) ?_
      exact hK4 x6 x7 h
def F_Land_priceOf (Ld0 : Nat) (p1 : Int32) (M : gM) : Option (Int32) :=
  H_Land_priceOf_4 Ld0 p1 M FU 0 0
set_option maxHeartbeats 4000000 in
set_option maxRecDepth 20000 in
theorem f_Land_priceOf {l : Launch} {ld : Nat} {M : gM} {L : gL} {Q : Option Value → gM → gL → gR → Prop} (hld : isLa ld) {Ld0 : Nat} {p1 : Int32} (hLd0 : isLa Ld0) {q : Int32} (h : F_Land_priceOf Ld0 p1 M = some q) (hQ : Q (some (.int q)) M L (rf ld)) : Tm l y_Land_priceOf (0, 0, 447) 447 [.ref Ld0, .int p1] M L (rf ld) Q := by
  refine Tm.of (by decide) (Nat.le_of_ble_eq_true rfl) ?_
  show Wp l y_Land_priceOf (0, 0, 447) 447 0 0 0 [(0, .ref Ld0), (1, .int p1)] [] M L (rf ld) Q
  unfold F_Land_priceOf at h
  refine g_iconst (pc1 := 1) (v := 0) d_Land_priceOf_0 rfl (by decide) ?_
  refine g_istore_n (pc1 := 2) (lv' := [(0, .ref Ld0), (1, .int p1), (2, .int 0)]) d_Land_priceOf_1 rfl rfl (by decide) [1, 2, 0] rfl ?_
  refine g_iconst (pc1 := 3) (v := 0) d_Land_priceOf_2 rfl (by decide) ?_
  refine g_istore_n (pc1 := 4) (lv' := [(0, .ref Ld0), (1, .int p1), (2, .int 0), (3, .int 0)]) d_Land_priceOf_3 rfl rfl (by decide) [1, 2, 3, 0] rfl ?_
  exact h_Land_priceOf_4 hld hLd0 hQ  _ 0 0 h

def B_Land_sumOf_5 (Ld0 : Nat) (v1 : Int32) (v2 : Int32) (M : gM) (K5 : Int32 → Int32 → Option (Int32)) : Int32 → Int32 → Option (Int32) := fun v3 v4 =>
  (if (M Ld0 0) ≤ v4 then some v3 else bI (F_Land_inDish Ld0 v1 v4 M) (fun r3 => bI (F_Land_broughtBy Ld0 v4 v2 M) (fun r5 => nmI (v3 + (r3 * r5)) (fun x6 => nmI (v4 + 1) (fun x7 => K5 x6 x7)))))
def H_Land_sumOf_5 (Ld0 : Nat) (v1 : Int32) (v2 : Int32) (M : gM) : Nat → Int32 → Int32 → Option (Int32) := lpK (B_Land_sumOf_5 Ld0 v1 v2 M) (fun _ _ => none)
set_option maxHeartbeats 4000000 in
set_option maxRecDepth 20000 in
theorem h_Land_sumOf_5 {l : Launch} {ld : Nat} {Q : Option Value → gM → gL → gR → Prop} (hld : isLa ld) {Ld0 : Nat} (hLd0 : isLa Ld0) {q : Int32} {M : gM} {L : gL} (hQ : Q (some (.int q)) M L (rf ld))  {v1 : Int32} {v2 : Int32}  : ∀ (f : Nat) (v3 : Int32) (v4 : Int32), H_Land_sumOf_5 Ld0 v1 v2 M f v3 v4 = some q → Wp l y_Land_sumOf (0, 0, 447) 447 0 0 5 [(0, .ref Ld0), (1, .int v1), (2, .int v2), (3, .int v3), (4, .int v4)] [] M L (rf ld) Q := by
  intro f
  induction f with
  | zero => intro v3 v4 h; cases h
  | succ f hK5 =>
    intro v3 v4 h
    replace h : B_Land_sumOf_5 Ld0 v1 v2 M (H_Land_sumOf_5 Ld0 v1 v2 M f) v3 v4 = some q := h
    unfold B_Land_sumOf_5 at h
    refine g_iload (pc1 := 7) d_Land_sumOf_5 rfl 4 rfl ?_
    refine g_aload_n (pc1 := 8) d_Land_sumOf_7 rfl 0 rfl ?_
    refine g_geti (pc1 := 11) d_Land_sumOf_8 rfl ⟨_, fo_Land_55⟩ (shLa_0 hLd0) (ltLa_0 hLd0) ?_
    refine g_icmp_ge (pc1 := 14) (tgt := 38) d_Land_sumOf_11 (by decide) rfl (fun c1 => ?_) (fun c1 => ?_)
    · replace h := itp h c1
      refine g_iload_n (pc1 := 39) d_Land_sumOf_38 rfl 3 rfl ?_
      refine g_ireturn (Or.inl rfl) d_Land_sumOf_39 rfl ?_
      cases h; exact hQ
    · replace h := itn h c1
      refine g_iload_n (pc1 := 15) d_Land_sumOf_14 rfl 3 rfl ?_
      refine g_aload_n (pc1 := 16) d_Land_sumOf_15 rfl 0 rfl ?_
      refine g_iload_n (pc1 := 17) d_Land_sumOf_16 rfl 1 rfl ?_
      refine g_iload (pc1 := 19) d_Land_sumOf_17 rfl 4 rfl ?_
      refine g_callV0 (pc1 := 22) (As := [.int v1, .int v4]) (rest := [.int v3]) d_Land_sumOf_19 rfl mo_Land_82 mi_Land_inDish mv_Land_inDish rfl (shLa_0 hLd0) (ltLa_0 hLd0) (by decide) rfl rfl (Nat.le_of_ble_eq_true rfl) ?_
      obtain ⟨r3, hq2, h⟩ := bnd h
      refine f_Land_inDish hld hLd0 hq2 ?_
      dsimp only [psh]
      refine g_aload_n (pc1 := 23) d_Land_sumOf_22 rfl 0 rfl ?_
      refine g_iload (pc1 := 25) d_Land_sumOf_23 rfl 4 rfl ?_
      refine g_iload_n (pc1 := 26) d_Land_sumOf_25 rfl 2 rfl ?_
      refine g_callV0 (pc1 := 29) (As := [.int v4, .int v2]) (rest := [.int r3, .int v3]) d_Land_sumOf_26 rfl mo_Land_86 mi_Land_broughtBy mv_Land_broughtBy rfl (shLa_0 hLd0) (ltLa_0 hLd0) (by decide) rfl rfl (Nat.le_of_ble_eq_true rfl) ?_
      obtain ⟨r5, hq4, h⟩ := bnd h
      refine f_Land_broughtBy hld hLd0 hq4 ?_
      dsimp only [psh]
      refine g_imul (pc1 := 30) d_Land_sumOf_29 rfl ?_
      refine g_iadd (pc1 := 31) d_Land_sumOf_30 rfl ?_
      refine Wp.lI h (fun x6 h => ?_)
      refine g_istore_n (pc1 := 32) (lv' := [(0, .ref Ld0), (1, .int v1), (2, .int v2), (3, .int x6), (4, .int v4)]) d_Land_sumOf_31 rfl rfl (by decide) [1, 2, 3, 0, 4] rfl ?_
      obtain ⟨x7, ex7, h⟩ := ltI h
      refine g_iinc (pc1 := 35) (v := x7) (lv' := [(0, .ref Ld0), (1, .int v1), (2, .int v2), (3, .int x6), (4, .int x7)]) d_Land_sumOf_32 rfl 4 rfl (by rw [ex7]; rfl) (by decide) [1, 2, 3, 4, 0] rfl ?_
      refine g_goto (tgt := 5) d_Land_sumOf_35 (by decide) ?_
      exact hK5 x6 x7 h
def F_Land_sumOf (Ld0 : Nat) (p1 : Int32) (p2 : Int32) (M : gM) : Option (Int32) :=
  H_Land_sumOf_5 Ld0 p1 p2 M FU 0 0
set_option maxHeartbeats 4000000 in
set_option maxRecDepth 20000 in
theorem f_Land_sumOf {l : Launch} {ld : Nat} {M : gM} {L : gL} {Q : Option Value → gM → gL → gR → Prop} (hld : isLa ld) {Ld0 : Nat} {p1 : Int32} {p2 : Int32} (hLd0 : isLa Ld0) {q : Int32} (h : F_Land_sumOf Ld0 p1 p2 M = some q) (hQ : Q (some (.int q)) M L (rf ld)) : Tm l y_Land_sumOf (0, 0, 447) 447 [.ref Ld0, .int p1, .int p2] M L (rf ld) Q := by
  refine Tm.of (by decide) (Nat.le_of_ble_eq_true rfl) ?_
  show Wp l y_Land_sumOf (0, 0, 447) 447 0 0 0 [(0, .ref Ld0), (1, .int p1), (2, .int p2)] [] M L (rf ld) Q
  unfold F_Land_sumOf at h
  refine g_iconst (pc1 := 1) (v := 0) d_Land_sumOf_0 rfl (by decide) ?_
  refine g_istore_n (pc1 := 2) (lv' := [(0, .ref Ld0), (1, .int p1), (2, .int p2), (3, .int 0)]) d_Land_sumOf_1 rfl rfl (by decide) [1, 2, 3, 0] rfl ?_
  refine g_iconst (pc1 := 3) (v := 0) d_Land_sumOf_2 rfl (by decide) ?_
  refine g_istore (pc1 := 5) (lv' := [(0, .ref Ld0), (1, .int p1), (2, .int p2), (3, .int 0), (4, .int 0)]) d_Land_sumOf_3 rfl (by decide) [1, 2, 3, 4, 0] rfl ?_
  exact h_Land_sumOf_5 hld hLd0 hQ  _ 0 0 h

def J_MenuSearch_mealsIfAllFree_44 (K10 : Int32 → Int32 → Int32 → Int32 → Option (Int32)) (v1 : Int32) (v2 : Int32) (v3 : Int32) (v4 : Int32) (v5 : Int32) (M : gM) : Option (Int32) :=
  bI (F_MenuSearch_isFree v5 v3 v4 M) (fun r6 => (if r6 = 0 then some (-1) else nmI (v5 + 1) (fun x8 => K10 v2 v3 v4 x8)))
set_option maxHeartbeats 4000000 in
set_option maxRecDepth 20000 in
theorem j_MenuSearch_mealsIfAllFree_44 {l : Launch} {ld : Nat} {Q : Option Value → gM → gL → gR → Prop} (hld : isLa ld)   {q : Int32} {M : gM} {L : gL} (hQ : Q (some (.int q)) M L (rf ld)) {K10 : Int32 → Int32 → Int32 → Int32 → Option (Int32)} {v1 : Int32} {v2 : Int32} {v3 : Int32} {v4 : Int32} {v5 : Int32} (hK10 : ∀ (w2 : Int32) (w3 : Int32) (w4 : Int32) (w5 : Int32), K10 w2 w3 w4 w5 = some q → Wp l y_MenuSearch_mealsIfAllFree (0, 0, 447) 447 0 0 10 [(0, .ref 396), (1, .int v1), (2, .int w2), (3, .int w3), (4, .int w4), (5, .int w5)] [] M L (rf ld) Q) (h : J_MenuSearch_mealsIfAllFree_44 K10 v1 v2 v3 v4 v5 M = some q) : Wp l y_MenuSearch_mealsIfAllFree (0, 0, 447) 447 0 0 44 [(0, .ref 396), (1, .int v1), (2, .int v2), (3, .int v3), (4, .int v4), (5, .int v5)] [] M L (rf ld) Q := by
  unfold J_MenuSearch_mealsIfAllFree_44 at h
  refine g_aload_n (pc1 := 45) d_MenuSearch_mealsIfAllFree_44 rfl 0 rfl ?_
  refine g_iload (pc1 := 47) d_MenuSearch_mealsIfAllFree_45 rfl 5 rfl ?_
  refine g_iload_n (pc1 := 48) d_MenuSearch_mealsIfAllFree_47 rfl 3 rfl ?_
  refine g_iload (pc1 := 50) d_MenuSearch_mealsIfAllFree_48 rfl 4 rfl ?_
  refine g_callV0 (pc1 := 53) (As := [.int v5, .int v3, .int v4]) (rest := []) d_MenuSearch_mealsIfAllFree_50 rfl mo_MenuSearch_79 mi_MenuSearch_isFree mv_MenuSearch_isFree rfl sh_396 (by decide) (by decide) rfl rfl (Nat.le_of_ble_eq_true rfl) ?_
  obtain ⟨r6, hq5, h⟩ := bnd h
  refine f_MenuSearch_isFree hld  hq5 ?_
  dsimp only [psh]
  refine g_if_ne (pc1 := 56) (tgt := 58) d_MenuSearch_mealsIfAllFree_53 (by decide) rfl (fun c7 => ?_) (fun c7 => ?_)
  · replace h := itn h c7
    obtain ⟨x8, ex8, h⟩ := ltI h
    refine g_iinc (pc1 := 61) (v := x8) (lv' := [(0, .ref 396), (1, .int v1), (2, .int v2), (3, .int v3), (4, .int v4), (5, .int x8)]) d_MenuSearch_mealsIfAllFree_58 rfl 5 rfl (by rw [ex8]; rfl) (by decide) [1, 2, 3, 4, 5, 0] rfl ?_
    refine g_goto (tgt := 10) d_MenuSearch_mealsIfAllFree_61 (by decide) ?_
    exact hK10 v2 v3 v4 x8 h
  · replace h := itp h c7
    refine g_iconst (pc1 := 57) (v := (-1)) d_MenuSearch_mealsIfAllFree_56 rfl (by decide) ?_
    refine g_ireturn (Or.inl rfl) d_MenuSearch_mealsIfAllFree_57 rfl ?_
    cases h; exact hQ
def B_MenuSearch_mealsIfAllFree_10 (v1 : Int32) (M : gM) (K10 : Int32 → Int32 → Int32 → Int32 → Option (Int32)) : Int32 → Int32 → Int32 → Int32 → Option (Int32) := fun v2 v3 v4 v5 =>
  (if v1 ≤ v5 then some v2 else bI (F_Main_at 399 4 v5 M) (fun r3 => (if r3 ≤ 0 then J_MenuSearch_mealsIfAllFree_44 K10 v1 v2 v3 v4 v5 M else nmI (v2 + 1) (fun x9 => nmI (r3 - 1) (fun x10 => J_MenuSearch_mealsIfAllFree_44 K10 v1 x9 v5 x10 v5 M)))))
def H_MenuSearch_mealsIfAllFree_10 (v1 : Int32) (M : gM) : Nat → Int32 → Int32 → Int32 → Int32 → Option (Int32) := lpK (B_MenuSearch_mealsIfAllFree_10 v1 M) (fun _ _ _ _ => none)
set_option maxHeartbeats 4000000 in
set_option maxRecDepth 20000 in
theorem h_MenuSearch_mealsIfAllFree_10 {l : Launch} {ld : Nat} {Q : Option Value → gM → gL → gR → Prop} (hld : isLa ld)   {q : Int32} {M : gM} {L : gL} (hQ : Q (some (.int q)) M L (rf ld))  {v1 : Int32}  : ∀ (f : Nat) (v2 : Int32) (v3 : Int32) (v4 : Int32) (v5 : Int32), H_MenuSearch_mealsIfAllFree_10 v1 M f v2 v3 v4 v5 = some q → Wp l y_MenuSearch_mealsIfAllFree (0, 0, 447) 447 0 0 10 [(0, .ref 396), (1, .int v1), (2, .int v2), (3, .int v3), (4, .int v4), (5, .int v5)] [] M L (rf ld) Q := by
  intro f
  induction f with
  | zero => intro v2 v3 v4 v5 h; cases h
  | succ f hK10 =>
    intro v2 v3 v4 v5 h
    replace h : B_MenuSearch_mealsIfAllFree_10 v1 M (H_MenuSearch_mealsIfAllFree_10 v1 M f) v2 v3 v4 v5 = some q := h
    unfold B_MenuSearch_mealsIfAllFree_10 at h
    refine g_iload (pc1 := 12) d_MenuSearch_mealsIfAllFree_10 rfl 5 rfl ?_
    refine g_iload_n (pc1 := 13) d_MenuSearch_mealsIfAllFree_12 rfl 1 rfl ?_
    refine g_icmp_ge (pc1 := 16) (tgt := 64) d_MenuSearch_mealsIfAllFree_13 (by decide) rfl (fun c1 => ?_) (fun c1 => ?_)
    · replace h := itp h c1
      refine g_iload_n (pc1 := 65) d_MenuSearch_mealsIfAllFree_64 rfl 2 rfl ?_
      refine g_ireturn (Or.inl rfl) d_MenuSearch_mealsIfAllFree_65 rfl ?_
      cases h; exact hQ
    · replace h := itn h c1
      refine g_aload_n (pc1 := 17) d_MenuSearch_mealsIfAllFree_16 rfl 0 rfl ?_
      refine g_getr (pc1 := 20) d_MenuSearch_mealsIfAllFree_17 rfl ⟨_, fo_MenuSearch_18⟩ sh_396 (by decide) (rf_396_2 ld) ?_
      refine g_iload (pc1 := 22) d_MenuSearch_mealsIfAllFree_20 rfl 5 rfl ?_
      refine g_callS0 (pc1 := 25) (As := [.ref 399, .int v5]) (rest := []) d_MenuSearch_mealsIfAllFree_22 rfl mo_MenuSearch_75 ms_Main_at (by decide) rfl rfl (Nat.le_of_ble_eq_true rfl) ?_
      obtain ⟨r3, hq2, h⟩ := bnd h
      refine f_Main_at hld sh_399 (by decide) (by decide) hq2 ?_
      dsimp only [psh]
      refine g_istore (pc1 := 27) (lv' := [(0, .ref 396), (1, .int v1), (2, .int v2), (3, .int v3), (4, .int v4), (5, .int v5), (6, .int r3)]) d_MenuSearch_mealsIfAllFree_25 rfl (by decide) [1, 2, 3, 4, 5, 6, 0] rfl ?_
      refine g_iload (pc1 := 29) d_MenuSearch_mealsIfAllFree_27 rfl 6 rfl ?_
      refine g_if_le (pc1 := 32) (tgt := 44) d_MenuSearch_mealsIfAllFree_29 (by decide) rfl (fun c4 => ?_) (fun c4 => ?_)
      · replace h := itp h c4
        refine Wp.loc (lv' := [(0, .ref 396), (1, .int v1), (2, .int v2), (3, .int v3), (4, .int v4), (5, .int v5)]) [0, 1, 2, 3, 4, 5] rfl ?_
        exact j_MenuSearch_mealsIfAllFree_44 hld  hQ hK10 h
      · replace h := itn h c4
        obtain ⟨x9, ex9, h⟩ := ltI h
        refine g_iinc (pc1 := 35) (v := x9) (lv' := [(0, .ref 396), (1, .int v1), (2, .int x9), (3, .int v3), (4, .int v4), (5, .int v5), (6, .int r3)]) d_MenuSearch_mealsIfAllFree_32 rfl 2 rfl (by rw [ex9]; rfl) (by decide) [1, 2, 0, 3, 4, 5, 6] rfl ?_
        refine g_iload (pc1 := 37) d_MenuSearch_mealsIfAllFree_35 rfl 5 rfl ?_
        refine g_istore_n (pc1 := 38) (lv' := [(0, .ref 396), (1, .int v1), (2, .int x9), (3, .int v5), (4, .int v4), (5, .int v5), (6, .int r3)]) d_MenuSearch_mealsIfAllFree_37 rfl rfl (by decide) [1, 2, 3, 0, 4, 5, 6] rfl ?_
        refine g_iload (pc1 := 40) d_MenuSearch_mealsIfAllFree_38 rfl 6 rfl ?_
        refine g_iconst (pc1 := 41) (v := 1) d_MenuSearch_mealsIfAllFree_40 rfl (by decide) ?_
        refine g_isub (pc1 := 42) d_MenuSearch_mealsIfAllFree_41 rfl ?_
        refine Wp.lI h (fun x10 h => ?_)
        refine g_istore (pc1 := 44) (lv' := [(0, .ref 396), (1, .int v1), (2, .int x9), (3, .int v5), (4, .int x10), (5, .int v5), (6, .int r3)]) d_MenuSearch_mealsIfAllFree_42 rfl (by decide) [1, 2, 3, 4, 0, 5, 6] rfl ?_
        refine Wp.loc (lv' := [(0, .ref 396), (1, .int v1), (2, .int x9), (3, .int v5), (4, .int x10), (5, .int v5)]) [0, 1, 2, 3, 4, 5] rfl ?_
        exact j_MenuSearch_mealsIfAllFree_44 hld  hQ hK10 h
def F_MenuSearch_mealsIfAllFree (p1 : Int32) (M : gM) : Option (Int32) :=
  H_MenuSearch_mealsIfAllFree_10 p1 M FU 0 0 (-1) 0
set_option maxHeartbeats 4000000 in
set_option maxRecDepth 20000 in
theorem f_MenuSearch_mealsIfAllFree {l : Launch} {ld : Nat} {M : gM} {L : gL} {Q : Option Value → gM → gL → gR → Prop} (hld : isLa ld) {p1 : Int32}  {q : Int32} (h : F_MenuSearch_mealsIfAllFree p1 M = some q) (hQ : Q (some (.int q)) M L (rf ld)) : Tm l y_MenuSearch_mealsIfAllFree (0, 0, 447) 447 [.ref 396, .int p1] M L (rf ld) Q := by
  refine Tm.of (by decide) (Nat.le_of_ble_eq_true rfl) ?_
  show Wp l y_MenuSearch_mealsIfAllFree (0, 0, 447) 447 0 0 0 [(0, .ref 396), (1, .int p1)] [] M L (rf ld) Q
  unfold F_MenuSearch_mealsIfAllFree at h
  refine g_iconst (pc1 := 1) (v := 0) d_MenuSearch_mealsIfAllFree_0 rfl (by decide) ?_
  refine g_istore_n (pc1 := 2) (lv' := [(0, .ref 396), (1, .int p1), (2, .int 0)]) d_MenuSearch_mealsIfAllFree_1 rfl rfl (by decide) [1, 2, 0] rfl ?_
  refine g_iconst (pc1 := 3) (v := 0) d_MenuSearch_mealsIfAllFree_2 rfl (by decide) ?_
  refine g_istore_n (pc1 := 4) (lv' := [(0, .ref 396), (1, .int p1), (2, .int 0), (3, .int 0)]) d_MenuSearch_mealsIfAllFree_3 rfl rfl (by decide) [1, 2, 3, 0] rfl ?_
  refine g_iconst (pc1 := 5) (v := (-1)) d_MenuSearch_mealsIfAllFree_4 rfl (by decide) ?_
  refine g_istore (pc1 := 7) (lv' := [(0, .ref 396), (1, .int p1), (2, .int 0), (3, .int 0), (4, .int (-1))]) d_MenuSearch_mealsIfAllFree_5 rfl (by decide) [1, 2, 3, 4, 0] rfl ?_
  refine g_iconst (pc1 := 8) (v := 0) d_MenuSearch_mealsIfAllFree_7 rfl (by decide) ?_
  refine g_istore (pc1 := 10) (lv' := [(0, .ref 396), (1, .int p1), (2, .int 0), (3, .int 0), (4, .int (-1)), (5, .int 0)]) d_MenuSearch_mealsIfAllFree_8 rfl (by decide) [1, 2, 3, 4, 5, 0] rfl ?_
  exact h_MenuSearch_mealsIfAllFree_10 hld  hQ  _ 0 0 (-1) 0 h

def J_Past_keep_67 (X1 : Nat) (s1 : Int32) (M : gM) : Option (gM) :=
  nmM (uM M 78 1 s1) (fun M8 => nmM (uM M8 78 2 (if ((M8 78 2) + 1) < 40 then ((M8 78 2) + 1) else 40)) (fun M9 => some M9))
set_option maxHeartbeats 4000000 in
set_option maxRecDepth 20000 in
theorem j_Past_keep_67 {l : Launch} {ld : Nat} {Q : Option Value → gM → gL → gR → Prop} (hld : isLa ld) {X1 : Nat} (hX1 : isSt X1) {q : gM} {M : gM} {L : gL} (hQ : Q none q L (rf ld))  {s1 : Int32}  (h : J_Past_keep_67 X1 s1 M = some q) : Wp l y_Past_keep (0, 0, 447) 447 0 0 67 [(0, .ref 78)] [.int s1, .ref 78] M L (rf ld) Q := by
  unfold J_Past_keep_67 at h
  refine g_puti (pc1 := 70) d_Past_keep_67 rfl fo_Past_18 (po_7_1 _) sh_78 (by decide) ?_
  refine Wp.lM h (fun M8 h => ?_)
  refine g_aload_n (pc1 := 71) d_Past_keep_70 rfl 0 rfl ?_
  refine g_bipush (pc1 := 73) (v := 40) d_Past_keep_71 rfl (by decide) ?_
  refine g_aload_n (pc1 := 74) d_Past_keep_73 rfl 0 rfl ?_
  refine g_geti (pc1 := 77) d_Past_keep_74 rfl ⟨_, fo_Past_22⟩ sh_78 (by decide) ?_
  refine g_iconst (pc1 := 78) (v := 1) d_Past_keep_77 rfl (by decide) ?_
  refine g_iadd (pc1 := 79) d_Past_keep_78 rfl ?_
  refine g_mmin (pc1 := 82) d_Past_keep_79 rfl mm_Past_29 (by decide) ⟨Nat.le_refl 0, Nat.le_refl 0⟩ (Nat.le_of_ble_eq_true rfl) ?_
  refine g_puti (pc1 := 85) d_Past_keep_82 rfl fo_Past_22 (po_7_2 _) sh_78 (by decide) ?_
  refine Wp.lM h (fun M9 h => ?_)
  refine g_return rfl d_Past_keep_85 rfl ?_
  cases h; exact hQ
def F_Past_keep (X1 : Nat) (M : gM) : Option (gM) :=
  (if (M 78 1) < 0 then some M else (if 40 ≤ (M 78 1) then some M else (if ((M 78 1) : Int32) < 0 ∨ 40 ≤ ((M 78 1) : Int32).toNatClampNeg then none else (if ((M 78 1) : Int32) < 0 ∨ 40 ≤ ((M 78 1) : Int32).toNatClampNeg then none else bI (F_State_copyFrom (80 + 7 * ((M 78 1) : Int32).toNatClampNeg) X1 M) (fun M6 => (if 40 ≤ ((M6 78 1) + 1) then J_Past_keep_67 X1 0 M6 else J_Past_keep_67 X1 ((M6 78 1) + 1) M6))))))
set_option maxHeartbeats 4000000 in
set_option maxRecDepth 20000 in
theorem f_Past_keep {l : Launch} {ld : Nat} {M : gM} {L : gL} {Q : Option Value → gM → gL → gR → Prop} (hld : isLa ld) {X1 : Nat} (hX1 : isSt X1) {q : gM} (h : F_Past_keep X1 M = some q) (hQ : Q none q L (rf ld)) : Tm l y_Past_keep (0, 0, 447) 447 [.ref 78, .ref X1] M L (rf ld) Q := by
  refine Tm.of (by decide) (Nat.le_of_ble_eq_true rfl) ?_
  show Wp l y_Past_keep (0, 0, 447) 447 0 0 0 [(0, .ref 78), (1, .ref X1)] [] M L (rf ld) Q
  unfold F_Past_keep at h
  refine g_aload_n (pc1 := 1) d_Past_keep_0 rfl 0 rfl ?_
  refine g_geti (pc1 := 4) d_Past_keep_1 rfl ⟨_, fo_Past_18⟩ sh_78 (by decide) ?_
  refine g_if_lt (pc1 := 7) (tgt := 31) d_Past_keep_4 (by decide) rfl (fun c1 => ?_) (fun c1 => ?_)
  · replace h := itp h c1
    refine g_return rfl d_Past_keep_31 rfl ?_
    cases h; exact hQ
  · replace h := itn h c1
    refine g_aload_n (pc1 := 8) d_Past_keep_7 rfl 0 rfl ?_
    refine g_geti (pc1 := 11) d_Past_keep_8 rfl ⟨_, fo_Past_18⟩ sh_78 (by decide) ?_
    refine g_aload_n (pc1 := 12) d_Past_keep_11 rfl 0 rfl ?_
    refine g_getr (pc1 := 15) d_Past_keep_12 rfl ⟨_, fo_Past_11⟩ sh_78 (by decide) (rf_78_0 ld) ?_
    refine g_alen (pc1 := 16) (v := 40) d_Past_keep_15 rfl sh_79 (by decide) (by decide) (by decide) (by decide) ?_
    refine g_icmp_ge (pc1 := 19) (tgt := 31) d_Past_keep_16 (by decide) rfl (fun c2 => ?_) (fun c2 => ?_)
    · replace h := itp h c2
      refine g_return rfl d_Past_keep_31 rfl ?_
      cases h; exact hQ
    · replace h := itn h c2
      refine g_aload_n (pc1 := 20) d_Past_keep_19 rfl 0 rfl ?_
      refine g_getr (pc1 := 23) d_Past_keep_20 rfl ⟨_, fo_Past_11⟩ sh_78 (by decide) (rf_78_0 ld) ?_
      refine g_aload_n (pc1 := 24) d_Past_keep_23 rfl 0 rfl ?_
      refine g_geti (pc1 := 27) d_Past_keep_24 rfl ⟨_, fo_Past_18⟩ sh_78 (by decide) ?_
      obtain ⟨g3, h⟩ := gdn h
      refine g_aald (pc1 := 28) d_Past_keep_27 rfl sh_79 (by decide) g3 (rfA_79 ld g3).2 ?_
      refine g_nonnull (tgt := 32) d_Past_keep_28 (by decide) ?_
      refine g_aload_n (pc1 := 33) d_Past_keep_32 rfl 0 rfl ?_
      refine g_getr (pc1 := 36) d_Past_keep_33 rfl ⟨_, fo_Past_11⟩ sh_78 (by decide) (rf_78_0 ld) ?_
      refine g_aload_n (pc1 := 37) d_Past_keep_36 rfl 0 rfl ?_
      refine g_geti (pc1 := 40) d_Past_keep_37 rfl ⟨_, fo_Past_18⟩ sh_78 (by decide) ?_
      obtain ⟨g4, h⟩ := gdn h
      refine g_aald (pc1 := 41) d_Past_keep_40 rfl sh_79 (by decide) g4 (rfA_79 ld g4).2 ?_
      refine g_aload_n (pc1 := 42) d_Past_keep_41 rfl 1 rfl ?_
      refine g_callV0 (pc1 := 45) (As := [.ref X1]) (rest := []) d_Past_keep_42 rfl mo_Past_25 mi_State_copyFrom mv_State_copyFrom rfl (shSt_0 (rfA_79 ld g4).1) (ltSt_0 (rfA_79 ld g4).1) (by decide) rfl rfl (Nat.le_of_ble_eq_true rfl) ?_
      obtain ⟨M6, hq5, h⟩ := bnd h
      refine f_State_copyFrom hld (rfA_79 ld g4).1 hX1 hq5 ?_
      dsimp only [psh]
      refine g_aload_n (pc1 := 46) d_Past_keep_45 rfl 0 rfl ?_
      refine g_aload_n (pc1 := 47) d_Past_keep_46 rfl 0 rfl ?_
      refine g_geti (pc1 := 50) d_Past_keep_47 rfl ⟨_, fo_Past_18⟩ sh_78 (by decide) ?_
      refine g_iconst (pc1 := 51) (v := 1) d_Past_keep_50 rfl (by decide) ?_
      refine g_iadd (pc1 := 52) d_Past_keep_51 rfl ?_
      refine g_bipush (pc1 := 54) (v := 40) d_Past_keep_52 rfl (by decide) ?_
      refine g_icmp_ge (pc1 := 57) (tgt := 66) d_Past_keep_54 (by decide) rfl (fun c7 => ?_) (fun c7 => ?_)
      · replace h := itp h c7
        refine g_iconst (pc1 := 67) (v := 0) d_Past_keep_66 rfl (by decide) ?_
        refine Wp.loc (lv' := [(0, .ref 78)]) [0] rfl ?_
        exact j_Past_keep_67 hld hX1 hQ  h
      · replace h := itn h c7
        refine g_aload_n (pc1 := 58) d_Past_keep_57 rfl 0 rfl ?_
        refine g_geti (pc1 := 61) d_Past_keep_58 rfl ⟨_, fo_Past_18⟩ sh_78 (by decide) ?_
        refine g_iconst (pc1 := 62) (v := 1) d_Past_keep_61 rfl (by decide) ?_
        refine g_iadd (pc1 := 63) d_Past_keep_62 rfl ?_
        refine g_goto (tgt := 67) d_Past_keep_63 (by decide) ?_
        refine Wp.loc (lv' := [(0, .ref 78)]) [0] rfl ?_
        exact j_Past_keep_67 hld hX1 hQ  h

def J_Past_takeBack_18 (X1 : Nat) (s0 : Int32) (M : gM) : Option (Int32 × gM) :=
  (if (M 78 2) = 0 then some (0, M) else (if 40 ≤ s0 then some (0, M) else (if (s0 : Int32) < 0 ∨ 40 ≤ (s0 : Int32).toNatClampNeg then none else (if (s0 : Int32) < 0 ∨ 40 ≤ (s0 : Int32).toNatClampNeg then none else bI (F_State_copyFrom X1 (80 + 7 * (s0 : Int32).toNatClampNeg) M) (fun M7 => nmM (uM M7 78 1 s0) (fun M8 => nmM (uM M8 78 2 ((M8 78 2) - 1)) (fun M9 => some (1, M9))))))))
set_option maxHeartbeats 4000000 in
set_option maxRecDepth 20000 in
theorem j_Past_takeBack_18 {l : Launch} {ld : Nat} {Q : Option Value → gM → gL → gR → Prop} (hld : isLa ld) {X1 : Nat} (hX1 : isSt X1) {q : Int32 × gM} {M : gM} {L : gL} (hQ : Q (some (.int q.1)) q.2 L (rf ld))  {s0 : Int32}  (h : J_Past_takeBack_18 X1 s0 M = some q) : Wp l y_Past_takeBack (0, 0, 447) 447 0 0 18 [(0, .ref 78), (1, .ref X1)] [.int s0] M L (rf ld) Q := by
  unfold J_Past_takeBack_18 at h
  refine g_istore_n (pc1 := 19) (lv' := [(0, .ref 78), (1, .ref X1), (2, .int s0)]) d_Past_takeBack_18 rfl rfl (by decide) [1, 2, 0] rfl ?_
  refine g_aload_n (pc1 := 20) d_Past_takeBack_19 rfl 0 rfl ?_
  refine g_geti (pc1 := 23) d_Past_takeBack_20 rfl ⟨_, fo_Past_22⟩ sh_78 (by decide) ?_
  refine g_if_eq (pc1 := 26) (tgt := 44) d_Past_takeBack_23 (by decide) rfl (fun c2 => ?_) (fun c2 => ?_)
  · replace h := itp h c2
    refine g_iconst (pc1 := 45) (v := 0) d_Past_takeBack_44 rfl (by decide) ?_
    refine g_ireturn (Or.inr ⟨rfl, rfl⟩) d_Past_takeBack_45 rfl ?_
    cases h; exact hQ
  · replace h := itn h c2
    refine g_iload_n (pc1 := 27) d_Past_takeBack_26 rfl 2 rfl ?_
    refine g_aload_n (pc1 := 28) d_Past_takeBack_27 rfl 0 rfl ?_
    refine g_getr (pc1 := 31) d_Past_takeBack_28 rfl ⟨_, fo_Past_11⟩ sh_78 (by decide) (rf_78_0 ld) ?_
    refine g_alen (pc1 := 32) (v := 40) d_Past_takeBack_31 rfl sh_79 (by decide) (by decide) (by decide) (by decide) ?_
    refine g_icmp_ge (pc1 := 35) (tgt := 44) d_Past_takeBack_32 (by decide) rfl (fun c3 => ?_) (fun c3 => ?_)
    · replace h := itp h c3
      refine g_iconst (pc1 := 45) (v := 0) d_Past_takeBack_44 rfl (by decide) ?_
      refine g_ireturn (Or.inr ⟨rfl, rfl⟩) d_Past_takeBack_45 rfl ?_
      cases h; exact hQ
    · replace h := itn h c3
      refine g_aload_n (pc1 := 36) d_Past_takeBack_35 rfl 0 rfl ?_
      refine g_getr (pc1 := 39) d_Past_takeBack_36 rfl ⟨_, fo_Past_11⟩ sh_78 (by decide) (rf_78_0 ld) ?_
      refine g_iload_n (pc1 := 40) d_Past_takeBack_39 rfl 2 rfl ?_
      obtain ⟨g4, h⟩ := gdn h
      refine g_aald (pc1 := 41) d_Past_takeBack_40 rfl sh_79 (by decide) g4 (rfA_79 ld g4).2 ?_
      refine g_nonnull (tgt := 46) d_Past_takeBack_41 (by decide) ?_
      refine g_aload_n (pc1 := 47) d_Past_takeBack_46 rfl 1 rfl ?_
      refine g_aload_n (pc1 := 48) d_Past_takeBack_47 rfl 0 rfl ?_
      refine g_getr (pc1 := 51) d_Past_takeBack_48 rfl ⟨_, fo_Past_11⟩ sh_78 (by decide) (rf_78_0 ld) ?_
      refine g_iload_n (pc1 := 52) d_Past_takeBack_51 rfl 2 rfl ?_
      obtain ⟨g5, h⟩ := gdn h
      refine g_aald (pc1 := 53) d_Past_takeBack_52 rfl sh_79 (by decide) g5 (rfA_79 ld g5).2 ?_
      refine g_callV0 (pc1 := 56) (As := [.ref (80 + 7 * (s0 : Int32).toNatClampNeg)]) (rest := []) d_Past_takeBack_53 rfl mo_Past_25 mi_State_copyFrom mv_State_copyFrom rfl (shSt_0 hX1) (ltSt_0 hX1) (by decide) rfl rfl (Nat.le_of_ble_eq_true rfl) ?_
      obtain ⟨M7, hq6, h⟩ := bnd h
      refine f_State_copyFrom hld hX1 (rfA_79 ld g5).1 hq6 ?_
      dsimp only [psh]
      refine g_aload_n (pc1 := 57) d_Past_takeBack_56 rfl 0 rfl ?_
      refine g_iload_n (pc1 := 58) d_Past_takeBack_57 rfl 2 rfl ?_
      refine g_puti (pc1 := 61) d_Past_takeBack_58 rfl fo_Past_18 (po_7_1 _) sh_78 (by decide) ?_
      refine Wp.lM h (fun M8 h => ?_)
      refine g_aload_n (pc1 := 62) d_Past_takeBack_61 rfl 0 rfl ?_
      refine g_dup (pc1 := 63) d_Past_takeBack_62 rfl rfl ?_
      refine g_geti (pc1 := 66) d_Past_takeBack_63 rfl ⟨_, fo_Past_22⟩ sh_78 (by decide) ?_
      refine g_iconst (pc1 := 67) (v := 1) d_Past_takeBack_66 rfl (by decide) ?_
      refine g_isub (pc1 := 68) d_Past_takeBack_67 rfl ?_
      refine g_puti (pc1 := 71) d_Past_takeBack_68 rfl fo_Past_22 (po_7_2 _) sh_78 (by decide) ?_
      refine Wp.lM h (fun M9 h => ?_)
      refine g_iconst (pc1 := 72) (v := 1) d_Past_takeBack_71 rfl (by decide) ?_
      refine g_ireturn (Or.inr ⟨rfl, rfl⟩) d_Past_takeBack_72 rfl ?_
      cases h; exact hQ
def F_Past_takeBack (X1 : Nat) (M : gM) : Option (Int32 × gM) :=
  (if (M 78 1) ≤ 0 then J_Past_takeBack_18 X1 39 M else J_Past_takeBack_18 X1 ((M 78 1) - 1) M)
set_option maxHeartbeats 4000000 in
set_option maxRecDepth 20000 in
theorem f_Past_takeBack {l : Launch} {ld : Nat} {M : gM} {L : gL} {Q : Option Value → gM → gL → gR → Prop} (hld : isLa ld) {X1 : Nat} (hX1 : isSt X1) {q : Int32 × gM} (h : F_Past_takeBack X1 M = some q) (hQ : Q (some (.int q.1)) q.2 L (rf ld)) : Tm l y_Past_takeBack (0, 0, 447) 447 [.ref 78, .ref X1] M L (rf ld) Q := by
  refine Tm.of (by decide) (Nat.le_of_ble_eq_true rfl) ?_
  show Wp l y_Past_takeBack (0, 0, 447) 447 0 0 0 [(0, .ref 78), (1, .ref X1)] [] M L (rf ld) Q
  unfold F_Past_takeBack at h
  refine g_aload_n (pc1 := 1) d_Past_takeBack_0 rfl 0 rfl ?_
  refine g_geti (pc1 := 4) d_Past_takeBack_1 rfl ⟨_, fo_Past_18⟩ sh_78 (by decide) ?_
  refine g_if_le (pc1 := 7) (tgt := 16) d_Past_takeBack_4 (by decide) rfl (fun c1 => ?_) (fun c1 => ?_)
  · replace h := itp h c1
    refine g_bipush (pc1 := 18) (v := 39) d_Past_takeBack_16 rfl (by decide) ?_
    exact j_Past_takeBack_18 hld hX1 hQ  h
  · replace h := itn h c1
    refine g_aload_n (pc1 := 8) d_Past_takeBack_7 rfl 0 rfl ?_
    refine g_geti (pc1 := 11) d_Past_takeBack_8 rfl ⟨_, fo_Past_18⟩ sh_78 (by decide) ?_
    refine g_iconst (pc1 := 12) (v := 1) d_Past_takeBack_11 rfl (by decide) ?_
    refine g_isub (pc1 := 13) d_Past_takeBack_12 rfl ?_
    refine g_goto (tgt := 18) d_Past_takeBack_13 (by decide) ?_
    exact j_Past_takeBack_18 hld hX1 hQ  h

def J_PotSearch_stepDown_19 (X1 : Nat) (v2 : Int32) (v3 : Int32) (M : gM) : Option (gM) :=
  bI (F_Main_put 393 6 v2 (v3 - 1) M) (fun M7 => bI (F_PotSearch_fillFrom X1 (v2 + 1) ((6 - (M7 391 3)) + 1) M7) (fun M9 => some M9))
set_option maxHeartbeats 4000000 in
set_option maxRecDepth 20000 in
theorem j_PotSearch_stepDown_19 {l : Launch} {ld : Nat} {Q : Option Value → gM → gL → gR → Prop} (hld : isLa ld) {X1 : Nat} (hX1 : isSt X1) {q : gM} {M : gM} {L : gL} (hQ : Q none q L (rf ld))  {v2 : Int32} {v3 : Int32}  (h : J_PotSearch_stepDown_19 X1 v2 v3 M = some q) : Wp l y_PotSearch_stepDown (0, 0, 447) 447 0 0 19 [(0, .ref 391), (1, .ref X1), (2, .int v2), (3, .int v3)] [] M L (rf ld) Q := by
  unfold J_PotSearch_stepDown_19 at h
  refine g_aload_n (pc1 := 20) d_PotSearch_stepDown_19 rfl 0 rfl ?_
  refine g_getr (pc1 := 23) d_PotSearch_stepDown_20 rfl ⟨_, fo_PotSearch_15⟩ sh_391 (by decide) (rf_391_1 ld) ?_
  refine g_iload_n (pc1 := 24) d_PotSearch_stepDown_23 rfl 2 rfl ?_
  refine g_iload_n (pc1 := 25) d_PotSearch_stepDown_24 rfl 3 rfl ?_
  refine g_iconst (pc1 := 26) (v := 1) d_PotSearch_stepDown_25 rfl (by decide) ?_
  refine g_isub (pc1 := 27) d_PotSearch_stepDown_26 rfl ?_
  refine g_callS0 (pc1 := 30) (As := [.ref 393, .int v2, .int (v3 - 1)]) (rest := []) d_PotSearch_stepDown_27 rfl mo_PotSearch_24 ms_Main_put (by decide) rfl rfl (Nat.le_of_ble_eq_true rfl) ?_
  obtain ⟨M7, hq6, h⟩ := bnd h
  refine f_Main_put hld sh_393 (by decide) (by decide) hq6 ?_
  dsimp only [psh]
  refine g_aload_n (pc1 := 31) d_PotSearch_stepDown_30 rfl 0 rfl ?_
  refine g_aload_n (pc1 := 32) d_PotSearch_stepDown_31 rfl 1 rfl ?_
  refine g_iload_n (pc1 := 33) d_PotSearch_stepDown_32 rfl 2 rfl ?_
  refine g_iconst (pc1 := 34) (v := 1) d_PotSearch_stepDown_33 rfl (by decide) ?_
  refine g_iadd (pc1 := 35) d_PotSearch_stepDown_34 rfl ?_
  refine g_bipush (pc1 := 37) (v := 6) d_PotSearch_stepDown_35 rfl (by decide) ?_
  refine g_aload_n (pc1 := 38) d_PotSearch_stepDown_37 rfl 0 rfl ?_
  refine g_geti (pc1 := 41) d_PotSearch_stepDown_38 rfl ⟨_, fo_PotSearch_56⟩ sh_391 (by decide) ?_
  refine g_isub (pc1 := 42) d_PotSearch_stepDown_41 rfl ?_
  refine g_iconst (pc1 := 43) (v := 1) d_PotSearch_stepDown_42 rfl (by decide) ?_
  refine g_iadd (pc1 := 44) d_PotSearch_stepDown_43 rfl ?_
  refine g_callV0 (pc1 := 47) (As := [.ref X1, .int (v2 + 1), .int ((6 - (M7 391 3)) + 1)]) (rest := []) d_PotSearch_stepDown_44 rfl mo_PotSearch_48 mi_PotSearch_fillFrom mv_PotSearch_fillFrom rfl sh_391 (by decide) (by decide) rfl rfl (Nat.le_of_ble_eq_true rfl) ?_
  obtain ⟨M9, hq8, h⟩ := bnd h
  refine f_PotSearch_fillFrom hld hX1 hq8 ?_
  dsimp only [psh]
  refine g_return rfl d_PotSearch_stepDown_47 rfl ?_
  cases h; exact hQ
def B_PotSearch_stepDown_2 (X1 : Nat) (M : gM) (K2 : Int32 → Option (gM)) : Int32 → Option (gM) := fun v2 =>
  (if v2 < 0 then some M else bI (F_Main_at 393 6 v2 M) (fun r3 => (if r3 ≤ 0 then nmI (v2 + (-1)) (fun x5 => K2 x5) else J_PotSearch_stepDown_19 X1 v2 r3 M)))
def H_PotSearch_stepDown_2 (X1 : Nat) (M : gM) : Nat → Int32 → Option (gM) := lpK (B_PotSearch_stepDown_2 X1 M) (fun _ => none)
set_option maxHeartbeats 4000000 in
set_option maxRecDepth 20000 in
theorem h_PotSearch_stepDown_2 {l : Launch} {ld : Nat} {Q : Option Value → gM → gL → gR → Prop} (hld : isLa ld) {X1 : Nat} (hX1 : isSt X1) {q : gM} {M : gM} {L : gL} (hQ : Q none q L (rf ld))    : ∀ (f : Nat) (v2 : Int32), H_PotSearch_stepDown_2 X1 M f v2 = some q → Wp l y_PotSearch_stepDown (0, 0, 447) 447 0 0 2 [(0, .ref 391), (1, .ref X1), (2, .int v2)] [] M L (rf ld) Q := by
  intro f
  induction f with
  | zero => intro v2 h; cases h
  | succ f hK2 =>
    intro v2 h
    replace h : B_PotSearch_stepDown_2 X1 M (H_PotSearch_stepDown_2 X1 M f) v2 = some q := h
    unfold B_PotSearch_stepDown_2 at h
    refine g_iload_n (pc1 := 3) d_PotSearch_stepDown_2 rfl 2 rfl ?_
    refine g_if_lt (pc1 := 6) (tgt := 54) d_PotSearch_stepDown_3 (by decide) rfl (fun c1 => ?_) (fun c1 => ?_)
    · replace h := itp h c1
      refine g_return rfl d_PotSearch_stepDown_54 rfl ?_
      cases h; exact hQ
    · replace h := itn h c1
      refine g_aload_n (pc1 := 7) d_PotSearch_stepDown_6 rfl 0 rfl ?_
      refine g_getr (pc1 := 10) d_PotSearch_stepDown_7 rfl ⟨_, fo_PotSearch_15⟩ sh_391 (by decide) (rf_391_1 ld) ?_
      refine g_iload_n (pc1 := 11) d_PotSearch_stepDown_10 rfl 2 rfl ?_
      refine g_callS0 (pc1 := 14) (As := [.ref 393, .int v2]) (rest := []) d_PotSearch_stepDown_11 rfl mo_PotSearch_75 ms_Main_at (by decide) rfl rfl (Nat.le_of_ble_eq_true rfl) ?_
      obtain ⟨r3, hq2, h⟩ := bnd h
      refine f_Main_at hld sh_393 (by decide) (by decide) hq2 ?_
      dsimp only [psh]
      refine g_istore_n (pc1 := 15) (lv' := [(0, .ref 391), (1, .ref X1), (2, .int v2), (3, .int r3)]) d_PotSearch_stepDown_14 rfl rfl (by decide) [1, 2, 3, 0] rfl ?_
      refine g_iload_n (pc1 := 16) d_PotSearch_stepDown_15 rfl 3 rfl ?_
      refine g_if_le (pc1 := 19) (tgt := 48) d_PotSearch_stepDown_16 (by decide) rfl (fun c4 => ?_) (fun c4 => ?_)
      · replace h := itp h c4
        obtain ⟨x5, ex5, h⟩ := ltI h
        refine g_iinc (pc1 := 51) (v := x5) (lv' := [(0, .ref 391), (1, .ref X1), (2, .int x5), (3, .int r3)]) d_PotSearch_stepDown_48 rfl 2 rfl (by rw [ex5]; rfl) (by decide) [1, 2, 0, 3] rfl ?_
        refine g_goto (tgt := 2) d_PotSearch_stepDown_51 (by decide) ?_
        refine Wp.loc (lv' := [(0, .ref 391), (1, .ref X1), (2, .int x5)]) [0, 1, 2] rfl ?_
        exact hK2 x5 h
      · replace h := itn h c4
        exact j_PotSearch_stepDown_19 hld hX1 hQ  h
def F_PotSearch_stepDown (X1 : Nat) (M : gM) : Option (gM) :=
  H_PotSearch_stepDown_2 X1 M FU 5
set_option maxHeartbeats 4000000 in
set_option maxRecDepth 20000 in
theorem f_PotSearch_stepDown {l : Launch} {ld : Nat} {M : gM} {L : gL} {Q : Option Value → gM → gL → gR → Prop} (hld : isLa ld) {X1 : Nat} (hX1 : isSt X1) {q : gM} (h : F_PotSearch_stepDown X1 M = some q) (hQ : Q none q L (rf ld)) : Tm l y_PotSearch_stepDown (0, 0, 447) 447 [.ref 391, .ref X1] M L (rf ld) Q := by
  refine Tm.of (by decide) (Nat.le_of_ble_eq_true rfl) ?_
  show Wp l y_PotSearch_stepDown (0, 0, 447) 447 0 0 0 [(0, .ref 391), (1, .ref X1)] [] M L (rf ld) Q
  unfold F_PotSearch_stepDown at h
  refine g_iconst (pc1 := 1) (v := 5) d_PotSearch_stepDown_0 rfl (by decide) ?_
  refine g_istore_n (pc1 := 2) (lv' := [(0, .ref 391), (1, .ref X1), (2, .int 5)]) d_PotSearch_stepDown_1 rfl rfl (by decide) [1, 2, 0] rfl ?_
  exact h_PotSearch_stepDown_2 hld hX1 hQ  _ 5 h

def J_PotSearch_weigh_110 (Ld1 : Nat) (K19 : Int32 → gM → Option (gM)) (v2 : Int32) (M : gM) : Option (gM) :=
  nmI (v2 + 1) (fun x9 => K19 x9 M)
set_option maxHeartbeats 4000000 in
set_option maxRecDepth 20000 in
theorem j_PotSearch_weigh_110 {l : Launch} {ld : Nat} {Q : Option Value → gM → gL → gR → Prop} (hld : isLa ld) {Ld1 : Nat} (hLd1 : isLa Ld1) {q : gM} {M : gM} {L : gL} (hQ : Q none q L (rf ld)) {K19 : Int32 → gM → Option (gM)} {v2 : Int32} (hK19 : ∀ (w2 : Int32) (M : gM), K19 w2 M = some q → Wp l y_PotSearch_weigh (0, 0, 447) 447 0 0 19 [(0, .ref 391), (1, .ref Ld1), (2, .int w2)] [] M L (rf ld) Q) (h : J_PotSearch_weigh_110 Ld1 K19 v2 M = some q) : Wp l y_PotSearch_weigh (0, 0, 447) 447 0 0 110 [(0, .ref 391), (1, .ref Ld1), (2, .int v2)] [] M L (rf ld) Q := by
  unfold J_PotSearch_weigh_110 at h
  obtain ⟨x9, ex9, h⟩ := ltI h
  refine g_iinc (pc1 := 113) (v := x9) (lv' := [(0, .ref 391), (1, .ref Ld1), (2, .int x9)]) d_PotSearch_weigh_110 rfl 2 rfl (by rw [ex9]; rfl) (by decide) [1, 2, 0] rfl ?_
  refine g_goto (tgt := 19) d_PotSearch_weigh_113 (by decide) ?_
  exact hK19 x9 M h
def B_PotSearch_weigh_70 (Ld1 : Nat) (K19 : Int32 → gM → Option (gM)) (v2 : Int32) (v3 : Int32) (K70 : Int32 → gM → Option (gM)) : Int32 → gM → Option (gM) := fun v4 M =>
  (if 3 ≤ v4 then J_PotSearch_weigh_110 Ld1 K19 v2 M else bI (F_Main_at 394 3 v4 M) (fun r16 => bI (F_Land_broughtBy Ld1 v2 v4 M) (fun r18 => bI (F_Main_put 394 3 v4 (r16 + (v3 * r18)) M) (fun M20 => nmI (v4 + 1) (fun x21 => K70 x21 M20)))))
def H_PotSearch_weigh_70 (Ld1 : Nat) (K19 : Int32 → gM → Option (gM)) (v2 : Int32) (v3 : Int32) : Nat → Int32 → gM → Option (gM) := lpK (B_PotSearch_weigh_70 Ld1 K19 v2 v3) (fun _ _ => none)
set_option maxHeartbeats 4000000 in
set_option maxRecDepth 20000 in
theorem h_PotSearch_weigh_70 {l : Launch} {ld : Nat} {Q : Option Value → gM → gL → gR → Prop} (hld : isLa ld) {Ld1 : Nat} (hLd1 : isLa Ld1) {q : gM} {L : gL} (hQ : Q none q L (rf ld)) {K19 : Int32 → gM → Option (gM)} {v2 : Int32} {v3 : Int32} (hK19 : ∀ (w2 : Int32) (M : gM), K19 w2 M = some q → Wp l y_PotSearch_weigh (0, 0, 447) 447 0 0 19 [(0, .ref 391), (1, .ref Ld1), (2, .int w2)] [] M L (rf ld) Q) : ∀ (f : Nat) (v4 : Int32) (M : gM), H_PotSearch_weigh_70 Ld1 K19 v2 v3 f v4 M = some q → Wp l y_PotSearch_weigh (0, 0, 447) 447 0 0 70 [(0, .ref 391), (1, .ref Ld1), (2, .int v2), (3, .int v3), (4, .int v4)] [] M L (rf ld) Q := by
  intro f
  induction f with
  | zero => intro v4 M h; cases h
  | succ f hK70 =>
    intro v4 M h
    replace h : B_PotSearch_weigh_70 Ld1 K19 v2 v3 (H_PotSearch_weigh_70 Ld1 K19 v2 v3 f) v4 M = some q := h
    unfold B_PotSearch_weigh_70 at h
    refine g_iload (pc1 := 72) d_PotSearch_weigh_70 rfl 4 rfl ?_
    refine g_iconst (pc1 := 73) (v := 3) d_PotSearch_weigh_72 rfl (by decide) ?_
    refine g_icmp_ge (pc1 := 76) (tgt := 110) d_PotSearch_weigh_73 (by decide) rfl (fun c14 => ?_) (fun c14 => ?_)
    · replace h := itp h c14
      refine Wp.loc (lv' := [(0, .ref 391), (1, .ref Ld1), (2, .int v2)]) [0, 1, 2] rfl ?_
      exact j_PotSearch_weigh_110 hld hLd1 hQ hK19 h
    · replace h := itn h c14
      refine g_aload_n (pc1 := 77) d_PotSearch_weigh_76 rfl 0 rfl ?_
      refine g_getr (pc1 := 80) d_PotSearch_weigh_77 rfl ⟨_, fo_PotSearch_18⟩ sh_391 (by decide) (rf_391_2 ld) ?_
      refine g_iload (pc1 := 82) d_PotSearch_weigh_80 rfl 4 rfl ?_
      refine g_aload_n (pc1 := 83) d_PotSearch_weigh_82 rfl 0 rfl ?_
      refine g_getr (pc1 := 86) d_PotSearch_weigh_83 rfl ⟨_, fo_PotSearch_18⟩ sh_391 (by decide) (rf_391_2 ld) ?_
      refine g_iload (pc1 := 88) d_PotSearch_weigh_86 rfl 4 rfl ?_
      refine g_callS0 (pc1 := 91) (As := [.ref 394, .int v4]) (rest := [.int v4, .ref 394]) d_PotSearch_weigh_88 rfl mo_PotSearch_75 ms_Main_at (by decide) rfl rfl (Nat.le_of_ble_eq_true rfl) ?_
      obtain ⟨r16, hq15, h⟩ := bnd h
      refine f_Main_at hld sh_394 (by decide) (by decide) hq15 ?_
      dsimp only [psh]
      refine g_iload_n (pc1 := 92) d_PotSearch_weigh_91 rfl 3 rfl ?_
      refine g_aload_n (pc1 := 93) d_PotSearch_weigh_92 rfl 1 rfl ?_
      refine g_iload_n (pc1 := 94) d_PotSearch_weigh_93 rfl 2 rfl ?_
      refine g_iload (pc1 := 96) d_PotSearch_weigh_94 rfl 4 rfl ?_
      refine g_callV0 (pc1 := 99) (As := [.int v2, .int v4]) (rest := [.int v3, .int r16, .int v4, .ref 394]) d_PotSearch_weigh_96 rfl mo_PotSearch_94 mi_Land_broughtBy mv_Land_broughtBy rfl (shLa_0 hLd1) (ltLa_0 hLd1) (by decide) rfl rfl (Nat.le_of_ble_eq_true rfl) ?_
      obtain ⟨r18, hq17, h⟩ := bnd h
      refine f_Land_broughtBy hld hLd1 hq17 ?_
      dsimp only [psh]
      refine g_imul (pc1 := 100) d_PotSearch_weigh_99 rfl ?_
      refine g_iadd (pc1 := 101) d_PotSearch_weigh_100 rfl ?_
      refine g_callS0 (pc1 := 104) (As := [.ref 394, .int v4, .int (r16 + (v3 * r18))]) (rest := []) d_PotSearch_weigh_101 rfl mo_PotSearch_24 ms_Main_put (by decide) rfl rfl (Nat.le_of_ble_eq_true rfl) ?_
      obtain ⟨M20, hq19, h⟩ := bnd h
      refine f_Main_put hld sh_394 (by decide) (by decide) hq19 ?_
      dsimp only [psh]
      obtain ⟨x21, ex21, h⟩ := ltI h
      refine g_iinc (pc1 := 107) (v := x21) (lv' := [(0, .ref 391), (1, .ref Ld1), (2, .int v2), (3, .int v3), (4, .int x21)]) d_PotSearch_weigh_104 rfl 4 rfl (by rw [ex21]; rfl) (by decide) [1, 2, 3, 4, 0] rfl ?_
      refine g_goto (tgt := 70) d_PotSearch_weigh_107 (by decide) ?_
      exact hK70 x21 M20 h
def B_PotSearch_weigh_19 (Ld1 : Nat) (K19 : Int32 → gM → Option (gM)) : Int32 → gM → Option (gM) := fun v2 M =>
  (if 6 ≤ v2 then some M else bI (F_Main_at 393 6 v2 M) (fun r7 => (if r7 ≤ 0 then J_PotSearch_weigh_110 Ld1 K19 v2 M else nmM (uM M 391 3 ((M 391 3) + r7)) (fun M10 => bI (F_Main_at (Ld1 + 2) 6 v2 M10) (fun r12 => nmM (uM M10 391 4 ((M10 391 4) + (r7 * r12))) (fun M13 => H_PotSearch_weigh_70 Ld1 K19 v2 r7 FU 0 M13))))))
def H_PotSearch_weigh_19 (Ld1 : Nat) : Nat → Int32 → gM → Option (gM) := lpK (B_PotSearch_weigh_19 Ld1) (fun _ _ => none)
set_option maxHeartbeats 4000000 in
set_option maxRecDepth 20000 in
theorem h_PotSearch_weigh_19 {l : Launch} {ld : Nat} {Q : Option Value → gM → gL → gR → Prop} (hld : isLa ld) {Ld1 : Nat} (hLd1 : isLa Ld1) {q : gM} {L : gL} (hQ : Q none q L (rf ld))    : ∀ (f : Nat) (v2 : Int32) (M : gM), H_PotSearch_weigh_19 Ld1 f v2 M = some q → Wp l y_PotSearch_weigh (0, 0, 447) 447 0 0 19 [(0, .ref 391), (1, .ref Ld1), (2, .int v2)] [] M L (rf ld) Q := by
  intro f
  induction f with
  | zero => intro v2 M h; cases h
  | succ f hK19 =>
    intro v2 M h
    replace h : B_PotSearch_weigh_19 Ld1 (H_PotSearch_weigh_19 Ld1 f) v2 M = some q := h
    unfold B_PotSearch_weigh_19 at h
    refine g_iload_n (pc1 := 20) d_PotSearch_weigh_19 rfl 2 rfl ?_
    refine g_bipush (pc1 := 22) (v := 6) d_PotSearch_weigh_20 rfl (by decide) ?_
    refine g_icmp_ge (pc1 := 25) (tgt := 116) d_PotSearch_weigh_22 (by decide) rfl (fun c5 => ?_) (fun c5 => ?_)
    · replace h := itp h c5
      refine g_return rfl d_PotSearch_weigh_116 rfl ?_
      cases h; exact hQ
    · replace h := itn h c5
      refine g_aload_n (pc1 := 26) d_PotSearch_weigh_25 rfl 0 rfl ?_
      refine g_getr (pc1 := 29) d_PotSearch_weigh_26 rfl ⟨_, fo_PotSearch_15⟩ sh_391 (by decide) (rf_391_1 ld) ?_
      refine g_iload_n (pc1 := 30) d_PotSearch_weigh_29 rfl 2 rfl ?_
      refine g_callS0 (pc1 := 33) (As := [.ref 393, .int v2]) (rest := []) d_PotSearch_weigh_30 rfl mo_PotSearch_75 ms_Main_at (by decide) rfl rfl (Nat.le_of_ble_eq_true rfl) ?_
      obtain ⟨r7, hq6, h⟩ := bnd h
      refine f_Main_at hld sh_393 (by decide) (by decide) hq6 ?_
      dsimp only [psh]
      refine g_istore_n (pc1 := 34) (lv' := [(0, .ref 391), (1, .ref Ld1), (2, .int v2), (3, .int r7)]) d_PotSearch_weigh_33 rfl rfl (by decide) [1, 2, 3, 0] rfl ?_
      refine g_iload_n (pc1 := 35) d_PotSearch_weigh_34 rfl 3 rfl ?_
      refine g_if_le (pc1 := 38) (tgt := 110) d_PotSearch_weigh_35 (by decide) rfl (fun c8 => ?_) (fun c8 => ?_)
      · replace h := itp h c8
        refine Wp.loc (lv' := [(0, .ref 391), (1, .ref Ld1), (2, .int v2)]) [0, 1, 2] rfl ?_
        exact j_PotSearch_weigh_110 hld hLd1 hQ hK19 h
      · replace h := itn h c8
        refine g_aload_n (pc1 := 39) d_PotSearch_weigh_38 rfl 0 rfl ?_
        refine g_dup (pc1 := 40) d_PotSearch_weigh_39 rfl rfl ?_
        refine g_geti (pc1 := 43) d_PotSearch_weigh_40 rfl ⟨_, fo_PotSearch_56⟩ sh_391 (by decide) ?_
        refine g_iload_n (pc1 := 44) d_PotSearch_weigh_43 rfl 3 rfl ?_
        refine g_iadd (pc1 := 45) d_PotSearch_weigh_44 rfl ?_
        refine g_puti (pc1 := 48) d_PotSearch_weigh_45 rfl fo_PotSearch_56 (po_10_3 _) sh_391 (by decide) ?_
        refine Wp.lM h (fun M10 h => ?_)
        refine g_aload_n (pc1 := 49) d_PotSearch_weigh_48 rfl 0 rfl ?_
        refine g_dup (pc1 := 50) d_PotSearch_weigh_49 rfl rfl ?_
        refine g_geti (pc1 := 53) d_PotSearch_weigh_50 rfl ⟨_, fo_PotSearch_89⟩ sh_391 (by decide) ?_
        refine g_iload_n (pc1 := 54) d_PotSearch_weigh_53 rfl 3 rfl ?_
        refine g_aload_n (pc1 := 55) d_PotSearch_weigh_54 rfl 1 rfl ?_
        refine g_getr (pc1 := 58) d_PotSearch_weigh_55 rfl ⟨_, fo_PotSearch_92⟩ (shLa_0 hLd1) (ltLa_0 hLd1) (rfLa_6 ld hLd1) ?_
        refine g_iload_n (pc1 := 59) d_PotSearch_weigh_58 rfl 2 rfl ?_
        refine g_callS0 (pc1 := 62) (As := [.ref (Ld1 + 2), .int v2]) (rest := [.int r7, .int (M10 391 4), .ref 391]) d_PotSearch_weigh_59 rfl mo_PotSearch_75 ms_Main_at (by decide) rfl rfl (Nat.le_of_ble_eq_true rfl) ?_
        obtain ⟨r12, hq11, h⟩ := bnd h
        refine f_Main_at hld (shLa_2 hLd1) (ltLa_2 hLd1) (by decide) hq11 ?_
        dsimp only [psh]
        refine g_imul (pc1 := 63) d_PotSearch_weigh_62 rfl ?_
        refine g_iadd (pc1 := 64) d_PotSearch_weigh_63 rfl ?_
        refine g_puti (pc1 := 67) d_PotSearch_weigh_64 rfl fo_PotSearch_89 (po_10_4 _) sh_391 (by decide) ?_
        refine Wp.lM h (fun M13 h => ?_)
        refine g_iconst (pc1 := 68) (v := 0) d_PotSearch_weigh_67 rfl (by decide) ?_
        refine g_istore (pc1 := 70) (lv' := [(0, .ref 391), (1, .ref Ld1), (2, .int v2), (3, .int r7), (4, .int 0)]) d_PotSearch_weigh_68 rfl (by decide) [1, 2, 3, 4, 0] rfl ?_
        exact h_PotSearch_weigh_70 hld hLd1 hQ hK19 _ 0 M13 h
def F_PotSearch_weigh (Ld1 : Nat) (M : gM) : Option (gM) :=
  bI (F_Main_wipe 394 3 M) (fun M2 => nmM (uM M2 391 3 0) (fun M3 => nmM (uM M3 391 4 0) (fun M4 => H_PotSearch_weigh_19 Ld1 FU 0 M4)))
set_option maxHeartbeats 4000000 in
set_option maxRecDepth 20000 in
theorem f_PotSearch_weigh {l : Launch} {ld : Nat} {M : gM} {L : gL} {Q : Option Value → gM → gL → gR → Prop} (hld : isLa ld) {Ld1 : Nat} (hLd1 : isLa Ld1) {q : gM} (h : F_PotSearch_weigh Ld1 M = some q) (hQ : Q none q L (rf ld)) : Tm l y_PotSearch_weigh (0, 0, 447) 447 [.ref 391, .ref Ld1] M L (rf ld) Q := by
  refine Tm.of (by decide) (Nat.le_of_ble_eq_true rfl) ?_
  show Wp l y_PotSearch_weigh (0, 0, 447) 447 0 0 0 [(0, .ref 391), (1, .ref Ld1)] [] M L (rf ld) Q
  unfold F_PotSearch_weigh at h
  refine g_aload_n (pc1 := 1) d_PotSearch_weigh_0 rfl 0 rfl ?_
  refine g_getr (pc1 := 4) d_PotSearch_weigh_1 rfl ⟨_, fo_PotSearch_18⟩ sh_391 (by decide) (rf_391_2 ld) ?_
  refine g_callS0 (pc1 := 7) (As := [.ref 394]) (rest := []) d_PotSearch_weigh_4 rfl mo_PotSearch_85 ms_Main_wipe (by decide) rfl rfl (Nat.le_of_ble_eq_true rfl) ?_
  obtain ⟨M2, hq1, h⟩ := bnd h
  refine f_Main_wipe hld sh_394 (by decide) (by decide) hq1 ?_
  dsimp only [psh]
  refine g_aload_n (pc1 := 8) d_PotSearch_weigh_7 rfl 0 rfl ?_
  refine g_iconst (pc1 := 9) (v := 0) d_PotSearch_weigh_8 rfl (by decide) ?_
  refine g_puti (pc1 := 12) d_PotSearch_weigh_9 rfl fo_PotSearch_56 (po_10_3 _) sh_391 (by decide) ?_
  refine Wp.lM h (fun M3 h => ?_)
  refine g_aload_n (pc1 := 13) d_PotSearch_weigh_12 rfl 0 rfl ?_
  refine g_iconst (pc1 := 14) (v := 0) d_PotSearch_weigh_13 rfl (by decide) ?_
  refine g_puti (pc1 := 17) d_PotSearch_weigh_14 rfl fo_PotSearch_89 (po_10_4 _) sh_391 (by decide) ?_
  refine Wp.lM h (fun M4 h => ?_)
  refine g_iconst (pc1 := 18) (v := 0) d_PotSearch_weigh_17 rfl (by decide) ?_
  refine g_istore_n (pc1 := 19) (lv' := [(0, .ref 391), (1, .ref Ld1), (2, .int 0)]) d_PotSearch_weigh_18 rfl rfl (by decide) [1, 2, 0] rfl ?_
  exact h_PotSearch_weigh_19 hld hLd1 hQ  _ 0 M4 h

def F_Reader_need (p1 : Int32) (M : gM) : Option (gM) :=
  bI (F_Reader_is p1 M) (fun r2 => (if r2 = 0 then bI (F_Reader_stop 1 M) (fun M5 => some M5) else bI (F_Reader_take M) (fun M7 => some M7)))
set_option maxHeartbeats 4000000 in
set_option maxRecDepth 20000 in
theorem f_Reader_need {l : Launch} {ld : Nat} {M : gM} {L : gL} {Q : Option Value → gM → gL → gR → Prop} (hld : isLa ld) {p1 : Int32}  {q : gM} (h : F_Reader_need p1 M = some q) (hQ : Q none q L (rf ld)) : Tm l y_Reader_need (0, 0, 447) 447 [.ref 3, .int p1] M L (rf ld) Q := by
  refine Tm.of (by decide) (Nat.le_of_ble_eq_true rfl) ?_
  show Wp l y_Reader_need (0, 0, 447) 447 0 0 0 [(0, .ref 3), (1, .int p1)] [] M L (rf ld) Q
  unfold F_Reader_need at h
  refine g_aload_n (pc1 := 1) d_Reader_need_0 rfl 0 rfl ?_
  refine g_iload_n (pc1 := 2) d_Reader_need_1 rfl 1 rfl ?_
  refine g_callV0 (pc1 := 5) (As := [.int p1]) (rest := []) d_Reader_need_2 rfl mo_Reader_51 mi_Reader_is mv_Reader_is rfl sh_3 (by decide) (by decide) rfl rfl (Nat.le_of_ble_eq_true rfl) ?_
  obtain ⟨r2, hq1, h⟩ := bnd h
  refine f_Reader_is hld  hq1 ?_
  dsimp only [psh]
  refine g_if_eq (pc1 := 8) (tgt := 15) d_Reader_need_5 (by decide) rfl (fun c3 => ?_) (fun c3 => ?_)
  · replace h := itp h c3
    refine g_aload_n (pc1 := 16) d_Reader_need_15 rfl 0 rfl ?_
    refine g_iconst (pc1 := 17) (v := 1) d_Reader_need_16 rfl (by decide) ?_
    refine g_callV0 (pc1 := 20) (As := [.int 1]) (rest := []) d_Reader_need_17 rfl mo_Reader_95 mi_Reader_stop mv_Reader_stop rfl sh_3 (by decide) (by decide) rfl rfl (Nat.le_of_ble_eq_true rfl) ?_
    obtain ⟨M5, hq4, h⟩ := bnd h
    refine f_Reader_stop hld  hq4 ?_
    dsimp only [psh]
    refine g_return rfl d_Reader_need_20 rfl ?_
    cases h; exact hQ
  · replace h := itn h c3
    refine g_aload_n (pc1 := 9) d_Reader_need_8 rfl 0 rfl ?_
    refine g_callV0 (pc1 := 12) (As := []) (rest := []) d_Reader_need_9 rfl mo_Reader_108 mi_Reader_take mv_Reader_take rfl sh_3 (by decide) (by decide) rfl rfl (Nat.le_of_ble_eq_true rfl) ?_
    obtain ⟨M7, hq6, h⟩ := bnd h
    refine f_Reader_take hld  hq6 ?_
    dsimp only [psh]
    refine g_goto (tgt := 20) d_Reader_need_12 (by decide) ?_
    refine g_return rfl d_Reader_need_20 rfl ?_
    cases h; exact hQ

def F_Reader_takeClose (Wl1 : Nat) (M : gM) : Option (gM) :=
  bI (F_Reader_is 41 M) (fun r2 => (if r2 = 0 then bI (F_Reader_stop 1 M) (fun M11 => some M11) else bI (F_Reader_layHeld Wl1 1 M) (fun M5 => nmM (uM M5 3 10 ((M5 3 10) - 1)) (fun M6 => nmM (uM M6 3 11 ((M6 3 11) - 1)) (fun M7 => bI (F_Reader_take M7) (fun M9 => some M9))))))
set_option maxHeartbeats 4000000 in
set_option maxRecDepth 20000 in
theorem f_Reader_takeClose {l : Launch} {ld : Nat} {M : gM} {L : gL} {Q : Option Value → gM → gL → gR → Prop} (hld : isLa ld) {Wl1 : Nat} (hWl1 : isLw Wl1) {q : gM} (h : F_Reader_takeClose Wl1 M = some q) (hQ : Q none q L (rf ld)) : Tm l y_Reader_takeClose (0, 0, 447) 447 [.ref 3, .ref Wl1] M L (rf ld) Q := by
  refine Tm.of (by decide) (Nat.le_of_ble_eq_true rfl) ?_
  show Wp l y_Reader_takeClose (0, 0, 447) 447 0 0 0 [(0, .ref 3), (1, .ref Wl1)] [] M L (rf ld) Q
  unfold F_Reader_takeClose at h
  refine g_aload_n (pc1 := 1) d_Reader_takeClose_0 rfl 0 rfl ?_
  refine g_bipush (pc1 := 3) (v := 41) d_Reader_takeClose_1 rfl (by decide) ?_
  refine g_callV0 (pc1 := 6) (As := [.int 41]) (rest := []) d_Reader_takeClose_3 rfl mo_Reader_51 mi_Reader_is mv_Reader_is rfl sh_3 (by decide) (by decide) rfl rfl (Nat.le_of_ble_eq_true rfl) ?_
  obtain ⟨r2, hq1, h⟩ := bnd h
  refine f_Reader_is hld  hq1 ?_
  dsimp only [psh]
  refine g_if_ne (pc1 := 9) (tgt := 15) d_Reader_takeClose_6 (by decide) rfl (fun c3 => ?_) (fun c3 => ?_)
  · replace h := itn h c3
    refine g_aload_n (pc1 := 16) d_Reader_takeClose_15 rfl 0 rfl ?_
    refine g_aload_n (pc1 := 17) d_Reader_takeClose_16 rfl 1 rfl ?_
    refine g_iconst (pc1 := 18) (v := 1) d_Reader_takeClose_17 rfl (by decide) ?_
    refine g_callV0 (pc1 := 21) (As := [.ref Wl1, .int 1]) (rest := []) d_Reader_takeClose_18 rfl mo_Reader_215 mi_Reader_layHeld mv_Reader_layHeld rfl sh_3 (by decide) (by decide) rfl rfl (Nat.le_of_ble_eq_true rfl) ?_
    obtain ⟨M5, hq4, h⟩ := bnd h
    refine f_Reader_layHeld hld hWl1 hq4 ?_
    dsimp only [psh]
    refine g_aload_n (pc1 := 22) d_Reader_takeClose_21 rfl 0 rfl ?_
    refine g_dup (pc1 := 23) d_Reader_takeClose_22 rfl rfl ?_
    refine g_geti (pc1 := 26) d_Reader_takeClose_23 rfl ⟨_, fo_Reader_199⟩ sh_3 (by decide) ?_
    refine g_iconst (pc1 := 27) (v := 1) d_Reader_takeClose_26 rfl (by decide) ?_
    refine g_isub (pc1 := 28) d_Reader_takeClose_27 rfl ?_
    refine g_puti (pc1 := 31) d_Reader_takeClose_28 rfl fo_Reader_199 (po_2_10 _) sh_3 (by decide) ?_
    refine Wp.lM h (fun M6 h => ?_)
    refine g_aload_n (pc1 := 32) d_Reader_takeClose_31 rfl 0 rfl ?_
    refine g_dup (pc1 := 33) d_Reader_takeClose_32 rfl rfl ?_
    refine g_geti (pc1 := 36) d_Reader_takeClose_33 rfl ⟨_, fo_Reader_196⟩ sh_3 (by decide) ?_
    refine g_iconst (pc1 := 37) (v := 1) d_Reader_takeClose_36 rfl (by decide) ?_
    refine g_isub (pc1 := 38) d_Reader_takeClose_37 rfl ?_
    refine g_puti (pc1 := 41) d_Reader_takeClose_38 rfl fo_Reader_196 (po_2_11 _) sh_3 (by decide) ?_
    refine Wp.lM h (fun M7 h => ?_)
    refine g_aload_n (pc1 := 42) d_Reader_takeClose_41 rfl 0 rfl ?_
    refine g_callV0 (pc1 := 45) (As := []) (rest := []) d_Reader_takeClose_42 rfl mo_Reader_108 mi_Reader_take mv_Reader_take rfl sh_3 (by decide) (by decide) rfl rfl (Nat.le_of_ble_eq_true rfl) ?_
    obtain ⟨M9, hq8, h⟩ := bnd h
    refine f_Reader_take hld  hq8 ?_
    dsimp only [psh]
    refine g_return rfl d_Reader_takeClose_45 rfl ?_
    cases h; exact hQ
  · replace h := itp h c3
    refine g_aload_n (pc1 := 10) d_Reader_takeClose_9 rfl 0 rfl ?_
    refine g_iconst (pc1 := 11) (v := 1) d_Reader_takeClose_10 rfl (by decide) ?_
    refine g_callV0 (pc1 := 14) (As := [.int 1]) (rest := []) d_Reader_takeClose_11 rfl mo_Reader_95 mi_Reader_stop mv_Reader_stop rfl sh_3 (by decide) (by decide) rfl rfl (Nat.le_of_ble_eq_true rfl) ?_
    obtain ⟨M11, hq10, h⟩ := bnd h
    refine f_Reader_stop hld  hq10 ?_
    dsimp only [psh]
    refine g_return rfl d_Reader_takeClose_14 rfl ?_
    cases h; exact hQ

def F_Reader_takeSign (Wl1 : Nat) (M : gM) : Option (gM) :=
  bI (F_Main_at 6 401 (M 3 1) M) (fun r2 => bI (F_Reader_rank r2) (fun r4 => bI (F_Reader_layHeld Wl1 r4 M) (fun M6 => bI (F_Reader_holdSign r2 M6) (fun M8 => bI (F_Reader_take M8) (fun M10 => some M10)))))
set_option maxHeartbeats 4000000 in
set_option maxRecDepth 20000 in
theorem f_Reader_takeSign {l : Launch} {ld : Nat} {M : gM} {L : gL} {Q : Option Value → gM → gL → gR → Prop} (hld : isLa ld) {Wl1 : Nat} (hWl1 : isLw Wl1) {q : gM} (h : F_Reader_takeSign Wl1 M = some q) (hQ : Q none q L (rf ld)) : Tm l y_Reader_takeSign (0, 0, 447) 447 [.ref 3, .ref Wl1] M L (rf ld) Q := by
  refine Tm.of (by decide) (Nat.le_of_ble_eq_true rfl) ?_
  show Wp l y_Reader_takeSign (0, 0, 447) 447 0 0 0 [(0, .ref 3), (1, .ref Wl1)] [] M L (rf ld) Q
  unfold F_Reader_takeSign at h
  refine g_aload_n (pc1 := 1) d_Reader_takeSign_0 rfl 0 rfl ?_
  refine g_getr (pc1 := 4) d_Reader_takeSign_1 rfl ⟨_, fo_Reader_12⟩ sh_3 (by decide) (rf_3_0 ld) ?_
  refine g_getr (pc1 := 7) d_Reader_takeSign_4 rfl ⟨_, fo_Reader_55⟩ sh_4 (by decide) (rf_4_1 ld) ?_
  refine g_aload_n (pc1 := 8) d_Reader_takeSign_7 rfl 0 rfl ?_
  refine g_geti (pc1 := 11) d_Reader_takeSign_8 rfl ⟨_, fo_Reader_38⟩ sh_3 (by decide) ?_
  refine g_callS0 (pc1 := 14) (As := [.ref 6, .int (M 3 1)]) (rest := []) d_Reader_takeSign_11 rfl mo_Reader_58 ms_Main_at (by decide) rfl rfl (Nat.le_of_ble_eq_true rfl) ?_
  obtain ⟨r2, hq1, h⟩ := bnd h
  refine f_Main_at hld sh_6 (by decide) (by decide) hq1 ?_
  dsimp only [psh]
  refine g_istore_n (pc1 := 15) (lv' := [(0, .ref 3), (1, .ref Wl1), (2, .int r2)]) d_Reader_takeSign_14 rfl rfl (by decide) [1, 2, 0] rfl ?_
  refine g_aload_n (pc1 := 16) d_Reader_takeSign_15 rfl 0 rfl ?_
  refine g_aload_n (pc1 := 17) d_Reader_takeSign_16 rfl 1 rfl ?_
  refine g_iload_n (pc1 := 18) d_Reader_takeSign_17 rfl 2 rfl ?_
  refine g_callS0 (pc1 := 21) (As := [.int r2]) (rest := [.ref Wl1, .ref 3]) d_Reader_takeSign_18 rfl mo_Reader_206 ms_Reader_rank (by decide) rfl rfl (Nat.le_of_ble_eq_true rfl) ?_
  obtain ⟨r4, hq3, h⟩ := bnd h
  refine f_Reader_rank hld  hq3 ?_
  dsimp only [psh]
  refine g_callV0 (pc1 := 24) (As := [.ref Wl1, .int r4]) (rest := []) d_Reader_takeSign_21 rfl mo_Reader_215 mi_Reader_layHeld mv_Reader_layHeld rfl sh_3 (by decide) (by decide) rfl rfl (Nat.le_of_ble_eq_true rfl) ?_
  obtain ⟨M6, hq5, h⟩ := bnd h
  refine f_Reader_layHeld hld hWl1 hq5 ?_
  dsimp only [psh]
  refine g_aload_n (pc1 := 25) d_Reader_takeSign_24 rfl 0 rfl ?_
  refine g_iload_n (pc1 := 26) d_Reader_takeSign_25 rfl 2 rfl ?_
  refine g_callV0 (pc1 := 29) (As := [.int r2]) (rest := []) d_Reader_takeSign_26 rfl mo_Reader_219 mi_Reader_holdSign mv_Reader_holdSign rfl sh_3 (by decide) (by decide) rfl rfl (Nat.le_of_ble_eq_true rfl) ?_
  obtain ⟨M8, hq7, h⟩ := bnd h
  refine f_Reader_holdSign hld  hq7 ?_
  dsimp only [psh]
  refine g_aload_n (pc1 := 30) d_Reader_takeSign_29 rfl 0 rfl ?_
  refine g_callV0 (pc1 := 33) (As := []) (rest := []) d_Reader_takeSign_30 rfl mo_Reader_108 mi_Reader_take mv_Reader_take rfl sh_3 (by decide) (by decide) rfl rfl (Nat.le_of_ble_eq_true rfl) ?_
  obtain ⟨M10, hq9, h⟩ := bnd h
  refine f_Reader_take hld  hq9 ?_
  dsimp only [psh]
  refine g_return rfl d_Reader_takeSign_33 rfl ?_
  cases h; exact hQ

def F_Reader_takeUnit (Wl1 : Nat) (M : gM) (L : gL) : Option (Int32 × gM) :=
  bI (F_Main_at 6 401 (M 3 1) M) (fun r2 => (if r2 = 40 then (if (M 3 11) < 6 then nmM (uM M 3 11 ((M 3 11) + 1)) (fun M21 => bI (F_Reader_holdSign 40 M21) (fun M23 => bI (F_Reader_take M23) (fun M25 => some (1, M25)))) else bI (F_Reader_stop 2 M) (fun M27 => some (1, M27))) else (if r2 = 3 then bI (F_Tokens_valueAt (M 3 1) L) (fun r15 => bI (F_Law_add Wl1 ((r15 : Int64).toInt32) M) (fun M17 => bI (F_Reader_take M17) (fun M19 => some (0, M19)))) else bI (F_Main_isOne (r2 - 140) 9) (fun r6 => (if r6 = 0 then bI (F_Reader_stop 1 M) (fun M9 => some (0, M9)) else bI (F_Law_add Wl1 ((10000 + r2) - 140) M) (fun M11 => bI (F_Reader_take M11) (fun M13 => some (0, M13))))))))
set_option maxHeartbeats 4000000 in
set_option maxRecDepth 20000 in
theorem f_Reader_takeUnit {l : Launch} {ld : Nat} {M : gM} {L : gL} {Q : Option Value → gM → gL → gR → Prop} (hld : isLa ld) {Wl1 : Nat} (hWl1 : isLw Wl1) {q : Int32 × gM} (h : F_Reader_takeUnit Wl1 M L = some q) (hQ : Q (some (.int q.1)) q.2 L (rf ld)) : Tm l y_Reader_takeUnit (0, 0, 447) 447 [.ref 3, .ref Wl1] M L (rf ld) Q := by
  refine Tm.of (by decide) (Nat.le_of_ble_eq_true rfl) ?_
  show Wp l y_Reader_takeUnit (0, 0, 447) 447 0 0 0 [(0, .ref 3), (1, .ref Wl1)] [] M L (rf ld) Q
  unfold F_Reader_takeUnit at h
  refine g_aload_n (pc1 := 1) d_Reader_takeUnit_0 rfl 0 rfl ?_
  refine g_getr (pc1 := 4) d_Reader_takeUnit_1 rfl ⟨_, fo_Reader_12⟩ sh_3 (by decide) (rf_3_0 ld) ?_
  refine g_getr (pc1 := 7) d_Reader_takeUnit_4 rfl ⟨_, fo_Reader_55⟩ sh_4 (by decide) (rf_4_1 ld) ?_
  refine g_aload_n (pc1 := 8) d_Reader_takeUnit_7 rfl 0 rfl ?_
  refine g_geti (pc1 := 11) d_Reader_takeUnit_8 rfl ⟨_, fo_Reader_38⟩ sh_3 (by decide) ?_
  refine g_callS0 (pc1 := 14) (As := [.ref 6, .int (M 3 1)]) (rest := []) d_Reader_takeUnit_11 rfl mo_Reader_58 ms_Main_at (by decide) rfl rfl (Nat.le_of_ble_eq_true rfl) ?_
  obtain ⟨r2, hq1, h⟩ := bnd h
  refine f_Main_at hld sh_6 (by decide) (by decide) hq1 ?_
  dsimp only [psh]
  refine g_istore_n (pc1 := 15) (lv' := [(0, .ref 3), (1, .ref Wl1), (2, .int r2)]) d_Reader_takeUnit_14 rfl rfl (by decide) [1, 2, 0] rfl ?_
  refine g_iload_n (pc1 := 16) d_Reader_takeUnit_15 rfl 2 rfl ?_
  refine g_bipush (pc1 := 18) (v := 40) d_Reader_takeUnit_16 rfl (by decide) ?_
  refine g_icmp_ne (pc1 := 21) (tgt := 59) d_Reader_takeUnit_18 (by decide) rfl (fun c3 => ?_) (fun c3 => ?_)
  · replace h := itn h c3
    refine g_iload_n (pc1 := 60) d_Reader_takeUnit_59 rfl 2 rfl ?_
    refine g_iconst (pc1 := 61) (v := 3) d_Reader_takeUnit_60 rfl (by decide) ?_
    refine g_icmp_ne (pc1 := 64) (tgt := 87) d_Reader_takeUnit_61 (by decide) rfl (fun c4 => ?_) (fun c4 => ?_)
    · replace h := itn h c4
      refine g_iload_n (pc1 := 88) d_Reader_takeUnit_87 rfl 2 rfl ?_
      refine g_sipush (pc1 := 91) (v := 140) d_Reader_takeUnit_88 rfl (by decide) ?_
      refine g_isub (pc1 := 92) d_Reader_takeUnit_91 rfl ?_
      refine g_bipush (pc1 := 94) (v := 9) d_Reader_takeUnit_92 rfl (by decide) ?_
      refine g_callS0 (pc1 := 97) (As := [.int (r2 - 140), .int 9]) (rest := []) d_Reader_takeUnit_94 rfl mo_Reader_225 ms_Main_isOne (by decide) rfl rfl (Nat.le_of_ble_eq_true rfl) ?_
      obtain ⟨r6, hq5, h⟩ := bnd h
      refine f_Main_isOne hld  hq5 ?_
      dsimp only [psh]
      refine g_if_eq (pc1 := 100) (tgt := 120) d_Reader_takeUnit_97 (by decide) rfl (fun c7 => ?_) (fun c7 => ?_)
      · replace h := itp h c7
        refine g_aload_n (pc1 := 121) d_Reader_takeUnit_120 rfl 0 rfl ?_
        refine g_iconst (pc1 := 122) (v := 1) d_Reader_takeUnit_121 rfl (by decide) ?_
        refine g_callV0 (pc1 := 125) (As := [.int 1]) (rest := []) d_Reader_takeUnit_122 rfl mo_Reader_95 mi_Reader_stop mv_Reader_stop rfl sh_3 (by decide) (by decide) rfl rfl (Nat.le_of_ble_eq_true rfl) ?_
        obtain ⟨M9, hq8, h⟩ := bnd h
        refine f_Reader_stop hld  hq8 ?_
        dsimp only [psh]
        refine g_iconst (pc1 := 126) (v := 0) d_Reader_takeUnit_125 rfl (by decide) ?_
        refine g_ireturn (Or.inr ⟨rfl, rfl⟩) d_Reader_takeUnit_126 rfl ?_
        cases h; exact hQ
      · replace h := itn h c7
        refine g_aload_n (pc1 := 101) d_Reader_takeUnit_100 rfl 1 rfl ?_
        refine g_sipush (pc1 := 104) (v := 10000) d_Reader_takeUnit_101 rfl (by decide) ?_
        refine g_iload_n (pc1 := 105) d_Reader_takeUnit_104 rfl 2 rfl ?_
        refine g_iadd (pc1 := 106) d_Reader_takeUnit_105 rfl ?_
        refine g_sipush (pc1 := 109) (v := 140) d_Reader_takeUnit_106 rfl (by decide) ?_
        refine g_isub (pc1 := 110) d_Reader_takeUnit_109 rfl ?_
        refine g_callV0 (pc1 := 113) (As := [.int ((10000 + r2) - 140)]) (rest := []) d_Reader_takeUnit_110 rfl mo_Reader_222 mi_Law_add mv_Law_add rfl (shLw_0 hWl1) (ltLw_0 hWl1) (by decide) rfl rfl (Nat.le_of_ble_eq_true rfl) ?_
        obtain ⟨M11, hq10, h⟩ := bnd h
        refine f_Law_add hld hWl1 hq10 ?_
        dsimp only [psh]
        refine g_aload_n (pc1 := 114) d_Reader_takeUnit_113 rfl 0 rfl ?_
        refine g_callV0 (pc1 := 117) (As := []) (rest := []) d_Reader_takeUnit_114 rfl mo_Reader_108 mi_Reader_take mv_Reader_take rfl sh_3 (by decide) (by decide) rfl rfl (Nat.le_of_ble_eq_true rfl) ?_
        obtain ⟨M13, hq12, h⟩ := bnd h
        refine f_Reader_take hld  hq12 ?_
        dsimp only [psh]
        refine g_goto (tgt := 125) d_Reader_takeUnit_117 (by decide) ?_
        refine g_iconst (pc1 := 126) (v := 0) d_Reader_takeUnit_125 rfl (by decide) ?_
        refine g_ireturn (Or.inr ⟨rfl, rfl⟩) d_Reader_takeUnit_126 rfl ?_
        cases h; exact hQ
    · replace h := itp h c4
      refine g_aload_n (pc1 := 65) d_Reader_takeUnit_64 rfl 1 rfl ?_
      refine g_aload_n (pc1 := 66) d_Reader_takeUnit_65 rfl 0 rfl ?_
      refine g_getr (pc1 := 69) d_Reader_takeUnit_66 rfl ⟨_, fo_Reader_12⟩ sh_3 (by decide) (rf_3_0 ld) ?_
      refine g_aload_n (pc1 := 70) d_Reader_takeUnit_69 rfl 0 rfl ?_
      refine g_geti (pc1 := 73) d_Reader_takeUnit_70 rfl ⟨_, fo_Reader_38⟩ sh_3 (by decide) ?_
      refine g_callV0 (pc1 := 76) (As := [.int (M 3 1)]) (rest := [.ref Wl1]) d_Reader_takeUnit_73 rfl mo_Reader_111 mi_Tokens_valueAt mv_Tokens_valueAt rfl sh_4 (by decide) (by decide) rfl rfl (Nat.le_of_ble_eq_true rfl) ?_
      obtain ⟨r15, hq14, h⟩ := bnd h
      refine f_Tokens_valueAt hld  hq14 ?_
      dsimp only [psh]
      refine g_l2i (pc1 := 77) d_Reader_takeUnit_76 rfl ?_
      refine g_callV0 (pc1 := 80) (As := [.int ((r15 : Int64).toInt32)]) (rest := []) d_Reader_takeUnit_77 rfl mo_Reader_222 mi_Law_add mv_Law_add rfl (shLw_0 hWl1) (ltLw_0 hWl1) (by decide) rfl rfl (Nat.le_of_ble_eq_true rfl) ?_
      obtain ⟨M17, hq16, h⟩ := bnd h
      refine f_Law_add hld hWl1 hq16 ?_
      dsimp only [psh]
      refine g_aload_n (pc1 := 81) d_Reader_takeUnit_80 rfl 0 rfl ?_
      refine g_callV0 (pc1 := 84) (As := []) (rest := []) d_Reader_takeUnit_81 rfl mo_Reader_108 mi_Reader_take mv_Reader_take rfl sh_3 (by decide) (by decide) rfl rfl (Nat.le_of_ble_eq_true rfl) ?_
      obtain ⟨M19, hq18, h⟩ := bnd h
      refine f_Reader_take hld  hq18 ?_
      dsimp only [psh]
      refine g_goto (tgt := 125) d_Reader_takeUnit_84 (by decide) ?_
      refine g_iconst (pc1 := 126) (v := 0) d_Reader_takeUnit_125 rfl (by decide) ?_
      refine g_ireturn (Or.inr ⟨rfl, rfl⟩) d_Reader_takeUnit_126 rfl ?_
      cases h; exact hQ
  · replace h := itp h c3
    refine g_aload_n (pc1 := 22) d_Reader_takeUnit_21 rfl 0 rfl ?_
    refine g_geti (pc1 := 25) d_Reader_takeUnit_22 rfl ⟨_, fo_Reader_196⟩ sh_3 (by decide) ?_
    refine g_bipush (pc1 := 27) (v := 6) d_Reader_takeUnit_25 rfl (by decide) ?_
    refine g_icmp_lt (pc1 := 30) (tgt := 37) d_Reader_takeUnit_27 (by decide) rfl (fun c20 => ?_) (fun c20 => ?_)
    · replace h := itp h c20
      refine g_aload_n (pc1 := 38) d_Reader_takeUnit_37 rfl 0 rfl ?_
      refine g_dup (pc1 := 39) d_Reader_takeUnit_38 rfl rfl ?_
      refine g_geti (pc1 := 42) d_Reader_takeUnit_39 rfl ⟨_, fo_Reader_196⟩ sh_3 (by decide) ?_
      refine g_iconst (pc1 := 43) (v := 1) d_Reader_takeUnit_42 rfl (by decide) ?_
      refine g_iadd (pc1 := 44) d_Reader_takeUnit_43 rfl ?_
      refine g_puti (pc1 := 47) d_Reader_takeUnit_44 rfl fo_Reader_196 (po_2_11 _) sh_3 (by decide) ?_
      refine Wp.lM h (fun M21 h => ?_)
      refine g_aload_n (pc1 := 48) d_Reader_takeUnit_47 rfl 0 rfl ?_
      refine g_bipush (pc1 := 50) (v := 40) d_Reader_takeUnit_48 rfl (by decide) ?_
      refine g_callV0 (pc1 := 53) (As := [.int 40]) (rest := []) d_Reader_takeUnit_50 rfl mo_Reader_219 mi_Reader_holdSign mv_Reader_holdSign rfl sh_3 (by decide) (by decide) rfl rfl (Nat.le_of_ble_eq_true rfl) ?_
      obtain ⟨M23, hq22, h⟩ := bnd h
      refine f_Reader_holdSign hld  hq22 ?_
      dsimp only [psh]
      refine g_aload_n (pc1 := 54) d_Reader_takeUnit_53 rfl 0 rfl ?_
      refine g_callV0 (pc1 := 57) (As := []) (rest := []) d_Reader_takeUnit_54 rfl mo_Reader_108 mi_Reader_take mv_Reader_take rfl sh_3 (by decide) (by decide) rfl rfl (Nat.le_of_ble_eq_true rfl) ?_
      obtain ⟨M25, hq24, h⟩ := bnd h
      refine f_Reader_take hld  hq24 ?_
      dsimp only [psh]
      refine g_iconst (pc1 := 58) (v := 1) d_Reader_takeUnit_57 rfl (by decide) ?_
      refine g_ireturn (Or.inr ⟨rfl, rfl⟩) d_Reader_takeUnit_58 rfl ?_
      cases h; exact hQ
    · replace h := itn h c20
      refine g_aload_n (pc1 := 31) d_Reader_takeUnit_30 rfl 0 rfl ?_
      refine g_iconst (pc1 := 32) (v := 2) d_Reader_takeUnit_31 rfl (by decide) ?_
      refine g_callV0 (pc1 := 35) (As := [.int 2]) (rest := []) d_Reader_takeUnit_32 rfl mo_Reader_95 mi_Reader_stop mv_Reader_stop rfl sh_3 (by decide) (by decide) rfl rfl (Nat.le_of_ble_eq_true rfl) ?_
      obtain ⟨M27, hq26, h⟩ := bnd h
      refine f_Reader_stop hld  hq26 ?_
      dsimp only [psh]
      refine g_iconst (pc1 := 36) (v := 1) d_Reader_takeUnit_35 rfl (by decide) ?_
      refine g_ireturn (Or.inr ⟨rfl, rfl⟩) d_Reader_takeUnit_36 rfl ?_
      cases h; exact hQ

def F_Slots_bring (p1 : Int32) (X2 : Nat) (M : gM) : Option (Int32 × gM) :=
  (if p1 < 0 then some (0, M) else (if 3 ≤ p1 then some (0, M) else (if (p1 : Int32) < 0 ∨ 3 ≤ (p1 : Int32).toNatClampNeg then none else bI (F_Main_hasBit (M 360 1) p1) (fun r5 => (if r5 = 0 then some (0, M) else (if (p1 : Int32) < 0 ∨ 3 ≤ (p1 : Int32).toNatClampNeg then none else bI (F_State_copyFrom X2 (362 + 7 * (p1 : Int32).toNatClampNeg) M) (fun M9 => some (1, M9))))))))
set_option maxHeartbeats 4000000 in
set_option maxRecDepth 20000 in
theorem f_Slots_bring {l : Launch} {ld : Nat} {M : gM} {L : gL} {Q : Option Value → gM → gL → gR → Prop} (hld : isLa ld) {p1 : Int32} {X2 : Nat} (hX2 : isSt X2) {q : Int32 × gM} (h : F_Slots_bring p1 X2 M = some q) (hQ : Q (some (.int q.1)) q.2 L (rf ld)) : Tm l y_Slots_bring (0, 0, 447) 447 [.ref 360, .int p1, .ref X2] M L (rf ld) Q := by
  refine Tm.of (by decide) (Nat.le_of_ble_eq_true rfl) ?_
  show Wp l y_Slots_bring (0, 0, 447) 447 0 0 0 [(0, .ref 360), (1, .int p1), (2, .ref X2)] [] M L (rf ld) Q
  unfold F_Slots_bring at h
  refine g_iload_n (pc1 := 1) d_Slots_bring_0 rfl 1 rfl ?_
  refine g_if_lt (pc1 := 4) (tgt := 33) d_Slots_bring_1 (by decide) rfl (fun c1 => ?_) (fun c1 => ?_)
  · replace h := itp h c1
    refine g_iconst (pc1 := 34) (v := 0) d_Slots_bring_33 rfl (by decide) ?_
    refine g_ireturn (Or.inr ⟨rfl, rfl⟩) d_Slots_bring_34 rfl ?_
    cases h; exact hQ
  · replace h := itn h c1
    refine g_iload_n (pc1 := 5) d_Slots_bring_4 rfl 1 rfl ?_
    refine g_aload_n (pc1 := 6) d_Slots_bring_5 rfl 0 rfl ?_
    refine g_getr (pc1 := 9) d_Slots_bring_6 rfl ⟨_, fo_Slots_11⟩ sh_360 (by decide) (rf_360_0 ld) ?_
    refine g_alen (pc1 := 10) (v := 3) d_Slots_bring_9 rfl sh_361 (by decide) (by decide) (by decide) (by decide) ?_
    refine g_icmp_ge (pc1 := 13) (tgt := 33) d_Slots_bring_10 (by decide) rfl (fun c2 => ?_) (fun c2 => ?_)
    · replace h := itp h c2
      refine g_iconst (pc1 := 34) (v := 0) d_Slots_bring_33 rfl (by decide) ?_
      refine g_ireturn (Or.inr ⟨rfl, rfl⟩) d_Slots_bring_34 rfl ?_
      cases h; exact hQ
    · replace h := itn h c2
      refine g_aload_n (pc1 := 14) d_Slots_bring_13 rfl 0 rfl ?_
      refine g_getr (pc1 := 17) d_Slots_bring_14 rfl ⟨_, fo_Slots_11⟩ sh_360 (by decide) (rf_360_0 ld) ?_
      refine g_iload_n (pc1 := 18) d_Slots_bring_17 rfl 1 rfl ?_
      obtain ⟨g3, h⟩ := gdn h
      refine g_aald (pc1 := 19) d_Slots_bring_18 rfl sh_361 (by decide) g3 (rfA_361 ld g3).2 ?_
      refine g_null (pc1 := 22) d_Slots_bring_19 rfl ?_
      refine g_aload_n (pc1 := 23) d_Slots_bring_22 rfl 0 rfl ?_
      refine g_geti (pc1 := 26) d_Slots_bring_23 rfl ⟨_, fo_Slots_18⟩ sh_360 (by decide) ?_
      refine g_iload_n (pc1 := 27) d_Slots_bring_26 rfl 1 rfl ?_
      refine g_callS0 (pc1 := 30) (As := [.int (M 360 1), .int p1]) (rest := []) d_Slots_bring_27 rfl mo_Slots_26 ms_Main_hasBit (by decide) rfl rfl (Nat.le_of_ble_eq_true rfl) ?_
      obtain ⟨r5, hq4, h⟩ := bnd h
      refine f_Main_hasBit hld  hq4 ?_
      dsimp only [psh]
      refine g_if_ne (pc1 := 33) (tgt := 35) d_Slots_bring_30 (by decide) rfl (fun c6 => ?_) (fun c6 => ?_)
      · replace h := itn h c6
        refine g_aload_n (pc1 := 36) d_Slots_bring_35 rfl 2 rfl ?_
        refine g_aload_n (pc1 := 37) d_Slots_bring_36 rfl 0 rfl ?_
        refine g_getr (pc1 := 40) d_Slots_bring_37 rfl ⟨_, fo_Slots_11⟩ sh_360 (by decide) (rf_360_0 ld) ?_
        refine g_iload_n (pc1 := 41) d_Slots_bring_40 rfl 1 rfl ?_
        obtain ⟨g7, h⟩ := gdn h
        refine g_aald (pc1 := 42) d_Slots_bring_41 rfl sh_361 (by decide) g7 (rfA_361 ld g7).2 ?_
        refine g_callV0 (pc1 := 45) (As := [.ref (362 + 7 * (p1 : Int32).toNatClampNeg)]) (rest := []) d_Slots_bring_42 rfl mo_Slots_22 mi_State_copyFrom mv_State_copyFrom rfl (shSt_0 hX2) (ltSt_0 hX2) (by decide) rfl rfl (Nat.le_of_ble_eq_true rfl) ?_
        obtain ⟨M9, hq8, h⟩ := bnd h
        refine f_State_copyFrom hld hX2 (rfA_361 ld g7).1 hq8 ?_
        dsimp only [psh]
        refine g_iconst (pc1 := 46) (v := 1) d_Slots_bring_45 rfl (by decide) ?_
        refine g_ireturn (Or.inr ⟨rfl, rfl⟩) d_Slots_bring_46 rfl ?_
        cases h; exact hQ
      · replace h := itp h c6
        refine g_iconst (pc1 := 34) (v := 0) d_Slots_bring_33 rfl (by decide) ?_
        refine g_ireturn (Or.inr ⟨rfl, rfl⟩) d_Slots_bring_34 rfl ?_
        cases h; exact hQ

def F_Slots_keep (p1 : Int32) (X2 : Nat) (M : gM) : Option (Int32 × gM) :=
  (if p1 < 0 then some (0, M) else (if 3 ≤ p1 then some (0, M) else (if (p1 : Int32) < 0 ∨ 3 ≤ (p1 : Int32).toNatClampNeg then none else (if (p1 : Int32) < 0 ∨ 3 ≤ (p1 : Int32).toNatClampNeg then none else bI (F_State_copyFrom (362 + 7 * (p1 : Int32).toNatClampNeg) X2 M) (fun M6 => nmM (uM M6 360 1 ((M6 360 1) ||| (1 <<< (p1 &&& 31)))) (fun M7 => some (1, M7)))))))
set_option maxHeartbeats 4000000 in
set_option maxRecDepth 20000 in
theorem f_Slots_keep {l : Launch} {ld : Nat} {M : gM} {L : gL} {Q : Option Value → gM → gL → gR → Prop} (hld : isLa ld) {p1 : Int32} {X2 : Nat} (hX2 : isSt X2) {q : Int32 × gM} (h : F_Slots_keep p1 X2 M = some q) (hQ : Q (some (.int q.1)) q.2 L (rf ld)) : Tm l y_Slots_keep (0, 0, 447) 447 [.ref 360, .int p1, .ref X2] M L (rf ld) Q := by
  refine Tm.of (by decide) (Nat.le_of_ble_eq_true rfl) ?_
  show Wp l y_Slots_keep (0, 0, 447) 447 0 0 0 [(0, .ref 360), (1, .int p1), (2, .ref X2)] [] M L (rf ld) Q
  unfold F_Slots_keep at h
  refine g_iload_n (pc1 := 1) d_Slots_keep_0 rfl 1 rfl ?_
  refine g_if_lt (pc1 := 4) (tgt := 22) d_Slots_keep_1 (by decide) rfl (fun c1 => ?_) (fun c1 => ?_)
  · replace h := itp h c1
    refine g_iconst (pc1 := 23) (v := 0) d_Slots_keep_22 rfl (by decide) ?_
    refine g_ireturn (Or.inr ⟨rfl, rfl⟩) d_Slots_keep_23 rfl ?_
    cases h; exact hQ
  · replace h := itn h c1
    refine g_iload_n (pc1 := 5) d_Slots_keep_4 rfl 1 rfl ?_
    refine g_aload_n (pc1 := 6) d_Slots_keep_5 rfl 0 rfl ?_
    refine g_getr (pc1 := 9) d_Slots_keep_6 rfl ⟨_, fo_Slots_11⟩ sh_360 (by decide) (rf_360_0 ld) ?_
    refine g_alen (pc1 := 10) (v := 3) d_Slots_keep_9 rfl sh_361 (by decide) (by decide) (by decide) (by decide) ?_
    refine g_icmp_ge (pc1 := 13) (tgt := 22) d_Slots_keep_10 (by decide) rfl (fun c2 => ?_) (fun c2 => ?_)
    · replace h := itp h c2
      refine g_iconst (pc1 := 23) (v := 0) d_Slots_keep_22 rfl (by decide) ?_
      refine g_ireturn (Or.inr ⟨rfl, rfl⟩) d_Slots_keep_23 rfl ?_
      cases h; exact hQ
    · replace h := itn h c2
      refine g_aload_n (pc1 := 14) d_Slots_keep_13 rfl 0 rfl ?_
      refine g_getr (pc1 := 17) d_Slots_keep_14 rfl ⟨_, fo_Slots_11⟩ sh_360 (by decide) (rf_360_0 ld) ?_
      refine g_iload_n (pc1 := 18) d_Slots_keep_17 rfl 1 rfl ?_
      obtain ⟨g3, h⟩ := gdn h
      refine g_aald (pc1 := 19) d_Slots_keep_18 rfl sh_361 (by decide) g3 (rfA_361 ld g3).2 ?_
      refine g_nonnull (tgt := 24) d_Slots_keep_19 (by decide) ?_
      refine g_aload_n (pc1 := 25) d_Slots_keep_24 rfl 0 rfl ?_
      refine g_getr (pc1 := 28) d_Slots_keep_25 rfl ⟨_, fo_Slots_11⟩ sh_360 (by decide) (rf_360_0 ld) ?_
      refine g_iload_n (pc1 := 29) d_Slots_keep_28 rfl 1 rfl ?_
      obtain ⟨g4, h⟩ := gdn h
      refine g_aald (pc1 := 30) d_Slots_keep_29 rfl sh_361 (by decide) g4 (rfA_361 ld g4).2 ?_
      refine g_aload_n (pc1 := 31) d_Slots_keep_30 rfl 2 rfl ?_
      refine g_callV0 (pc1 := 34) (As := [.ref X2]) (rest := []) d_Slots_keep_31 rfl mo_Slots_22 mi_State_copyFrom mv_State_copyFrom rfl (shSt_0 (rfA_361 ld g4).1) (ltSt_0 (rfA_361 ld g4).1) (by decide) rfl rfl (Nat.le_of_ble_eq_true rfl) ?_
      obtain ⟨M6, hq5, h⟩ := bnd h
      refine f_State_copyFrom hld (rfA_361 ld g4).1 hX2 hq5 ?_
      dsimp only [psh]
      refine g_aload_n (pc1 := 35) d_Slots_keep_34 rfl 0 rfl ?_
      refine g_dup (pc1 := 36) d_Slots_keep_35 rfl rfl ?_
      refine g_geti (pc1 := 39) d_Slots_keep_36 rfl ⟨_, fo_Slots_18⟩ sh_360 (by decide) ?_
      refine g_iconst (pc1 := 40) (v := 1) d_Slots_keep_39 rfl (by decide) ?_
      refine g_iload_n (pc1 := 41) d_Slots_keep_40 rfl 1 rfl ?_
      refine g_ishl (pc1 := 42) d_Slots_keep_41 rfl ?_
      refine g_ior (pc1 := 43) d_Slots_keep_42 rfl ?_
      refine g_puti (pc1 := 46) d_Slots_keep_43 rfl fo_Slots_18 (po_8_1 _) sh_360 (by decide) ?_
      refine Wp.lM h (fun M7 h => ?_)
      refine g_iconst (pc1 := 47) (v := 1) d_Slots_keep_46 rfl (by decide) ?_
      refine g_ireturn (Or.inr ⟨rfl, rfl⟩) d_Slots_keep_47 rfl ?_
      cases h; exact hQ

def B_State_inStore_2 (X0 : Nat) (Ld1 : Nat) (v2 : Int32) (M : gM) (K2 : Int32 → Option (Int32)) : Int32 → Option (Int32) := fun v3 =>
  (if (M Ld1 0) ≤ v3 then some 1 else bI (F_Main_at (X0 + 2) 6 v3 M) (fun r3 => bI (F_Land_inDish Ld1 v2 v3 M) (fun r5 => (if r5 ≤ r3 then nmI (v3 + 1) (fun x7 => K2 x7) else some 0))))
def H_State_inStore_2 (X0 : Nat) (Ld1 : Nat) (v2 : Int32) (M : gM) : Nat → Int32 → Option (Int32) := lpK (B_State_inStore_2 X0 Ld1 v2 M) (fun _ => none)
set_option maxHeartbeats 4000000 in
set_option maxRecDepth 20000 in
theorem h_State_inStore_2 {l : Launch} {ld : Nat} {Q : Option Value → gM → gL → gR → Prop} (hld : isLa ld) {X0 : Nat} {Ld1 : Nat} (hX0 : isSt X0) (hLd1 : isLa Ld1) {q : Int32} {M : gM} {L : gL} (hQ : Q (some (.int q)) M L (rf ld))  {v2 : Int32}  : ∀ (f : Nat) (v3 : Int32), H_State_inStore_2 X0 Ld1 v2 M f v3 = some q → Wp l y_State_inStore (0, 0, 447) 447 0 0 2 [(0, .ref X0), (1, .ref Ld1), (2, .int v2), (3, .int v3)] [] M L (rf ld) Q := by
  intro f
  induction f with
  | zero => intro v3 h; cases h
  | succ f hK2 =>
    intro v3 h
    replace h : B_State_inStore_2 X0 Ld1 v2 M (H_State_inStore_2 X0 Ld1 v2 M f) v3 = some q := h
    unfold B_State_inStore_2 at h
    refine g_iload_n (pc1 := 3) d_State_inStore_2 rfl 3 rfl ?_
    refine g_aload_n (pc1 := 4) d_State_inStore_3 rfl 1 rfl ?_
    refine g_geti (pc1 := 7) d_State_inStore_4 rfl ⟨_, fo_State_47⟩ (shLa_0 hLd1) (ltLa_0 hLd1) ?_
    refine g_icmp_ge (pc1 := 10) (tgt := 35) d_State_inStore_7 (by decide) rfl (fun c1 => ?_) (fun c1 => ?_)
    · replace h := itp h c1
      refine g_iconst (pc1 := 36) (v := 1) d_State_inStore_35 rfl (by decide) ?_
      refine g_ireturn (Or.inr ⟨rfl, rfl⟩) d_State_inStore_36 rfl ?_
      cases h; exact hQ
    · replace h := itn h c1
      refine g_aload_n (pc1 := 11) d_State_inStore_10 rfl 0 rfl ?_
      refine g_getr (pc1 := 14) d_State_inStore_11 rfl ⟨_, fo_State_19⟩ (shSt_0 hX0) (ltSt_0 hX0) (rfSt_5 ld hX0) ?_
      refine g_iload_n (pc1 := 15) d_State_inStore_14 rfl 3 rfl ?_
      refine g_callS0 (pc1 := 18) (As := [.ref (X0 + 2), .int v3]) (rest := []) d_State_inStore_15 rfl mo_State_53 ms_Main_at (by decide) rfl rfl (Nat.le_of_ble_eq_true rfl) ?_
      obtain ⟨r3, hq2, h⟩ := bnd h
      refine f_Main_at hld (shSt_2 hX0) (ltSt_2 hX0) (by decide) hq2 ?_
      dsimp only [psh]
      refine g_aload_n (pc1 := 19) d_State_inStore_18 rfl 1 rfl ?_
      refine g_iload_n (pc1 := 20) d_State_inStore_19 rfl 2 rfl ?_
      refine g_iload_n (pc1 := 21) d_State_inStore_20 rfl 3 rfl ?_
      refine g_callV0 (pc1 := 24) (As := [.int v2, .int v3]) (rest := [.int r3]) d_State_inStore_21 rfl mo_State_65 mi_Land_inDish mv_Land_inDish rfl (shLa_0 hLd1) (ltLa_0 hLd1) (by decide) rfl rfl (Nat.le_of_ble_eq_true rfl) ?_
      obtain ⟨r5, hq4, h⟩ := bnd h
      refine f_Land_inDish hld hLd1 hq4 ?_
      dsimp only [psh]
      refine g_icmp_ge (pc1 := 27) (tgt := 29) d_State_inStore_24 (by decide) rfl (fun c6 => ?_) (fun c6 => ?_)
      · replace h := itp h c6
        obtain ⟨x7, ex7, h⟩ := ltI h
        refine g_iinc (pc1 := 32) (v := x7) (lv' := [(0, .ref X0), (1, .ref Ld1), (2, .int v2), (3, .int x7)]) d_State_inStore_29 rfl 3 rfl (by rw [ex7]; rfl) (by decide) [1, 2, 3, 0] rfl ?_
        refine g_goto (tgt := 2) d_State_inStore_32 (by decide) ?_
        exact hK2 x7 h
      · replace h := itn h c6
        refine g_iconst (pc1 := 28) (v := 0) d_State_inStore_27 rfl (by decide) ?_
        refine g_ireturn (Or.inr ⟨rfl, rfl⟩) d_State_inStore_28 rfl ?_
        cases h; exact hQ
def F_State_inStore (X0 : Nat) (Ld1 : Nat) (p2 : Int32) (M : gM) : Option (Int32) :=
  H_State_inStore_2 X0 Ld1 p2 M FU 0
set_option maxHeartbeats 4000000 in
set_option maxRecDepth 20000 in
theorem f_State_inStore {l : Launch} {ld : Nat} {M : gM} {L : gL} {Q : Option Value → gM → gL → gR → Prop} (hld : isLa ld) {X0 : Nat} {Ld1 : Nat} {p2 : Int32} (hX0 : isSt X0) (hLd1 : isLa Ld1) {q : Int32} (h : F_State_inStore X0 Ld1 p2 M = some q) (hQ : Q (some (.int q)) M L (rf ld)) : Tm l y_State_inStore (0, 0, 447) 447 [.ref X0, .ref Ld1, .int p2] M L (rf ld) Q := by
  refine Tm.of (by decide) (Nat.le_of_ble_eq_true rfl) ?_
  show Wp l y_State_inStore (0, 0, 447) 447 0 0 0 [(0, .ref X0), (1, .ref Ld1), (2, .int p2)] [] M L (rf ld) Q
  unfold F_State_inStore at h
  refine g_iconst (pc1 := 1) (v := 0) d_State_inStore_0 rfl (by decide) ?_
  refine g_istore_n (pc1 := 2) (lv' := [(0, .ref X0), (1, .ref Ld1), (2, .int p2), (3, .int 0)]) d_State_inStore_1 rfl rfl (by decide) [1, 2, 3, 0] rfl ?_
  exact h_State_inStore_2 hld hX0 hLd1 hQ  _ 0 h

def J_Tokens_cutOne_82 (v2 : Int32) (s1 : Int32) (s2 : Int32) (M : gM) (L : gL) : Option (Int32 × gM × gL) :=
  bI2 (F_Tokens_set s1 s2 0 M L) (fun M10 L11 => some ((v2 + 1), M10, L11))
set_option maxHeartbeats 4000000 in
set_option maxRecDepth 20000 in
theorem j_Tokens_cutOne_82 {l : Launch} {ld : Nat} {Q : Option Value → gM → gL → gR → Prop} (hld : isLa ld)   {q : Int32 × gM × gL} {M : gM} {L : gL} (hQ : Q (some (.int q.1)) q.2.1 q.2.2 (rf ld))  {v2 : Int32} {s1 : Int32} {s2 : Int32}  (h : J_Tokens_cutOne_82 v2 s1 s2 M L = some q) : Wp l y_Tokens_cutOne (0, 0, 447) 447 0 0 82 [(2, .int v2)] [.int s2, .int s1, .ref 4] M L (rf ld) Q := by
  unfold J_Tokens_cutOne_82 at h
  refine g_lconst (pc1 := 83) (v := 0) d_Tokens_cutOne_82 rfl (by decide) ?_
  refine g_callV0 (pc1 := 86) (As := [.int s1, .int s2, .long 0]) (rest := []) d_Tokens_cutOne_83 rfl mo_Tokens_74 mi_Tokens_set mv_Tokens_set rfl sh_4 (by decide) (by decide) rfl rfl (Nat.le_of_ble_eq_true rfl) ?_
  obtain ⟨M10, L11, hq9, h⟩ := bnd2 h
  refine f_Tokens_set hld  hq9 ?_
  dsimp only [psh]
  refine g_iload_n (pc1 := 87) d_Tokens_cutOne_86 rfl 0 rfl ?_
  refine g_iconst (pc1 := 88) (v := 1) d_Tokens_cutOne_87 rfl (by decide) ?_
  refine g_iadd (pc1 := 89) d_Tokens_cutOne_88 rfl ?_
  refine g_ireturn (Or.inl rfl) d_Tokens_cutOne_89 rfl ?_
  cases h; exact hQ
def J_Tokens_cutOne_51 (v2 : Int32) (v3 : Int32) (v4 : Int32) (M : gM) (L : gL) : Option (Int32 × gM × gL) :=
  (if 0 ≤ v4 then bI (F_Tokens_isSign v4) (fun r7 => (if r7 = 0 then J_Tokens_cutOne_82 v2 v3 1 M L else J_Tokens_cutOne_82 v2 v3 v4 M L)) else bI2 (F_Tokens_set v3 0 0 M L) (fun M13 L14 => some ((v2 + 1), M13, L14)))
set_option maxHeartbeats 4000000 in
set_option maxRecDepth 20000 in
theorem j_Tokens_cutOne_51 {l : Launch} {ld : Nat} {Q : Option Value → gM → gL → gR → Prop} (hld : isLa ld)   {q : Int32 × gM × gL} {M : gM} {L : gL} (hQ : Q (some (.int q.1)) q.2.1 q.2.2 (rf ld))  {v2 : Int32} {v3 : Int32} {v4 : Int32}  (h : J_Tokens_cutOne_51 v2 v3 v4 M L = some q) : Wp l y_Tokens_cutOne (0, 0, 447) 447 0 0 51 [(0, .ref 4), (2, .int v2), (3, .int v3), (4, .int v4)] [] M L (rf ld) Q := by
  unfold J_Tokens_cutOne_51 at h
  refine g_iload (pc1 := 53) d_Tokens_cutOne_51 rfl 3 rfl ?_
  refine g_if_ge (pc1 := 56) (tgt := 66) d_Tokens_cutOne_53 (by decide) rfl (fun c5 => ?_) (fun c5 => ?_)
  · replace h := itp h c5
    refine g_aload_n (pc1 := 67) d_Tokens_cutOne_66 rfl 0 rfl ?_
    refine g_iload_n (pc1 := 68) d_Tokens_cutOne_67 rfl 2 rfl ?_
    refine g_iload (pc1 := 70) d_Tokens_cutOne_68 rfl 3 rfl ?_
    refine g_callS0 (pc1 := 73) (As := [.int v4]) (rest := [.int v3, .ref 4]) d_Tokens_cutOne_70 rfl mo_Tokens_78 ms_Tokens_isSign (by decide) rfl rfl (Nat.le_of_ble_eq_true rfl) ?_
    obtain ⟨r7, hq6, h⟩ := bnd h
    refine f_Tokens_isSign hld  hq6 ?_
    dsimp only [psh]
    refine g_if_eq (pc1 := 76) (tgt := 81) d_Tokens_cutOne_73 (by decide) rfl (fun c8 => ?_) (fun c8 => ?_)
    · replace h := itp h c8
      refine g_iconst (pc1 := 82) (v := 1) d_Tokens_cutOne_81 rfl (by decide) ?_
      refine Wp.loc (lv' := [(2, .int v2)]) [1] rfl ?_
      exact j_Tokens_cutOne_82 hld  hQ  h
    · replace h := itn h c8
      refine g_iload (pc1 := 78) d_Tokens_cutOne_76 rfl 3 rfl ?_
      refine g_goto (tgt := 82) d_Tokens_cutOne_78 (by decide) ?_
      refine Wp.loc (lv' := [(2, .int v2)]) [1] rfl ?_
      exact j_Tokens_cutOne_82 hld  hQ  h
  · replace h := itn h c5
    refine g_aload_n (pc1 := 57) d_Tokens_cutOne_56 rfl 0 rfl ?_
    refine g_iload_n (pc1 := 58) d_Tokens_cutOne_57 rfl 2 rfl ?_
    refine g_iconst (pc1 := 59) (v := 0) d_Tokens_cutOne_58 rfl (by decide) ?_
    refine g_lconst (pc1 := 60) (v := 0) d_Tokens_cutOne_59 rfl (by decide) ?_
    refine g_callV0 (pc1 := 63) (As := [.int v3, .int 0, .long 0]) (rest := []) d_Tokens_cutOne_60 rfl mo_Tokens_74 mi_Tokens_set mv_Tokens_set rfl sh_4 (by decide) (by decide) rfl rfl (Nat.le_of_ble_eq_true rfl) ?_
    obtain ⟨M13, L14, hq12, h⟩ := bnd2 h
    refine f_Tokens_set hld  hq12 ?_
    dsimp only [psh]
    refine g_goto (tgt := 86) d_Tokens_cutOne_63 (by decide) ?_
    refine g_iload_n (pc1 := 87) d_Tokens_cutOne_86 rfl 1 rfl ?_
    refine g_iconst (pc1 := 88) (v := 1) d_Tokens_cutOne_87 rfl (by decide) ?_
    refine g_iadd (pc1 := 89) d_Tokens_cutOne_88 rfl ?_
    refine g_ireturn (Or.inl rfl) d_Tokens_cutOne_89 rfl ?_
    cases h; exact hQ
def J_Tokens_cutOne_29 (v2 : Int32) (v3 : Int32) (v4 : Int32) (M : gM) (L : gL) : Option (Int32 × gM × gL) :=
  (if v4 < 48 then J_Tokens_cutOne_51 v2 v3 v4 M L else (if 57 < v4 then J_Tokens_cutOne_51 v2 v3 v4 M L else bI3 (F_Tokens_cutDigits v2 v3 M L) (fun r17 M18 L19 => some (r17, M18, L19))))
set_option maxHeartbeats 4000000 in
set_option maxRecDepth 20000 in
theorem j_Tokens_cutOne_29 {l : Launch} {ld : Nat} {Q : Option Value → gM → gL → gR → Prop} (hld : isLa ld)   {q : Int32 × gM × gL} {M : gM} {L : gL} (hQ : Q (some (.int q.1)) q.2.1 q.2.2 (rf ld))  {v2 : Int32} {v3 : Int32} {v4 : Int32}  (h : J_Tokens_cutOne_29 v2 v3 v4 M L = some q) : Wp l y_Tokens_cutOne (0, 0, 447) 447 0 0 29 [(0, .ref 4), (1, .ref 1), (2, .int v2), (3, .int v3), (4, .int v4)] [] M L (rf ld) Q := by
  unfold J_Tokens_cutOne_29 at h
  refine g_iload (pc1 := 31) d_Tokens_cutOne_29 rfl 4 rfl ?_
  refine g_bipush (pc1 := 33) (v := 48) d_Tokens_cutOne_31 rfl (by decide) ?_
  refine g_icmp_lt (pc1 := 36) (tgt := 51) d_Tokens_cutOne_33 (by decide) rfl (fun c4 => ?_) (fun c4 => ?_)
  · replace h := itp h c4
    refine Wp.loc (lv' := [(0, .ref 4), (2, .int v2), (3, .int v3), (4, .int v4)]) [0, 2, 3, 4] rfl ?_
    exact j_Tokens_cutOne_51 hld  hQ  h
  · replace h := itn h c4
    refine g_iload (pc1 := 38) d_Tokens_cutOne_36 rfl 4 rfl ?_
    refine g_bipush (pc1 := 40) (v := 57) d_Tokens_cutOne_38 rfl (by decide) ?_
    refine g_icmp_gt (pc1 := 43) (tgt := 51) d_Tokens_cutOne_40 (by decide) rfl (fun c15 => ?_) (fun c15 => ?_)
    · replace h := itp h c15
      refine Wp.loc (lv' := [(0, .ref 4), (2, .int v2), (3, .int v3), (4, .int v4)]) [0, 2, 3, 4] rfl ?_
      exact j_Tokens_cutOne_51 hld  hQ  h
    · replace h := itn h c15
      refine g_aload_n (pc1 := 44) d_Tokens_cutOne_43 rfl 0 rfl ?_
      refine g_aload_n (pc1 := 45) d_Tokens_cutOne_44 rfl 1 rfl ?_
      refine g_iload_n (pc1 := 46) d_Tokens_cutOne_45 rfl 2 rfl ?_
      refine g_iload_n (pc1 := 47) d_Tokens_cutOne_46 rfl 3 rfl ?_
      refine g_callV0 (pc1 := 50) (As := [.ref 1, .int v2, .int v3]) (rest := []) d_Tokens_cutOne_47 rfl mo_Tokens_71 mi_Tokens_cutDigits mv_Tokens_cutDigits rfl sh_4 (by decide) (by decide) rfl rfl (Nat.le_of_ble_eq_true rfl) ?_
      obtain ⟨r17, M18, L19, hq16, h⟩ := bnd3 h
      refine f_Tokens_cutDigits hld  hq16 ?_
      dsimp only [psh]
      refine g_ireturn (Or.inl rfl) d_Tokens_cutOne_50 rfl ?_
      cases h; exact hQ
def F_Tokens_cutOne (p2 : Int32) (p3 : Int32) (M : gM) (L : gL) : Option (Int32 × gM × gL) :=
  bI (F_Tape_byteAt p2 M) (fun r2 => (if r2 < 97 then J_Tokens_cutOne_29 p2 p3 r2 M L else (if 122 < r2 then J_Tokens_cutOne_29 p2 p3 r2 M L else bI3 (F_Tokens_cutLetters p2 p3 M L) (fun r22 M23 L24 => some (r22, M23, L24)))))
set_option maxHeartbeats 4000000 in
set_option maxRecDepth 20000 in
theorem f_Tokens_cutOne {l : Launch} {ld : Nat} {M : gM} {L : gL} {Q : Option Value → gM → gL → gR → Prop} (hld : isLa ld) {p2 : Int32} {p3 : Int32}  {q : Int32 × gM × gL} (h : F_Tokens_cutOne p2 p3 M L = some q) (hQ : Q (some (.int q.1)) q.2.1 q.2.2 (rf ld)) : Tm l y_Tokens_cutOne (0, 0, 447) 447 [.ref 4, .ref 1, .int p2, .int p3] M L (rf ld) Q := by
  refine Tm.of (by decide) (Nat.le_of_ble_eq_true rfl) ?_
  show Wp l y_Tokens_cutOne (0, 0, 447) 447 0 0 0 [(0, .ref 4), (1, .ref 1), (2, .int p2), (3, .int p3)] [] M L (rf ld) Q
  unfold F_Tokens_cutOne at h
  refine g_aload_n (pc1 := 1) d_Tokens_cutOne_0 rfl 1 rfl ?_
  refine g_iload_n (pc1 := 2) d_Tokens_cutOne_1 rfl 2 rfl ?_
  refine g_callV0 (pc1 := 5) (As := [.int p2]) (rest := []) d_Tokens_cutOne_2 rfl mo_Tokens_60 mi_Tape_byteAt mv_Tape_byteAt rfl sh_1 (by decide) (by decide) rfl rfl (Nat.le_of_ble_eq_true rfl) ?_
  obtain ⟨r2, hq1, h⟩ := bnd h
  refine f_Tape_byteAt hld  hq1 ?_
  dsimp only [psh]
  refine g_istore (pc1 := 7) (lv' := [(0, .ref 4), (1, .ref 1), (2, .int p2), (3, .int p3), (4, .int r2)]) d_Tokens_cutOne_5 rfl (by decide) [1, 2, 3, 4, 0] rfl ?_
  refine g_iload (pc1 := 9) d_Tokens_cutOne_7 rfl 4 rfl ?_
  refine g_bipush (pc1 := 11) (v := 97) d_Tokens_cutOne_9 rfl (by decide) ?_
  refine g_icmp_lt (pc1 := 14) (tgt := 29) d_Tokens_cutOne_11 (by decide) rfl (fun c3 => ?_) (fun c3 => ?_)
  · replace h := itp h c3
    exact j_Tokens_cutOne_29 hld  hQ  h
  · replace h := itn h c3
    refine g_iload (pc1 := 16) d_Tokens_cutOne_14 rfl 4 rfl ?_
    refine g_bipush (pc1 := 18) (v := 122) d_Tokens_cutOne_16 rfl (by decide) ?_
    refine g_icmp_gt (pc1 := 21) (tgt := 29) d_Tokens_cutOne_18 (by decide) rfl (fun c20 => ?_) (fun c20 => ?_)
    · replace h := itp h c20
      exact j_Tokens_cutOne_29 hld  hQ  h
    · replace h := itn h c20
      refine g_aload_n (pc1 := 22) d_Tokens_cutOne_21 rfl 0 rfl ?_
      refine g_aload_n (pc1 := 23) d_Tokens_cutOne_22 rfl 1 rfl ?_
      refine g_iload_n (pc1 := 24) d_Tokens_cutOne_23 rfl 2 rfl ?_
      refine g_iload_n (pc1 := 25) d_Tokens_cutOne_24 rfl 3 rfl ?_
      refine g_callV0 (pc1 := 28) (As := [.ref 1, .int p2, .int p3]) (rest := []) d_Tokens_cutOne_25 rfl mo_Tokens_68 mi_Tokens_cutLetters mv_Tokens_cutLetters rfl sh_4 (by decide) (by decide) rfl rfl (Nat.le_of_ble_eq_true rfl) ?_
      obtain ⟨r22, M23, L24, hq21, h⟩ := bnd3 h
      refine f_Tokens_cutLetters hld  hq21 ?_
      dsimp only [psh]
      refine g_ireturn (Or.inl rfl) d_Tokens_cutOne_28 rfl ?_
      cases h; exact hQ

def F_Main_hold (p1 : Int32) (M : gM) : Option (Int32 × gM) :=
  bI2 (F_Slots_keep p1 64 M) (fun r2 M3 => (if r2 = 0 ∨ r2 = 1 then some (r2, M3) else none))
set_option maxHeartbeats 4000000 in
set_option maxRecDepth 20000 in
theorem f_Main_hold {l : Launch} {ld : Nat} {M : gM} {L : gL} {Q : Option Value → gM → gL → gR → Prop} (hld : isLa ld) {p1 : Int32}  {q : Int32 × gM} (h : F_Main_hold p1 M = some q) (hQ : Q (some (.int q.1)) q.2 L (rf ld)) : Tm l y_Main_hold (0, 0, 447) 447 [.ref 0, .int p1] M L (rf ld) Q := by
  refine Tm.of (by decide) (Nat.le_of_ble_eq_true rfl) ?_
  show Wp l y_Main_hold (0, 0, 447) 447 0 0 0 [(0, .ref 0), (1, .int p1)] [] M L (rf ld) Q
  unfold F_Main_hold at h
  refine g_aload_n (pc1 := 1) d_Main_hold_0 rfl 0 rfl ?_
  refine g_getr (pc1 := 4) d_Main_hold_1 rfl ⟨_, fo_Main_53⟩ sh_0 (by decide) (rf_0_7 ld) ?_
  refine g_iload_n (pc1 := 5) d_Main_hold_4 rfl 1 rfl ?_
  refine g_aload_n (pc1 := 6) d_Main_hold_5 rfl 0 rfl ?_
  refine g_getr (pc1 := 9) d_Main_hold_6 rfl ⟨_, fo_Main_36⟩ sh_0 (by decide) (rf_0_4 ld) ?_
  refine g_callV0 (pc1 := 12) (As := [.int p1, .ref 64]) (rest := []) d_Main_hold_9 rfl mo_Main_291 mi_Slots_keep mv_Slots_keep rfl sh_360 (by decide) (by decide) rfl rfl (Nat.le_of_ble_eq_true rfl) ?_
  obtain ⟨r2, M3, hq1, h⟩ := bnd2 h
  refine f_Slots_keep hld isSt_64 hq1 ?_
  dsimp only [psh]
  obtain ⟨g4, h⟩ := gdp h
  refine g_ireturn (Or.inr ⟨rfl, nar01 g4⟩) d_Main_hold_12 rfl ?_
  cases h; exact hQ

def F_Main_restore (p1 : Int32) (M : gM) : Option (Int32 × gM) :=
  bI2 (F_Slots_bring p1 64 M) (fun r2 M3 => (if r2 = 0 then some (0, M3) else bI (F_Past_clear M3) (fun M6 => some (1, M6))))
set_option maxHeartbeats 4000000 in
set_option maxRecDepth 20000 in
theorem f_Main_restore {l : Launch} {ld : Nat} {M : gM} {L : gL} {Q : Option Value → gM → gL → gR → Prop} (hld : isLa ld) {p1 : Int32}  {q : Int32 × gM} (h : F_Main_restore p1 M = some q) (hQ : Q (some (.int q.1)) q.2 L (rf ld)) : Tm l y_Main_restore (0, 0, 447) 447 [.ref 0, .int p1] M L (rf ld) Q := by
  refine Tm.of (by decide) (Nat.le_of_ble_eq_true rfl) ?_
  show Wp l y_Main_restore (0, 0, 447) 447 0 0 0 [(0, .ref 0), (1, .int p1)] [] M L (rf ld) Q
  unfold F_Main_restore at h
  refine g_aload_n (pc1 := 1) d_Main_restore_0 rfl 0 rfl ?_
  refine g_getr (pc1 := 4) d_Main_restore_1 rfl ⟨_, fo_Main_53⟩ sh_0 (by decide) (rf_0_7 ld) ?_
  refine g_iload_n (pc1 := 5) d_Main_restore_4 rfl 1 rfl ?_
  refine g_aload_n (pc1 := 6) d_Main_restore_5 rfl 0 rfl ?_
  refine g_getr (pc1 := 9) d_Main_restore_6 rfl ⟨_, fo_Main_36⟩ sh_0 (by decide) (rf_0_4 ld) ?_
  refine g_callV0 (pc1 := 12) (As := [.int p1, .ref 64]) (rest := []) d_Main_restore_9 rfl mo_Main_294 mi_Slots_bring mv_Slots_bring rfl sh_360 (by decide) (by decide) rfl rfl (Nat.le_of_ble_eq_true rfl) ?_
  obtain ⟨r2, M3, hq1, h⟩ := bnd2 h
  refine f_Slots_bring hld isSt_64 hq1 ?_
  dsimp only [psh]
  refine g_if_ne (pc1 := 15) (tgt := 17) d_Main_restore_12 (by decide) rfl (fun c4 => ?_) (fun c4 => ?_)
  · replace h := itn h c4
    refine g_aload_n (pc1 := 18) d_Main_restore_17 rfl 0 rfl ?_
    refine g_getr (pc1 := 21) d_Main_restore_18 rfl ⟨_, fo_Main_46⟩ sh_0 (by decide) (rf_0_6 ld) ?_
    refine g_callV0 (pc1 := 24) (As := []) (rest := []) d_Main_restore_21 rfl mo_Main_104 mi_Past_clear mv_Past_clear rfl sh_78 (by decide) (by decide) rfl rfl (Nat.le_of_ble_eq_true rfl) ?_
    obtain ⟨M6, hq5, h⟩ := bnd h
    refine f_Past_clear hld  hq5 ?_
    dsimp only [psh]
    refine g_iconst (pc1 := 25) (v := 1) d_Main_restore_24 rfl (by decide) ?_
    refine g_ireturn (Or.inr ⟨rfl, rfl⟩) d_Main_restore_25 rfl ?_
    cases h; exact hQ
  · replace h := itp h c4
    refine g_iconst (pc1 := 16) (v := 0) d_Main_restore_15 rfl (by decide) ?_
    refine g_ireturn (Or.inr ⟨rfl, rfl⟩) d_Main_restore_16 rfl ?_
    cases h; exact hQ

