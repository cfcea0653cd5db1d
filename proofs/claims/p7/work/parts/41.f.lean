def F_Main_at (a1 N1 : Nat) (p2 : Int32) (M : gM) : Option (Int32) :=
  (if p2 < 0 then some 0 else (if (Int32.ofNat N1) ≤ p2 then some 0 else (if (p2 : Int32) < 0 ∨ N1 ≤ (p2 : Int32).toNatClampNeg then none else some (M a1 (p2 : Int32).toNatClampNeg))))
set_option maxHeartbeats 4000000 in
set_option maxRecDepth 20000 in
theorem f_Main_at {l : Launch} {ld : Nat} {M : gM} {L : gL} {Q : Option Value → gM → gL → gR → Prop} (hld : isLa ld) {a1 N1 : Nat} {p2 : Int32} (hs1 : SH a1 = (1, N1)) (ha1 : a1 < 447) (hN1 : N1 < 2 ^ 31) {q : Int32} (h : F_Main_at a1 N1 p2 M = some q) (hQ : Q (some (.int q)) M L (rf ld)) : Tm l y_Main_at (0, 0, 447) 447 [.ref a1, .int p2] M L (rf ld) Q := by
  refine Tm.of (by decide) (Nat.le_of_ble_eq_true rfl) ?_
  show Wp l y_Main_at (0, 0, 447) 447 0 0 0 [(0, .ref a1), (1, .int p2)] [] M L (rf ld) Q
  unfold F_Main_at at h
  refine g_iload_n (pc1 := 1) d_Main_at_0 rfl 1 rfl ?_
  refine g_if_lt (pc1 := 4) (tgt := 16) d_Main_at_1 (by decide) rfl (fun c1 => ?_) (fun c1 => ?_)
  · replace h := itp h c1
    refine g_iconst (pc1 := 17) (v := 0) d_Main_at_16 rfl (by decide) ?_
    refine g_ireturn (Or.inl rfl) d_Main_at_17 rfl ?_
    cases h; exact hQ
  · replace h := itn h c1
    refine g_iload_n (pc1 := 5) d_Main_at_4 rfl 1 rfl ?_
    refine g_aload_n (pc1 := 6) d_Main_at_5 rfl 0 rfl ?_
    refine g_alen (pc1 := 7) (v := Int32.ofNat N1) d_Main_at_6 rfl hs1 (by decide) (by decide) ha1 rfl ?_
    refine g_icmp_ge (pc1 := 10) (tgt := 16) d_Main_at_7 (by decide) rfl (fun c2 => ?_) (fun c2 => ?_)
    · replace h := itp h c2
      refine g_iconst (pc1 := 17) (v := 0) d_Main_at_16 rfl (by decide) ?_
      refine g_ireturn (Or.inl rfl) d_Main_at_17 rfl ?_
      cases h; exact hQ
    · replace h := itn h c2
      refine g_aload_n (pc1 := 11) d_Main_at_10 rfl 0 rfl ?_
      refine g_iload_n (pc1 := 12) d_Main_at_11 rfl 1 rfl ?_
      obtain ⟨g3, h⟩ := gdn h
      refine g_iald (pc1 := 13) d_Main_at_12 rfl hs1 ha1 g3 ?_
      refine g_goto (tgt := 17) d_Main_at_13 (by decide) ?_
      refine g_ireturn (Or.inl rfl) d_Main_at_17 rfl ?_
      cases h; exact hQ

def F_Main_back (p1 : Int32) (M : gM) : Option (Int32 × gM) :=
  (if p1 < 0 then some ((-1), M) else (if p1 ≤ (M 1 1) then nmM (uM M 1 1 ((M 1 1) - p1)) (fun M3 => some ((M3 1 1), M3)) else some ((-1), M)))
set_option maxHeartbeats 4000000 in
set_option maxRecDepth 20000 in
theorem f_Main_back {l : Launch} {ld : Nat} {M : gM} {L : gL} {Q : Option Value → gM → gL → gR → Prop} (hld : isLa ld) {p1 : Int32}  {q : Int32 × gM} (h : F_Main_back p1 M = some q) (hQ : Q (some (.int q.1)) q.2 L (rf ld)) : Tm l y_Main_back (0, 0, 447) 447 [.ref 0, .int p1] M L (rf ld) Q := by
  refine Tm.of (by decide) (Nat.le_of_ble_eq_true rfl) ?_
  show Wp l y_Main_back (0, 0, 447) 447 0 0 0 [(0, .ref 0), (1, .int p1)] [] M L (rf ld) Q
  unfold F_Main_back at h
  refine g_iload_n (pc1 := 1) d_Main_back_0 rfl 1 rfl ?_
  refine g_if_lt (pc1 := 4) (tgt := 15) d_Main_back_1 (by decide) rfl (fun c1 => ?_) (fun c1 => ?_)
  · replace h := itp h c1
    refine g_iconst (pc1 := 16) (v := (-1)) d_Main_back_15 rfl (by decide) ?_
    refine g_ireturn (Or.inl rfl) d_Main_back_16 rfl ?_
    cases h; exact hQ
  · replace h := itn h c1
    refine g_iload_n (pc1 := 5) d_Main_back_4 rfl 1 rfl ?_
    refine g_aload_n (pc1 := 6) d_Main_back_5 rfl 0 rfl ?_
    refine g_getr (pc1 := 9) d_Main_back_6 rfl ⟨_, fo_Main_12⟩ sh_0 (by decide) (rf_0_0 ld) ?_
    refine g_geti (pc1 := 12) d_Main_back_9 rfl ⟨_, fo_Main_82⟩ sh_1 (by decide) ?_
    refine g_icmp_le (pc1 := 15) (tgt := 17) d_Main_back_12 (by decide) rfl (fun c2 => ?_) (fun c2 => ?_)
    · replace h := itp h c2
      refine g_aload_n (pc1 := 18) d_Main_back_17 rfl 0 rfl ?_
      refine g_getr (pc1 := 21) d_Main_back_18 rfl ⟨_, fo_Main_12⟩ sh_0 (by decide) (rf_0_0 ld) ?_
      refine g_dup (pc1 := 22) d_Main_back_21 rfl rfl ?_
      refine g_geti (pc1 := 25) d_Main_back_22 rfl ⟨_, fo_Main_82⟩ sh_1 (by decide) ?_
      refine g_iload_n (pc1 := 26) d_Main_back_25 rfl 1 rfl ?_
      refine g_isub (pc1 := 27) d_Main_back_26 rfl ?_
      refine g_puti (pc1 := 30) d_Main_back_27 rfl fo_Main_82 (po_1_1 _) sh_1 (by decide) ?_
      refine Wp.lM h (fun M3 h => ?_)
      refine g_aload_n (pc1 := 31) d_Main_back_30 rfl 0 rfl ?_
      refine g_getr (pc1 := 34) d_Main_back_31 rfl ⟨_, fo_Main_12⟩ sh_0 (by decide) (rf_0_0 ld) ?_
      refine g_geti (pc1 := 37) d_Main_back_34 rfl ⟨_, fo_Main_82⟩ sh_1 (by decide) ?_
      refine g_ireturn (Or.inl rfl) d_Main_back_37 rfl ?_
      cases h; exact hQ
    · replace h := itn h c2
      refine g_iconst (pc1 := 16) (v := (-1)) d_Main_back_15 rfl (by decide) ?_
      refine g_ireturn (Or.inl rfl) d_Main_back_16 rfl ?_
      cases h; exact hQ

def B_Main_copyRow_2 (a1 N1 : Nat) (a2 N2 : Nat) (K2 : Int32 → gM → Option (gM)) : Int32 → gM → Option (gM) := fun v2 M =>
  (if (Int32.ofNat N1) ≤ v2 then some M else (if (Int32.ofNat N2) ≤ v2 then some M else (if (v2 : Int32) < 0 ∨ N1 ≤ (v2 : Int32).toNatClampNeg then none else (if (v2 : Int32) < 0 ∨ N2 ≤ (v2 : Int32).toNatClampNeg then none else nmM (uM M a2 (v2 : Int32).toNatClampNeg (M a1 (v2 : Int32).toNatClampNeg)) (fun M5 => nmI (v2 + 1) (fun x6 => K2 x6 M5))))))
def H_Main_copyRow_2 (a1 N1 : Nat) (a2 N2 : Nat) : Nat → Int32 → gM → Option (gM) := lpK (B_Main_copyRow_2 a1 N1 a2 N2) (fun _ _ => none)
set_option maxHeartbeats 4000000 in
set_option maxRecDepth 20000 in
theorem h_Main_copyRow_2 {l : Launch} {ld : Nat} {Q : Option Value → gM → gL → gR → Prop} (hld : isLa ld) {a1 N1 : Nat} {a2 N2 : Nat} (hs1 : SH a1 = (1, N1)) (ha1 : a1 < 447) (hN1 : N1 < 2 ^ 31) (hs2 : SH a2 = (1, N2)) (ha2 : a2 < 447) (hN2 : N2 < 2 ^ 31) {q : gM} {L : gL} (hQ : Q none q L (rf ld))    : ∀ (f : Nat) (v2 : Int32) (M : gM), H_Main_copyRow_2 a1 N1 a2 N2 f v2 M = some q → Wp l y_Main_copyRow (0, 0, 447) 447 0 0 2 [(0, .ref a1), (1, .ref a2), (2, .int v2)] [] M L (rf ld) Q := by
  intro f
  induction f with
  | zero => intro v2 M h; cases h
  | succ f hK2 =>
    intro v2 M h
    replace h : B_Main_copyRow_2 a1 N1 a2 N2 (H_Main_copyRow_2 a1 N1 a2 N2 f) v2 M = some q := h
    unfold B_Main_copyRow_2 at h
    refine g_iload_n (pc1 := 3) d_Main_copyRow_2 rfl 2 rfl ?_
    refine g_aload_n (pc1 := 4) d_Main_copyRow_3 rfl 0 rfl ?_
    refine g_alen (pc1 := 5) (v := Int32.ofNat N1) d_Main_copyRow_4 rfl hs1 (by decide) (by decide) ha1 rfl ?_
    refine g_icmp_ge (pc1 := 8) (tgt := 26) d_Main_copyRow_5 (by decide) rfl (fun c1 => ?_) (fun c1 => ?_)
    · replace h := itp h c1
      refine g_return rfl d_Main_copyRow_26 rfl ?_
      cases h; exact hQ
    · replace h := itn h c1
      refine g_iload_n (pc1 := 9) d_Main_copyRow_8 rfl 2 rfl ?_
      refine g_aload_n (pc1 := 10) d_Main_copyRow_9 rfl 1 rfl ?_
      refine g_alen (pc1 := 11) (v := Int32.ofNat N2) d_Main_copyRow_10 rfl hs2 (by decide) (by decide) ha2 rfl ?_
      refine g_icmp_ge (pc1 := 14) (tgt := 26) d_Main_copyRow_11 (by decide) rfl (fun c2 => ?_) (fun c2 => ?_)
      · replace h := itp h c2
        refine g_return rfl d_Main_copyRow_26 rfl ?_
        cases h; exact hQ
      · replace h := itn h c2
        refine g_aload_n (pc1 := 15) d_Main_copyRow_14 rfl 1 rfl ?_
        refine g_iload_n (pc1 := 16) d_Main_copyRow_15 rfl 2 rfl ?_
        refine g_aload_n (pc1 := 17) d_Main_copyRow_16 rfl 0 rfl ?_
        refine g_iload_n (pc1 := 18) d_Main_copyRow_17 rfl 2 rfl ?_
        obtain ⟨g3, h⟩ := gdn h
        refine g_iald (pc1 := 19) d_Main_copyRow_18 rfl hs1 ha1 g3 ?_
        obtain ⟨g4, h⟩ := gdn h
        refine g_iast (pc1 := 20) d_Main_copyRow_19 rfl hs2 ha2 g4 ?_
        refine Wp.lM h (fun M5 h => ?_)
        obtain ⟨x6, ex6, h⟩ := ltI h
        refine g_iinc (pc1 := 23) (v := x6) (lv' := [(0, .ref a1), (1, .ref a2), (2, .int x6)]) d_Main_copyRow_20 rfl 2 rfl (by rw [ex6]; rfl) (by decide) [1, 2, 0] rfl ?_
        refine g_goto (tgt := 2) d_Main_copyRow_23 (by decide) ?_
        exact hK2 x6 M5 h
def F_Main_copyRow (a1 N1 : Nat) (a2 N2 : Nat) (M : gM) : Option (gM) :=
  H_Main_copyRow_2 a1 N1 a2 N2 FU 0 M
set_option maxHeartbeats 4000000 in
set_option maxRecDepth 20000 in
theorem f_Main_copyRow {l : Launch} {ld : Nat} {M : gM} {L : gL} {Q : Option Value → gM → gL → gR → Prop} (hld : isLa ld) {a1 N1 : Nat} {a2 N2 : Nat} (hs1 : SH a1 = (1, N1)) (ha1 : a1 < 447) (hN1 : N1 < 2 ^ 31) (hs2 : SH a2 = (1, N2)) (ha2 : a2 < 447) (hN2 : N2 < 2 ^ 31) {q : gM} (h : F_Main_copyRow a1 N1 a2 N2 M = some q) (hQ : Q none q L (rf ld)) : Tm l y_Main_copyRow (0, 0, 447) 447 [.ref a1, .ref a2] M L (rf ld) Q := by
  refine Tm.of (by decide) (Nat.le_of_ble_eq_true rfl) ?_
  show Wp l y_Main_copyRow (0, 0, 447) 447 0 0 0 [(0, .ref a1), (1, .ref a2)] [] M L (rf ld) Q
  unfold F_Main_copyRow at h
  refine g_iconst (pc1 := 1) (v := 0) d_Main_copyRow_0 rfl (by decide) ?_
  refine g_istore_n (pc1 := 2) (lv' := [(0, .ref a1), (1, .ref a2), (2, .int 0)]) d_Main_copyRow_1 rfl rfl (by decide) [1, 2, 0] rfl ?_
  exact h_Main_copyRow_2 hld hs1 ha1 hN1 hs2 ha2 hN2 hQ  _ 0 M h

def F_Main_hasBit (p1 : Int32) (p2 : Int32) : Option (Int32) :=
  (if ((p1 >>> (p2 &&& 31)) &&& 1) = 0 then some 0 else some 1)
set_option maxHeartbeats 4000000 in
set_option maxRecDepth 20000 in
theorem f_Main_hasBit {l : Launch} {ld : Nat} {M : gM} {L : gL} {Q : Option Value → gM → gL → gR → Prop} (hld : isLa ld) {p1 : Int32} {p2 : Int32}  {q : Int32} (h : F_Main_hasBit p1 p2 = some q) (hQ : Q (some (.int q)) M L (rf ld)) : Tm l y_Main_hasBit (0, 0, 447) 447 [.int p1, .int p2] M L (rf ld) Q := by
  refine Tm.of (by decide) (Nat.le_of_ble_eq_true rfl) ?_
  show Wp l y_Main_hasBit (0, 0, 447) 447 0 0 0 [(0, .int p1), (1, .int p2)] [] M L (rf ld) Q
  unfold F_Main_hasBit at h
  refine g_iload_n (pc1 := 1) d_Main_hasBit_0 rfl 0 rfl ?_
  refine g_iload_n (pc1 := 2) d_Main_hasBit_1 rfl 1 rfl ?_
  refine g_ishr (pc1 := 3) d_Main_hasBit_2 rfl ?_
  refine g_iconst (pc1 := 4) (v := 1) d_Main_hasBit_3 rfl (by decide) ?_
  refine g_iand (pc1 := 5) d_Main_hasBit_4 rfl ?_
  refine g_if_eq (pc1 := 8) (tgt := 12) d_Main_hasBit_5 (by decide) rfl (fun c1 => ?_) (fun c1 => ?_)
  · replace h := itp h c1
    refine g_iconst (pc1 := 13) (v := 0) d_Main_hasBit_12 rfl (by decide) ?_
    refine g_ireturn (Or.inr ⟨rfl, rfl⟩) d_Main_hasBit_13 rfl ?_
    cases h; exact hQ
  · replace h := itn h c1
    refine g_iconst (pc1 := 9) (v := 1) d_Main_hasBit_8 rfl (by decide) ?_
    refine g_goto (tgt := 13) d_Main_hasBit_9 (by decide) ?_
    refine g_ireturn (Or.inr ⟨rfl, rfl⟩) d_Main_hasBit_13 rfl ?_
    cases h; exact hQ

def F_Main_isOne (p1 : Int32) (p2 : Int32) : Option (Int32) :=
  (if p1 < 0 then some 0 else (if p2 ≤ p1 then some 0 else some 1))
set_option maxHeartbeats 4000000 in
set_option maxRecDepth 20000 in
theorem f_Main_isOne {l : Launch} {ld : Nat} {M : gM} {L : gL} {Q : Option Value → gM → gL → gR → Prop} (hld : isLa ld) {p1 : Int32} {p2 : Int32}  {q : Int32} (h : F_Main_isOne p1 p2 = some q) (hQ : Q (some (.int q)) M L (rf ld)) : Tm l y_Main_isOne (0, 0, 447) 447 [.int p1, .int p2] M L (rf ld) Q := by
  refine Tm.of (by decide) (Nat.le_of_ble_eq_true rfl) ?_
  show Wp l y_Main_isOne (0, 0, 447) 447 0 0 0 [(0, .int p1), (1, .int p2)] [] M L (rf ld) Q
  unfold F_Main_isOne at h
  refine g_iload_n (pc1 := 1) d_Main_isOne_0 rfl 0 rfl ?_
  refine g_if_lt (pc1 := 4) (tgt := 13) d_Main_isOne_1 (by decide) rfl (fun c1 => ?_) (fun c1 => ?_)
  · replace h := itp h c1
    refine g_iconst (pc1 := 14) (v := 0) d_Main_isOne_13 rfl (by decide) ?_
    refine g_ireturn (Or.inr ⟨rfl, rfl⟩) d_Main_isOne_14 rfl ?_
    cases h; exact hQ
  · replace h := itn h c1
    refine g_iload_n (pc1 := 5) d_Main_isOne_4 rfl 0 rfl ?_
    refine g_iload_n (pc1 := 6) d_Main_isOne_5 rfl 1 rfl ?_
    refine g_icmp_ge (pc1 := 9) (tgt := 13) d_Main_isOne_6 (by decide) rfl (fun c2 => ?_) (fun c2 => ?_)
    · replace h := itp h c2
      refine g_iconst (pc1 := 14) (v := 0) d_Main_isOne_13 rfl (by decide) ?_
      refine g_ireturn (Or.inr ⟨rfl, rfl⟩) d_Main_isOne_14 rfl ?_
      cases h; exact hQ
    · replace h := itn h c2
      refine g_iconst (pc1 := 10) (v := 1) d_Main_isOne_9 rfl (by decide) ?_
      refine g_goto (tgt := 14) d_Main_isOne_10 (by decide) ?_
      refine g_ireturn (Or.inr ⟨rfl, rfl⟩) d_Main_isOne_14 rfl ?_
      cases h; exact hQ

def F_Main_place (M : gM) : Option (Int32) :=
  some (M 0 11)
set_option maxHeartbeats 4000000 in
set_option maxRecDepth 20000 in
theorem f_Main_place {l : Launch} {ld : Nat} {M : gM} {L : gL} {Q : Option Value → gM → gL → gR → Prop} (hld : isLa ld)   {q : Int32} (h : F_Main_place M = some q) (hQ : Q (some (.int q)) M L (rf ld)) : Tm l y_Main_place (0, 0, 447) 447 [.ref 0] M L (rf ld) Q := by
  refine Tm.of (by decide) (Nat.le_of_ble_eq_true rfl) ?_
  show Wp l y_Main_place (0, 0, 447) 447 0 0 0 [(0, .ref 0)] [] M L (rf ld) Q
  unfold F_Main_place at h
  refine g_aload_n (pc1 := 1) d_Main_place_0 rfl 0 rfl ?_
  refine g_geti (pc1 := 4) d_Main_place_1 rfl ⟨_, fo_Main_78⟩ sh_0 (by decide) ?_
  refine g_ireturn (Or.inl rfl) d_Main_place_4 rfl ?_
  cases h; exact hQ

def F_Main_put (a1 N1 : Nat) (p2 : Int32) (p3 : Int32) (M : gM) : Option (gM) :=
  (if p2 < 0 then some M else (if (Int32.ofNat N1) ≤ p2 then some M else (if (p2 : Int32) < 0 ∨ N1 ≤ (p2 : Int32).toNatClampNeg then none else nmM (uM M a1 (p2 : Int32).toNatClampNeg p3) (fun M4 => some M4))))
set_option maxHeartbeats 4000000 in
set_option maxRecDepth 20000 in
theorem f_Main_put {l : Launch} {ld : Nat} {M : gM} {L : gL} {Q : Option Value → gM → gL → gR → Prop} (hld : isLa ld) {a1 N1 : Nat} {p2 : Int32} {p3 : Int32} (hs1 : SH a1 = (1, N1)) (ha1 : a1 < 447) (hN1 : N1 < 2 ^ 31) {q : gM} (h : F_Main_put a1 N1 p2 p3 M = some q) (hQ : Q none q L (rf ld)) : Tm l y_Main_put (0, 0, 447) 447 [.ref a1, .int p2, .int p3] M L (rf ld) Q := by
  refine Tm.of (by decide) (Nat.le_of_ble_eq_true rfl) ?_
  show Wp l y_Main_put (0, 0, 447) 447 0 0 0 [(0, .ref a1), (1, .int p2), (2, .int p3)] [] M L (rf ld) Q
  unfold F_Main_put at h
  refine g_iload_n (pc1 := 1) d_Main_put_0 rfl 1 rfl ?_
  refine g_if_lt (pc1 := 4) (tgt := 14) d_Main_put_1 (by decide) rfl (fun c1 => ?_) (fun c1 => ?_)
  · replace h := itp h c1
    refine g_return rfl d_Main_put_14 rfl ?_
    cases h; exact hQ
  · replace h := itn h c1
    refine g_iload_n (pc1 := 5) d_Main_put_4 rfl 1 rfl ?_
    refine g_aload_n (pc1 := 6) d_Main_put_5 rfl 0 rfl ?_
    refine g_alen (pc1 := 7) (v := Int32.ofNat N1) d_Main_put_6 rfl hs1 (by decide) (by decide) ha1 rfl ?_
    refine g_icmp_ge (pc1 := 10) (tgt := 14) d_Main_put_7 (by decide) rfl (fun c2 => ?_) (fun c2 => ?_)
    · replace h := itp h c2
      refine g_return rfl d_Main_put_14 rfl ?_
      cases h; exact hQ
    · replace h := itn h c2
      refine g_aload_n (pc1 := 11) d_Main_put_10 rfl 0 rfl ?_
      refine g_iload_n (pc1 := 12) d_Main_put_11 rfl 1 rfl ?_
      refine g_iload_n (pc1 := 13) d_Main_put_12 rfl 2 rfl ?_
      obtain ⟨g3, h⟩ := gdn h
      refine g_iast (pc1 := 14) d_Main_put_13 rfl hs1 ha1 g3 ?_
      refine Wp.lM h (fun M4 h => ?_)
      refine g_return rfl d_Main_put_14 rfl ?_
      cases h; exact hQ

def B_Main_wipe_2 (a1 N1 : Nat) (K2 : Int32 → gM → Option (gM)) : Int32 → gM → Option (gM) := fun v1 M =>
  (if (Int32.ofNat N1) ≤ v1 then some M else (if (v1 : Int32) < 0 ∨ N1 ≤ (v1 : Int32).toNatClampNeg then none else nmM (uM M a1 (v1 : Int32).toNatClampNeg 0) (fun M3 => nmI (v1 + 1) (fun x4 => K2 x4 M3))))
def H_Main_wipe_2 (a1 N1 : Nat) : Nat → Int32 → gM → Option (gM) := lpK (B_Main_wipe_2 a1 N1) (fun _ _ => none)
set_option maxHeartbeats 4000000 in
set_option maxRecDepth 20000 in
theorem h_Main_wipe_2 {l : Launch} {ld : Nat} {Q : Option Value → gM → gL → gR → Prop} (hld : isLa ld) {a1 N1 : Nat} (hs1 : SH a1 = (1, N1)) (ha1 : a1 < 447) (hN1 : N1 < 2 ^ 31) {q : gM} {L : gL} (hQ : Q none q L (rf ld))    : ∀ (f : Nat) (v1 : Int32) (M : gM), H_Main_wipe_2 a1 N1 f v1 M = some q → Wp l y_Main_wipe (0, 0, 447) 447 0 0 2 [(0, .ref a1), (1, .int v1)] [] M L (rf ld) Q := by
  intro f
  induction f with
  | zero => intro v1 M h; cases h
  | succ f hK2 =>
    intro v1 M h
    replace h : B_Main_wipe_2 a1 N1 (H_Main_wipe_2 a1 N1 f) v1 M = some q := h
    unfold B_Main_wipe_2 at h
    refine g_iload_n (pc1 := 3) d_Main_wipe_2 rfl 1 rfl ?_
    refine g_aload_n (pc1 := 4) d_Main_wipe_3 rfl 0 rfl ?_
    refine g_alen (pc1 := 5) (v := Int32.ofNat N1) d_Main_wipe_4 rfl hs1 (by decide) (by decide) ha1 rfl ?_
    refine g_icmp_ge (pc1 := 8) (tgt := 18) d_Main_wipe_5 (by decide) rfl (fun c1 => ?_) (fun c1 => ?_)
    · replace h := itp h c1
      refine g_return rfl d_Main_wipe_18 rfl ?_
      cases h; exact hQ
    · replace h := itn h c1
      refine g_aload_n (pc1 := 9) d_Main_wipe_8 rfl 0 rfl ?_
      refine g_iload_n (pc1 := 10) d_Main_wipe_9 rfl 1 rfl ?_
      refine g_iconst (pc1 := 11) (v := 0) d_Main_wipe_10 rfl (by decide) ?_
      obtain ⟨g2, h⟩ := gdn h
      refine g_iast (pc1 := 12) d_Main_wipe_11 rfl hs1 ha1 g2 ?_
      refine Wp.lM h (fun M3 h => ?_)
      obtain ⟨x4, ex4, h⟩ := ltI h
      refine g_iinc (pc1 := 15) (v := x4) (lv' := [(0, .ref a1), (1, .int x4)]) d_Main_wipe_12 rfl 1 rfl (by rw [ex4]; rfl) (by decide) [1, 0] rfl ?_
      refine g_goto (tgt := 2) d_Main_wipe_15 (by decide) ?_
      exact hK2 x4 M3 h
def F_Main_wipe (a1 N1 : Nat) (M : gM) : Option (gM) :=
  H_Main_wipe_2 a1 N1 FU 0 M
set_option maxHeartbeats 4000000 in
set_option maxRecDepth 20000 in
theorem f_Main_wipe {l : Launch} {ld : Nat} {M : gM} {L : gL} {Q : Option Value → gM → gL → gR → Prop} (hld : isLa ld) {a1 N1 : Nat} (hs1 : SH a1 = (1, N1)) (ha1 : a1 < 447) (hN1 : N1 < 2 ^ 31) {q : gM} (h : F_Main_wipe a1 N1 M = some q) (hQ : Q none q L (rf ld)) : Tm l y_Main_wipe (0, 0, 447) 447 [.ref a1] M L (rf ld) Q := by
  refine Tm.of (by decide) (Nat.le_of_ble_eq_true rfl) ?_
  show Wp l y_Main_wipe (0, 0, 447) 447 0 0 0 [(0, .ref a1)] [] M L (rf ld) Q
  unfold F_Main_wipe at h
  refine g_iconst (pc1 := 1) (v := 0) d_Main_wipe_0 rfl (by decide) ?_
  refine g_istore_n (pc1 := 2) (lv' := [(0, .ref a1), (1, .int 0)]) d_Main_wipe_1 rfl rfl (by decide) [1, 0] rfl ?_
  exact h_Main_wipe_2 hld hs1 ha1 hN1 hQ  _ 0 M h

def F_Land_stirred (p1 : Int32) (p2 : Int32) : Option (Int32) :=
  nmI (((p1 ^^^ p2) * 1103515245) + 12345) (fun x1 => some (x1 ^^^ ((x1.toUInt32 >>> ((15 : Int32).toUInt32 &&& Int32.toUInt32 31)).toInt32)))
set_option maxHeartbeats 4000000 in
set_option maxRecDepth 20000 in
theorem f_Land_stirred {l : Launch} {ld : Nat} {M : gM} {L : gL} {Q : Option Value → gM → gL → gR → Prop} (hld : isLa ld) {p1 : Int32} {p2 : Int32}  {q : Int32} (h : F_Land_stirred p1 p2 = some q) (hQ : Q (some (.int q)) M L (rf ld)) : Tm l y_Land_stirred (0, 0, 447) 447 [.int p1, .int p2] M L (rf ld) Q := by
  refine Tm.of (by decide) (Nat.le_of_ble_eq_true rfl) ?_
  show Wp l y_Land_stirred (0, 0, 447) 447 0 0 0 [(0, .int p1), (1, .int p2)] [] M L (rf ld) Q
  unfold F_Land_stirred at h
  refine g_iload_n (pc1 := 1) d_Land_stirred_0 rfl 0 rfl ?_
  refine g_iload_n (pc1 := 2) d_Land_stirred_1 rfl 1 rfl ?_
  refine g_ixor (pc1 := 3) d_Land_stirred_2 rfl ?_
  refine g_ldc (pc1 := 5) (v := 1103515245) d_Land_stirred_3 rfl co_Land_133 ?_
  refine g_imul (pc1 := 6) d_Land_stirred_5 rfl ?_
  refine g_sipush (pc1 := 9) (v := 12345) d_Land_stirred_6 rfl (by decide) ?_
  refine g_iadd (pc1 := 10) d_Land_stirred_9 rfl ?_
  refine Wp.lI h (fun x1 h => ?_)
  refine g_istore_n (pc1 := 11) (lv' := [(0, .int p1), (1, .int p2), (2, .int x1)]) d_Land_stirred_10 rfl rfl (by decide) [1, 2, 0] rfl ?_
  refine g_iload_n (pc1 := 12) d_Land_stirred_11 rfl 2 rfl ?_
  refine g_iload_n (pc1 := 13) d_Land_stirred_12 rfl 2 rfl ?_
  refine g_bipush (pc1 := 15) (v := 15) d_Land_stirred_13 rfl (by decide) ?_
  refine g_iushr (pc1 := 16) d_Land_stirred_15 rfl ?_
  refine g_ixor (pc1 := 17) d_Land_stirred_16 rfl ?_
  refine g_ireturn (Or.inl rfl) d_Land_stirred_17 rfl ?_
  cases h; exact hQ

def F_Law_add (Wl0 : Nat) (p1 : Int32) (M : gM) : Option (gM) :=
  (if (M Wl0 1) < 0 then some M else (if 400 ≤ (M Wl0 1) then some M else (if ((M Wl0 1) : Int32) < 0 ∨ 400 ≤ ((M Wl0 1) : Int32).toNatClampNeg then none else nmM (uM M (Wl0 + 1) ((M Wl0 1) : Int32).toNatClampNeg p1) (fun M4 => nmM (uM M4 Wl0 1 ((M4 Wl0 1) + 1)) (fun M5 => some M5)))))
set_option maxHeartbeats 4000000 in
set_option maxRecDepth 20000 in
theorem f_Law_add {l : Launch} {ld : Nat} {M : gM} {L : gL} {Q : Option Value → gM → gL → gR → Prop} (hld : isLa ld) {Wl0 : Nat} {p1 : Int32} (hWl0 : isLw Wl0) {q : gM} (h : F_Law_add Wl0 p1 M = some q) (hQ : Q none q L (rf ld)) : Tm l y_Law_add (0, 0, 447) 447 [.ref Wl0, .int p1] M L (rf ld) Q := by
  refine Tm.of (by decide) (Nat.le_of_ble_eq_true rfl) ?_
  show Wp l y_Law_add (0, 0, 447) 447 0 0 0 [(0, .ref Wl0), (1, .int p1)] [] M L (rf ld) Q
  unfold F_Law_add at h
  refine g_aload_n (pc1 := 1) d_Law_add_0 rfl 0 rfl ?_
  refine g_geti (pc1 := 4) d_Law_add_1 rfl ⟨_, fo_Law_21⟩ (shLw_0 hWl0) (ltLw_0 hWl0) ?_
  refine g_if_lt (pc1 := 7) (tgt := 39) d_Law_add_4 (by decide) rfl (fun c1 => ?_) (fun c1 => ?_)
  · replace h := itp h c1
    refine g_return rfl d_Law_add_39 rfl ?_
    cases h; exact hQ
  · replace h := itn h c1
    refine g_aload_n (pc1 := 8) d_Law_add_7 rfl 0 rfl ?_
    refine g_geti (pc1 := 11) d_Law_add_8 rfl ⟨_, fo_Law_21⟩ (shLw_0 hWl0) (ltLw_0 hWl0) ?_
    refine g_aload_n (pc1 := 12) d_Law_add_11 rfl 0 rfl ?_
    refine g_getr (pc1 := 15) d_Law_add_12 rfl ⟨_, fo_Law_11⟩ (shLw_0 hWl0) (ltLw_0 hWl0) (rfLw_0 ld hWl0) ?_
    refine g_alen (pc1 := 16) (v := 400) d_Law_add_15 rfl (shLw_1 hWl0) (by decide) (by decide) (ltLw_1 hWl0) (by decide) ?_
    refine g_icmp_ge (pc1 := 19) (tgt := 39) d_Law_add_16 (by decide) rfl (fun c2 => ?_) (fun c2 => ?_)
    · replace h := itp h c2
      refine g_return rfl d_Law_add_39 rfl ?_
      cases h; exact hQ
    · replace h := itn h c2
      refine g_aload_n (pc1 := 20) d_Law_add_19 rfl 0 rfl ?_
      refine g_getr (pc1 := 23) d_Law_add_20 rfl ⟨_, fo_Law_11⟩ (shLw_0 hWl0) (ltLw_0 hWl0) (rfLw_0 ld hWl0) ?_
      refine g_aload_n (pc1 := 24) d_Law_add_23 rfl 0 rfl ?_
      refine g_geti (pc1 := 27) d_Law_add_24 rfl ⟨_, fo_Law_21⟩ (shLw_0 hWl0) (ltLw_0 hWl0) ?_
      refine g_iload_n (pc1 := 28) d_Law_add_27 rfl 1 rfl ?_
      obtain ⟨g3, h⟩ := gdn h
      refine g_iast (pc1 := 29) d_Law_add_28 rfl (shLw_1 hWl0) (ltLw_1 hWl0) g3 ?_
      refine Wp.lM h (fun M4 h => ?_)
      refine g_aload_n (pc1 := 30) d_Law_add_29 rfl 0 rfl ?_
      refine g_dup (pc1 := 31) d_Law_add_30 rfl rfl ?_
      refine g_geti (pc1 := 34) d_Law_add_31 rfl ⟨_, fo_Law_21⟩ (shLw_0 hWl0) (ltLw_0 hWl0) ?_
      refine g_iconst (pc1 := 35) (v := 1) d_Law_add_34 rfl (by decide) ?_
      refine g_iadd (pc1 := 36) d_Law_add_35 rfl ?_
      refine g_puti (pc1 := 39) d_Law_add_36 rfl fo_Law_21 (po_5_1 _) (shLw_0 hWl0) (ltLw_0 hWl0) ?_
      refine Wp.lM h (fun M5 h => ?_)
      refine g_return rfl d_Law_add_39 rfl ?_
      cases h; exact hQ

def F_Law_clear (Wl0 : Nat) (M : gM) : Option (gM) :=
  nmM (uM M Wl0 1 0) (fun M1 => some M1)
set_option maxHeartbeats 4000000 in
set_option maxRecDepth 20000 in
theorem f_Law_clear {l : Launch} {ld : Nat} {M : gM} {L : gL} {Q : Option Value → gM → gL → gR → Prop} (hld : isLa ld) {Wl0 : Nat} (hWl0 : isLw Wl0) {q : gM} (h : F_Law_clear Wl0 M = some q) (hQ : Q none q L (rf ld)) : Tm l y_Law_clear (0, 0, 447) 447 [.ref Wl0] M L (rf ld) Q := by
  refine Tm.of (by decide) (Nat.le_of_ble_eq_true rfl) ?_
  show Wp l y_Law_clear (0, 0, 447) 447 0 0 0 [(0, .ref Wl0)] [] M L (rf ld) Q
  unfold F_Law_clear at h
  refine g_aload_n (pc1 := 1) d_Law_clear_0 rfl 0 rfl ?_
  refine g_iconst (pc1 := 2) (v := 0) d_Law_clear_1 rfl (by decide) ?_
  refine g_puti (pc1 := 5) d_Law_clear_2 rfl fo_Law_21 (po_5_1 _) (shLw_0 hWl0) (ltLw_0 hWl0) ?_
  refine Wp.lM h (fun M1 h => ?_)
  refine g_return rfl d_Law_clear_5 rfl ?_
  cases h; exact hQ

def F_Law_isTold (Wl0 : Nat) (M : gM) : Option (Int32) :=
  (if (M Wl0 1) ≤ 0 then some 0 else some 1)
set_option maxHeartbeats 4000000 in
set_option maxRecDepth 20000 in
theorem f_Law_isTold {l : Launch} {ld : Nat} {M : gM} {L : gL} {Q : Option Value → gM → gL → gR → Prop} (hld : isLa ld) {Wl0 : Nat} (hWl0 : isLw Wl0) {q : Int32} (h : F_Law_isTold Wl0 M = some q) (hQ : Q (some (.int q)) M L (rf ld)) : Tm l y_Law_isTold (0, 0, 447) 447 [.ref Wl0] M L (rf ld) Q := by
  refine Tm.of (by decide) (Nat.le_of_ble_eq_true rfl) ?_
  show Wp l y_Law_isTold (0, 0, 447) 447 0 0 0 [(0, .ref Wl0)] [] M L (rf ld) Q
  unfold F_Law_isTold at h
  refine g_aload_n (pc1 := 1) d_Law_isTold_0 rfl 0 rfl ?_
  refine g_geti (pc1 := 4) d_Law_isTold_1 rfl ⟨_, fo_Law_21⟩ (shLw_0 hWl0) (ltLw_0 hWl0) ?_
  refine g_if_le (pc1 := 7) (tgt := 11) d_Law_isTold_4 (by decide) rfl (fun c1 => ?_) (fun c1 => ?_)
  · replace h := itp h c1
    refine g_iconst (pc1 := 12) (v := 0) d_Law_isTold_11 rfl (by decide) ?_
    refine g_ireturn (Or.inr ⟨rfl, rfl⟩) d_Law_isTold_12 rfl ?_
    cases h; exact hQ
  · replace h := itn h c1
    refine g_iconst (pc1 := 8) (v := 1) d_Law_isTold_7 rfl (by decide) ?_
    refine g_goto (tgt := 12) d_Law_isTold_8 (by decide) ?_
    refine g_ireturn (Or.inr ⟨rfl, rfl⟩) d_Law_isTold_12 rfl ?_
    cases h; exact hQ

def B_Law_looksAt_2 (Wl0 : Nat) (v1 : Int32) (M : gM) (K2 : Int32 → Option (Int32)) : Int32 → Option (Int32) := fun v2 =>
  (if (M Wl0 1) ≤ v2 then some 0 else (if 400 ≤ v2 then some 0 else (if (v2 : Int32) < 0 ∨ 400 ≤ (v2 : Int32).toNatClampNeg then none else (if (M (Wl0 + 1) (v2 : Int32).toNatClampNeg) = (10000 + v1) then some 1 else nmI (v2 + 1) (fun x5 => K2 x5)))))
def H_Law_looksAt_2 (Wl0 : Nat) (v1 : Int32) (M : gM) : Nat → Int32 → Option (Int32) := lpK (B_Law_looksAt_2 Wl0 v1 M) (fun _ => none)
set_option maxHeartbeats 4000000 in
set_option maxRecDepth 20000 in
theorem h_Law_looksAt_2 {l : Launch} {ld : Nat} {Q : Option Value → gM → gL → gR → Prop} (hld : isLa ld) {Wl0 : Nat} (hWl0 : isLw Wl0) {q : Int32} {M : gM} {L : gL} (hQ : Q (some (.int q)) M L (rf ld))  {v1 : Int32}  : ∀ (f : Nat) (v2 : Int32), H_Law_looksAt_2 Wl0 v1 M f v2 = some q → Wp l y_Law_looksAt (0, 0, 447) 447 0 0 2 [(0, .ref Wl0), (1, .int v1), (2, .int v2)] [] M L (rf ld) Q := by
  intro f
  induction f with
  | zero => intro v2 h; cases h
  | succ f hK2 =>
    intro v2 h
    replace h : B_Law_looksAt_2 Wl0 v1 M (H_Law_looksAt_2 Wl0 v1 M f) v2 = some q := h
    unfold B_Law_looksAt_2 at h
    refine g_iload_n (pc1 := 3) d_Law_looksAt_2 rfl 2 rfl ?_
    refine g_aload_n (pc1 := 4) d_Law_looksAt_3 rfl 0 rfl ?_
    refine g_geti (pc1 := 7) d_Law_looksAt_4 rfl ⟨_, fo_Law_21⟩ (shLw_0 hWl0) (ltLw_0 hWl0) ?_
    refine g_icmp_ge (pc1 := 10) (tgt := 41) d_Law_looksAt_7 (by decide) rfl (fun c1 => ?_) (fun c1 => ?_)
    · replace h := itp h c1
      refine g_iconst (pc1 := 42) (v := 0) d_Law_looksAt_41 rfl (by decide) ?_
      refine g_ireturn (Or.inr ⟨rfl, rfl⟩) d_Law_looksAt_42 rfl ?_
      cases h; exact hQ
    · replace h := itn h c1
      refine g_iload_n (pc1 := 11) d_Law_looksAt_10 rfl 2 rfl ?_
      refine g_aload_n (pc1 := 12) d_Law_looksAt_11 rfl 0 rfl ?_
      refine g_getr (pc1 := 15) d_Law_looksAt_12 rfl ⟨_, fo_Law_11⟩ (shLw_0 hWl0) (ltLw_0 hWl0) (rfLw_0 ld hWl0) ?_
      refine g_alen (pc1 := 16) (v := 400) d_Law_looksAt_15 rfl (shLw_1 hWl0) (by decide) (by decide) (ltLw_1 hWl0) (by decide) ?_
      refine g_icmp_ge (pc1 := 19) (tgt := 41) d_Law_looksAt_16 (by decide) rfl (fun c2 => ?_) (fun c2 => ?_)
      · replace h := itp h c2
        refine g_iconst (pc1 := 42) (v := 0) d_Law_looksAt_41 rfl (by decide) ?_
        refine g_ireturn (Or.inr ⟨rfl, rfl⟩) d_Law_looksAt_42 rfl ?_
        cases h; exact hQ
      · replace h := itn h c2
        refine g_aload_n (pc1 := 20) d_Law_looksAt_19 rfl 0 rfl ?_
        refine g_getr (pc1 := 23) d_Law_looksAt_20 rfl ⟨_, fo_Law_11⟩ (shLw_0 hWl0) (ltLw_0 hWl0) (rfLw_0 ld hWl0) ?_
        refine g_iload_n (pc1 := 24) d_Law_looksAt_23 rfl 2 rfl ?_
        obtain ⟨g3, h⟩ := gdn h
        refine g_iald (pc1 := 25) d_Law_looksAt_24 rfl (shLw_1 hWl0) (ltLw_1 hWl0) g3 ?_
        refine g_sipush (pc1 := 28) (v := 10000) d_Law_looksAt_25 rfl (by decide) ?_
        refine g_iload_n (pc1 := 29) d_Law_looksAt_28 rfl 1 rfl ?_
        refine g_iadd (pc1 := 30) d_Law_looksAt_29 rfl ?_
        refine g_icmp_ne (pc1 := 33) (tgt := 35) d_Law_looksAt_30 (by decide) rfl (fun c4 => ?_) (fun c4 => ?_)
        · replace h := itn h c4
          obtain ⟨x5, ex5, h⟩ := ltI h
          refine g_iinc (pc1 := 38) (v := x5) (lv' := [(0, .ref Wl0), (1, .int v1), (2, .int x5)]) d_Law_looksAt_35 rfl 2 rfl (by rw [ex5]; rfl) (by decide) [1, 2, 0] rfl ?_
          refine g_goto (tgt := 2) d_Law_looksAt_38 (by decide) ?_
          exact hK2 x5 h
        · replace h := itp h c4
          refine g_iconst (pc1 := 34) (v := 1) d_Law_looksAt_33 rfl (by decide) ?_
          refine g_ireturn (Or.inr ⟨rfl, rfl⟩) d_Law_looksAt_34 rfl ?_
          cases h; exact hQ
def F_Law_looksAt (Wl0 : Nat) (p1 : Int32) (M : gM) : Option (Int32) :=
  H_Law_looksAt_2 Wl0 p1 M FU 0
set_option maxHeartbeats 4000000 in
set_option maxRecDepth 20000 in
theorem f_Law_looksAt {l : Launch} {ld : Nat} {M : gM} {L : gL} {Q : Option Value → gM → gL → gR → Prop} (hld : isLa ld) {Wl0 : Nat} {p1 : Int32} (hWl0 : isLw Wl0) {q : Int32} (h : F_Law_looksAt Wl0 p1 M = some q) (hQ : Q (some (.int q)) M L (rf ld)) : Tm l y_Law_looksAt (0, 0, 447) 447 [.ref Wl0, .int p1] M L (rf ld) Q := by
  refine Tm.of (by decide) (Nat.le_of_ble_eq_true rfl) ?_
  show Wp l y_Law_looksAt (0, 0, 447) 447 0 0 0 [(0, .ref Wl0), (1, .int p1)] [] M L (rf ld) Q
  unfold F_Law_looksAt at h
  refine g_iconst (pc1 := 1) (v := 0) d_Law_looksAt_0 rfl (by decide) ?_
  refine g_istore_n (pc1 := 2) (lv' := [(0, .ref Wl0), (1, .int p1), (2, .int 0)]) d_Law_looksAt_1 rfl rfl (by decide) [1, 2, 0] rfl ?_
  exact h_Law_looksAt_2 hld hWl0 hQ  _ 0 h

def F_Law_reckon (p1 : Int32) (p2 : Int32) (p3 : Int32) : Option (Int32) :=
  (if p1 = 42 then some (p2 * p3) else (if p1 = 43 then some (p2 + p3) else (if p1 = 44 then (if p3 = 0 then some 0 else (if p3 = 0 then none else some (p2 / p3))) else (if p1 = 45 then some (p2 - p3) else (if p3 = 0 then some 0 else (if p3 = 0 then none else some (p2 / p3)))))))
set_option maxHeartbeats 4000000 in
set_option maxRecDepth 20000 in
theorem f_Law_reckon {l : Launch} {ld : Nat} {M : gM} {L : gL} {Q : Option Value → gM → gL → gR → Prop} (hld : isLa ld) {p1 : Int32} {p2 : Int32} {p3 : Int32}  {q : Int32} (h : F_Law_reckon p1 p2 p3 = some q) (hQ : Q (some (.int q)) M L (rf ld)) : Tm l y_Law_reckon (0, 0, 447) 447 [.int p1, .int p2, .int p3] M L (rf ld) Q := by
  refine Tm.of (by decide) (Nat.le_of_ble_eq_true rfl) ?_
  show Wp l y_Law_reckon (0, 0, 447) 447 0 0 0 [(0, .int p1), (1, .int p2), (2, .int p3)] [] M L (rf ld) Q
  unfold F_Law_reckon at h
  refine g_iload_n (pc1 := 1) d_Law_reckon_0 rfl 0 rfl ?_
  by_cases c1 : p1 = 42
  · replace h := itp h c1
    refine g_tabK (tgt := 40) (off := 39) d_Law_reckon_1 c1 (by decide) (by decide) (by decide) (by decide) ?_
    refine g_iload_n (pc1 := 41) d_Law_reckon_40 rfl 1 rfl ?_
    refine g_iload_n (pc1 := 42) d_Law_reckon_41 rfl 2 rfl ?_
    refine g_imul (pc1 := 43) d_Law_reckon_42 rfl ?_
    refine g_ireturn (Or.inl rfl) d_Law_reckon_43 rfl ?_
    cases h; exact hQ
  replace h := itn h c1
  by_cases c2 : p1 = 43
  · replace h := itp h c2
    refine g_tabK (tgt := 32) (off := 31) d_Law_reckon_1 c2 (by decide) (by decide) (by decide) (by decide) ?_
    refine g_iload_n (pc1 := 33) d_Law_reckon_32 rfl 1 rfl ?_
    refine g_iload_n (pc1 := 34) d_Law_reckon_33 rfl 2 rfl ?_
    refine g_iadd (pc1 := 35) d_Law_reckon_34 rfl ?_
    refine g_ireturn (Or.inl rfl) d_Law_reckon_35 rfl ?_
    cases h; exact hQ
  replace h := itn h c2
  by_cases c3 : p1 = 44
  · replace h := itp h c3
    refine g_tabK (tgt := 44) (off := 43) d_Law_reckon_1 c3 (by decide) (by decide) (by decide) (by decide) ?_
    refine g_iload_n (pc1 := 45) d_Law_reckon_44 rfl 2 rfl ?_
    refine g_if_ne (pc1 := 48) (tgt := 52) d_Law_reckon_45 (by decide) rfl (fun c4 => ?_) (fun c4 => ?_)
    · replace h := itn h c4
      refine g_iload_n (pc1 := 53) d_Law_reckon_52 rfl 1 rfl ?_
      refine g_iload_n (pc1 := 54) d_Law_reckon_53 rfl 2 rfl ?_
      obtain ⟨g5, h⟩ := gdn h
      refine g_idiv (pc1 := 55) d_Law_reckon_54 rfl g5 ?_
      refine g_ireturn (Or.inl rfl) d_Law_reckon_55 rfl ?_
      cases h; exact hQ
    · replace h := itp h c4
      refine g_iconst (pc1 := 49) (v := 0) d_Law_reckon_48 rfl (by decide) ?_
      refine g_goto (tgt := 55) d_Law_reckon_49 (by decide) ?_
      refine g_ireturn (Or.inl rfl) d_Law_reckon_55 rfl ?_
      cases h; exact hQ
  replace h := itn h c3
  by_cases c6 : p1 = 45
  · replace h := itp h c6
    refine g_tabK (tgt := 36) (off := 35) d_Law_reckon_1 c6 (by decide) (by decide) (by decide) (by decide) ?_
    refine g_iload_n (pc1 := 37) d_Law_reckon_36 rfl 1 rfl ?_
    refine g_iload_n (pc1 := 38) d_Law_reckon_37 rfl 2 rfl ?_
    refine g_isub (pc1 := 39) d_Law_reckon_38 rfl ?_
    refine g_ireturn (Or.inl rfl) d_Law_reckon_39 rfl ?_
    cases h; exact hQ
  replace h := itn h c6
  refine g_tabOut (tgt := 44) d_Law_reckon_1 (by
    have nc1 := neT (a := 42) c1 (by decide)
    have nc2 := neT (a := 43) c2 (by decide)
    have nc3 := neT (a := 44) c3 (by decide)
    have nc6 := neT (a := 45) c6 (by decide)
    omega) (by decide) ?_
  refine g_iload_n (pc1 := 45) d_Law_reckon_44 rfl 2 rfl ?_
  refine g_if_ne (pc1 := 48) (tgt := 52) d_Law_reckon_45 (by decide) rfl (fun c7 => ?_) (fun c7 => ?_)
  · replace h := itn h c7
    refine g_iload_n (pc1 := 53) d_Law_reckon_52 rfl 1 rfl ?_
    refine g_iload_n (pc1 := 54) d_Law_reckon_53 rfl 2 rfl ?_
    obtain ⟨g8, h⟩ := gdn h
    refine g_idiv (pc1 := 55) d_Law_reckon_54 rfl g8 ?_
    refine g_ireturn (Or.inl rfl) d_Law_reckon_55 rfl ?_
    cases h; exact hQ
  · replace h := itp h c7
    refine g_iconst (pc1 := 49) (v := 0) d_Law_reckon_48 rfl (by decide) ?_
    refine g_goto (tgt := 55) d_Law_reckon_49 (by decide) ?_
    refine g_ireturn (Or.inl rfl) d_Law_reckon_55 rfl ?_
    cases h; exact hQ

def F_MenuSearch_indexOf (p1 : Int32) (p2 : Int32) (p3 : Int32) : Option (Int32) :=
  some ((((p1 * 4) + p2) * 5) + p3)
set_option maxHeartbeats 4000000 in
set_option maxRecDepth 20000 in
theorem f_MenuSearch_indexOf {l : Launch} {ld : Nat} {M : gM} {L : gL} {Q : Option Value → gM → gL → gR → Prop} (hld : isLa ld) {p1 : Int32} {p2 : Int32} {p3 : Int32}  {q : Int32} (h : F_MenuSearch_indexOf p1 p2 p3 = some q) (hQ : Q (some (.int q)) M L (rf ld)) : Tm l y_MenuSearch_indexOf (0, 0, 447) 447 [.int p1, .int p2, .int p3] M L (rf ld) Q := by
  refine Tm.of (by decide) (Nat.le_of_ble_eq_true rfl) ?_
  show Wp l y_MenuSearch_indexOf (0, 0, 447) 447 0 0 0 [(0, .int p1), (1, .int p2), (2, .int p3)] [] M L (rf ld) Q
  unfold F_MenuSearch_indexOf at h
  refine g_iload_n (pc1 := 1) d_MenuSearch_indexOf_0 rfl 0 rfl ?_
  refine g_iconst (pc1 := 2) (v := 4) d_MenuSearch_indexOf_1 rfl (by decide) ?_
  refine g_imul (pc1 := 3) d_MenuSearch_indexOf_2 rfl ?_
  refine g_iload_n (pc1 := 4) d_MenuSearch_indexOf_3 rfl 1 rfl ?_
  refine g_iadd (pc1 := 5) d_MenuSearch_indexOf_4 rfl ?_
  refine g_iconst (pc1 := 6) (v := 5) d_MenuSearch_indexOf_5 rfl (by decide) ?_
  refine g_imul (pc1 := 7) d_MenuSearch_indexOf_6 rfl ?_
  refine g_iload_n (pc1 := 8) d_MenuSearch_indexOf_7 rfl 2 rfl ?_
  refine g_iadd (pc1 := 9) d_MenuSearch_indexOf_8 rfl ?_
  refine g_ireturn (Or.inl rfl) d_MenuSearch_indexOf_9 rfl ?_
  cases h; exact hQ

def F_Past_clear (M : gM) : Option (gM) :=
  nmM (uM M 78 1 0) (fun M1 => nmM (uM M1 78 2 0) (fun M2 => some M2))
set_option maxHeartbeats 4000000 in
set_option maxRecDepth 20000 in
theorem f_Past_clear {l : Launch} {ld : Nat} {M : gM} {L : gL} {Q : Option Value → gM → gL → gR → Prop} (hld : isLa ld)   {q : gM} (h : F_Past_clear M = some q) (hQ : Q none q L (rf ld)) : Tm l y_Past_clear (0, 0, 447) 447 [.ref 78] M L (rf ld) Q := by
  refine Tm.of (by decide) (Nat.le_of_ble_eq_true rfl) ?_
  show Wp l y_Past_clear (0, 0, 447) 447 0 0 0 [(0, .ref 78)] [] M L (rf ld) Q
  unfold F_Past_clear at h
  refine g_aload_n (pc1 := 1) d_Past_clear_0 rfl 0 rfl ?_
  refine g_iconst (pc1 := 2) (v := 0) d_Past_clear_1 rfl (by decide) ?_
  refine g_puti (pc1 := 5) d_Past_clear_2 rfl fo_Past_18 (po_7_1 _) sh_78 (by decide) ?_
  refine Wp.lM h (fun M1 h => ?_)
  refine g_aload_n (pc1 := 6) d_Past_clear_5 rfl 0 rfl ?_
  refine g_iconst (pc1 := 7) (v := 0) d_Past_clear_6 rfl (by decide) ?_
  refine g_puti (pc1 := 10) d_Past_clear_7 rfl fo_Past_22 (po_7_2 _) sh_78 (by decide) ?_
  refine Wp.lM h (fun M2 h => ?_)
  refine g_return rfl d_Past_clear_10 rfl ?_
  cases h; exact hQ

def B_Reader_indexOf_2 (v1 : Int64) (M : gM) (L : gL) (K2 : Int32 → Option (Int32)) : Int32 → Option (Int32) := fun v3 =>
  (if (M 3 8) ≤ v3 then some (-1) else (if 21 ≤ v3 then some (-1) else (if (v3 : Int32) < 0 ∨ 21 ≤ (v3 : Int32).toNatClampNeg then none else (if (lg_cmp (L 9 (v3 : Int32).toNatClampNeg) v1) = 0 then some v3 else nmI (v3 + 1) (fun x5 => K2 x5)))))
def H_Reader_indexOf_2 (v1 : Int64) (M : gM) (L : gL) : Nat → Int32 → Option (Int32) := lpK (B_Reader_indexOf_2 v1 M L) (fun _ => none)
set_option maxHeartbeats 4000000 in
set_option maxRecDepth 20000 in
theorem h_Reader_indexOf_2 {l : Launch} {ld : Nat} {Q : Option Value → gM → gL → gR → Prop} (hld : isLa ld)   {q : Int32} {M : gM} {L : gL} (hQ : Q (some (.int q)) M L (rf ld))  {v1 : Int64}  : ∀ (f : Nat) (v3 : Int32), H_Reader_indexOf_2 v1 M L f v3 = some q → Wp l y_Reader_indexOf (0, 0, 447) 447 0 0 2 [(0, .ref 3), (1, .long v1), (3, .int v3)] [] M L (rf ld) Q := by
  intro f
  induction f with
  | zero => intro v3 h; cases h
  | succ f hK2 =>
    intro v3 h
    replace h : B_Reader_indexOf_2 v1 M L (H_Reader_indexOf_2 v1 M L f) v3 = some q := h
    unfold B_Reader_indexOf_2 at h
    refine g_iload_n (pc1 := 3) d_Reader_indexOf_2 rfl 2 rfl ?_
    refine g_aload_n (pc1 := 4) d_Reader_indexOf_3 rfl 0 rfl ?_
    refine g_geti (pc1 := 7) d_Reader_indexOf_4 rfl ⟨_, fo_Reader_48⟩ sh_3 (by decide) ?_
    refine g_icmp_ge (pc1 := 10) (tgt := 38) d_Reader_indexOf_7 (by decide) rfl (fun c1 => ?_) (fun c1 => ?_)
    · replace h := itp h c1
      refine g_iconst (pc1 := 39) (v := (-1)) d_Reader_indexOf_38 rfl (by decide) ?_
      refine g_ireturn (Or.inl rfl) d_Reader_indexOf_39 rfl ?_
      cases h; exact hQ
    · replace h := itn h c1
      refine g_iload_n (pc1 := 11) d_Reader_indexOf_10 rfl 2 rfl ?_
      refine g_aload_n (pc1 := 12) d_Reader_indexOf_11 rfl 0 rfl ?_
      refine g_getr (pc1 := 15) d_Reader_indexOf_12 rfl ⟨_, fo_Reader_18⟩ sh_3 (by decide) (rf_3_6 ld) ?_
      refine g_alen (pc1 := 16) (v := 21) d_Reader_indexOf_15 rfl sh_9 (by decide) (by decide) (by decide) (by decide) ?_
      refine g_icmp_ge (pc1 := 19) (tgt := 38) d_Reader_indexOf_16 (by decide) rfl (fun c2 => ?_) (fun c2 => ?_)
      · replace h := itp h c2
        refine g_iconst (pc1 := 39) (v := (-1)) d_Reader_indexOf_38 rfl (by decide) ?_
        refine g_ireturn (Or.inl rfl) d_Reader_indexOf_39 rfl ?_
        cases h; exact hQ
      · replace h := itn h c2
        refine g_aload_n (pc1 := 20) d_Reader_indexOf_19 rfl 0 rfl ?_
        refine g_getr (pc1 := 23) d_Reader_indexOf_20 rfl ⟨_, fo_Reader_18⟩ sh_3 (by decide) (rf_3_6 ld) ?_
        refine g_iload_n (pc1 := 24) d_Reader_indexOf_23 rfl 2 rfl ?_
        obtain ⟨g3, h⟩ := gdn h
        refine g_lald (pc1 := 25) d_Reader_indexOf_24 rfl sh_9 (by decide) g3 ?_
        refine g_lload_n (pc1 := 26) d_Reader_indexOf_25 rfl 1 rfl ?_
        refine g_lcmp (pc1 := 27) d_Reader_indexOf_26 rfl ?_
        refine g_if_ne (pc1 := 30) (tgt := 32) d_Reader_indexOf_27 (by decide) rfl (fun c4 => ?_) (fun c4 => ?_)
        · replace h := itn h c4
          obtain ⟨x5, ex5, h⟩ := ltI h
          refine g_iinc (pc1 := 35) (v := x5) (lv' := [(0, .ref 3), (1, .long v1), (3, .int x5)]) d_Reader_indexOf_32 rfl 2 rfl (by rw [ex5]; rfl) (by decide) [1, 2, 0] rfl ?_
          refine g_goto (tgt := 2) d_Reader_indexOf_35 (by decide) ?_
          exact hK2 x5 h
        · replace h := itp h c4
          refine g_iload_n (pc1 := 31) d_Reader_indexOf_30 rfl 2 rfl ?_
          refine g_ireturn (Or.inl rfl) d_Reader_indexOf_31 rfl ?_
          cases h; exact hQ
def F_Reader_indexOf (p1 : Int64) (M : gM) (L : gL) : Option (Int32) :=
  H_Reader_indexOf_2 p1 M L FU 0
set_option maxHeartbeats 4000000 in
set_option maxRecDepth 20000 in
theorem f_Reader_indexOf {l : Launch} {ld : Nat} {M : gM} {L : gL} {Q : Option Value → gM → gL → gR → Prop} (hld : isLa ld) {p1 : Int64}  {q : Int32} (h : F_Reader_indexOf p1 M L = some q) (hQ : Q (some (.int q)) M L (rf ld)) : Tm l y_Reader_indexOf (0, 0, 447) 447 [.ref 3, .long p1] M L (rf ld) Q := by
  refine Tm.of (by decide) (Nat.le_of_ble_eq_true rfl) ?_
  show Wp l y_Reader_indexOf (0, 0, 447) 447 0 0 0 [(0, .ref 3), (1, .long p1)] [] M L (rf ld) Q
  unfold F_Reader_indexOf at h
  refine g_iconst (pc1 := 1) (v := 0) d_Reader_indexOf_0 rfl (by decide) ?_
  refine g_istore_n (pc1 := 2) (lv' := [(0, .ref 3), (1, .long p1), (3, .int 0)]) d_Reader_indexOf_1 rfl rfl (by decide) [1, 2, 0] rfl ?_
  exact h_Reader_indexOf_2 hld  hQ  _ 0 h

def J_Reader_rank_26  : Option (Int32) :=
  some 1
set_option maxHeartbeats 4000000 in
set_option maxRecDepth 20000 in
theorem j_Reader_rank_26 {l : Launch} {ld : Nat} {Q : Option Value → gM → gL → gR → Prop} (hld : isLa ld)   {q : Int32} {M : gM} {L : gL} (hQ : Q (some (.int q)) M L (rf ld))    (h : J_Reader_rank_26 = some q) : Wp l y_Reader_rank (0, 0, 447) 447 0 0 26 [] [] M L (rf ld) Q := by
  unfold J_Reader_rank_26 at h
  refine g_iconst (pc1 := 27) (v := 1) d_Reader_rank_26 rfl (by decide) ?_
  refine g_goto (tgt := 31) d_Reader_rank_27 (by decide) ?_
  refine g_ireturn (Or.inl rfl) d_Reader_rank_31 rfl ?_
  cases h; exact hQ
def F_Reader_rank (p1 : Int32) : Option (Int32) :=
  (if p1 = 42 then some 2 else (if p1 = 47 then some 2 else (if p1 = 43 then J_Reader_rank_26 else (if p1 = 45 then J_Reader_rank_26 else some 0))))
set_option maxHeartbeats 4000000 in
set_option maxRecDepth 20000 in
theorem f_Reader_rank {l : Launch} {ld : Nat} {M : gM} {L : gL} {Q : Option Value → gM → gL → gR → Prop} (hld : isLa ld) {p1 : Int32}  {q : Int32} (h : F_Reader_rank p1 = some q) (hQ : Q (some (.int q)) M L (rf ld)) : Tm l y_Reader_rank (0, 0, 447) 447 [.int p1] M L (rf ld) Q := by
  refine Tm.of (by decide) (Nat.le_of_ble_eq_true rfl) ?_
  show Wp l y_Reader_rank (0, 0, 447) 447 0 0 0 [(0, .int p1)] [] M L (rf ld) Q
  unfold F_Reader_rank at h
  refine g_iload_n (pc1 := 1) d_Reader_rank_0 rfl 0 rfl ?_
  refine g_bipush (pc1 := 3) (v := 42) d_Reader_rank_1 rfl (by decide) ?_
  refine g_icmp_eq (pc1 := 6) (tgt := 12) d_Reader_rank_3 (by decide) rfl (fun c1 => ?_) (fun c1 => ?_)
  · replace h := itp h c1
    refine g_iconst (pc1 := 13) (v := 2) d_Reader_rank_12 rfl (by decide) ?_
    refine g_ireturn (Or.inl rfl) d_Reader_rank_13 rfl ?_
    cases h; exact hQ
  · replace h := itn h c1
    refine g_iload_n (pc1 := 7) d_Reader_rank_6 rfl 0 rfl ?_
    refine g_bipush (pc1 := 9) (v := 47) d_Reader_rank_7 rfl (by decide) ?_
    refine g_icmp_ne (pc1 := 12) (tgt := 14) d_Reader_rank_9 (by decide) rfl (fun c2 => ?_) (fun c2 => ?_)
    · replace h := itn h c2
      refine g_iload_n (pc1 := 15) d_Reader_rank_14 rfl 0 rfl ?_
      refine g_bipush (pc1 := 17) (v := 43) d_Reader_rank_15 rfl (by decide) ?_
      refine g_icmp_eq (pc1 := 20) (tgt := 26) d_Reader_rank_17 (by decide) rfl (fun c3 => ?_) (fun c3 => ?_)
      · replace h := itp h c3
        refine Wp.loc (lv' := []) [] rfl ?_
        exact j_Reader_rank_26 hld  hQ  h
      · replace h := itn h c3
        refine g_iload_n (pc1 := 21) d_Reader_rank_20 rfl 0 rfl ?_
        refine g_bipush (pc1 := 23) (v := 45) d_Reader_rank_21 rfl (by decide) ?_
        refine g_icmp_ne (pc1 := 26) (tgt := 30) d_Reader_rank_23 (by decide) rfl (fun c4 => ?_) (fun c4 => ?_)
        · replace h := itn h c4
          refine g_iconst (pc1 := 31) (v := 0) d_Reader_rank_30 rfl (by decide) ?_
          refine g_ireturn (Or.inl rfl) d_Reader_rank_31 rfl ?_
          cases h; exact hQ
        · replace h := itp h c4
          refine Wp.loc (lv' := []) [] rfl ?_
          exact j_Reader_rank_26 hld  hQ  h
    · replace h := itp h c2
      refine g_iconst (pc1 := 13) (v := 2) d_Reader_rank_12 rfl (by decide) ?_
      refine g_ireturn (Or.inl rfl) d_Reader_rank_13 rfl ?_
      cases h; exact hQ

def F_Reader_stop (p1 : Int32) (M : gM) : Option (gM) :=
  (if (M 3 2) = 0 then nmM (uM M 3 2 p1) (fun M2 => nmM (uM M2 3 3 (M2 3 1)) (fun M3 => some M3)) else some M)
set_option maxHeartbeats 4000000 in
set_option maxRecDepth 20000 in
theorem f_Reader_stop {l : Launch} {ld : Nat} {M : gM} {L : gL} {Q : Option Value → gM → gL → gR → Prop} (hld : isLa ld) {p1 : Int32}  {q : gM} (h : F_Reader_stop p1 M = some q) (hQ : Q none q L (rf ld)) : Tm l y_Reader_stop (0, 0, 447) 447 [.ref 3, .int p1] M L (rf ld) Q := by
  refine Tm.of (by decide) (Nat.le_of_ble_eq_true rfl) ?_
  show Wp l y_Reader_stop (0, 0, 447) 447 0 0 0 [(0, .ref 3), (1, .int p1)] [] M L (rf ld) Q
  unfold F_Reader_stop at h
  refine g_aload_n (pc1 := 1) d_Reader_stop_0 rfl 0 rfl ?_
  refine g_geti (pc1 := 4) d_Reader_stop_1 rfl ⟨_, fo_Reader_42⟩ sh_3 (by decide) ?_
  refine g_if_ne (pc1 := 7) (tgt := 20) d_Reader_stop_4 (by decide) rfl (fun c1 => ?_) (fun c1 => ?_)
  · replace h := itn h c1
    refine g_return rfl d_Reader_stop_20 rfl ?_
    cases h; exact hQ
  · replace h := itp h c1
    refine g_aload_n (pc1 := 8) d_Reader_stop_7 rfl 0 rfl ?_
    refine g_iload_n (pc1 := 9) d_Reader_stop_8 rfl 1 rfl ?_
    refine g_puti (pc1 := 12) d_Reader_stop_9 rfl fo_Reader_42 (po_2_2 _) sh_3 (by decide) ?_
    refine Wp.lM h (fun M2 h => ?_)
    refine g_aload_n (pc1 := 13) d_Reader_stop_12 rfl 0 rfl ?_
    refine g_aload_n (pc1 := 14) d_Reader_stop_13 rfl 0 rfl ?_
    refine g_geti (pc1 := 17) d_Reader_stop_14 rfl ⟨_, fo_Reader_38⟩ sh_3 (by decide) ?_
    refine g_puti (pc1 := 20) d_Reader_stop_17 rfl fo_Reader_102 (po_2_3 _) sh_3 (by decide) ?_
    refine Wp.lM h (fun M3 h => ?_)
    refine g_return rfl d_Reader_stop_20 rfl ?_
    cases h; exact hQ

def F_Reader_stopLate (p1 : Int32) (M : gM) : Option (gM) :=
  (if (M 3 4) = 0 then nmM (uM M 3 4 p1) (fun M2 => nmM (uM M2 3 5 (M2 3 1)) (fun M3 => some M3)) else some M)
set_option maxHeartbeats 4000000 in
set_option maxRecDepth 20000 in
theorem f_Reader_stopLate {l : Launch} {ld : Nat} {M : gM} {L : gL} {Q : Option Value → gM → gL → gR → Prop} (hld : isLa ld) {p1 : Int32}  {q : gM} (h : F_Reader_stopLate p1 M = some q) (hQ : Q none q L (rf ld)) : Tm l y_Reader_stopLate (0, 0, 447) 447 [.ref 3, .int p1] M L (rf ld) Q := by
  refine Tm.of (by decide) (Nat.le_of_ble_eq_true rfl) ?_
  show Wp l y_Reader_stopLate (0, 0, 447) 447 0 0 0 [(0, .ref 3), (1, .int p1)] [] M L (rf ld) Q
  unfold F_Reader_stopLate at h
  refine g_aload_n (pc1 := 1) d_Reader_stopLate_0 rfl 0 rfl ?_
  refine g_geti (pc1 := 4) d_Reader_stopLate_1 rfl ⟨_, fo_Reader_45⟩ sh_3 (by decide) ?_
  refine g_if_ne (pc1 := 7) (tgt := 20) d_Reader_stopLate_4 (by decide) rfl (fun c1 => ?_) (fun c1 => ?_)
  · replace h := itn h c1
    refine g_return rfl d_Reader_stopLate_20 rfl ?_
    cases h; exact hQ
  · replace h := itp h c1
    refine g_aload_n (pc1 := 8) d_Reader_stopLate_7 rfl 0 rfl ?_
    refine g_iload_n (pc1 := 9) d_Reader_stopLate_8 rfl 1 rfl ?_
    refine g_puti (pc1 := 12) d_Reader_stopLate_9 rfl fo_Reader_45 (po_2_4 _) sh_3 (by decide) ?_
    refine Wp.lM h (fun M2 h => ?_)
    refine g_aload_n (pc1 := 13) d_Reader_stopLate_12 rfl 0 rfl ?_
    refine g_aload_n (pc1 := 14) d_Reader_stopLate_13 rfl 0 rfl ?_
    refine g_geti (pc1 := 17) d_Reader_stopLate_14 rfl ⟨_, fo_Reader_38⟩ sh_3 (by decide) ?_
    refine g_puti (pc1 := 20) d_Reader_stopLate_17 rfl fo_Reader_99 (po_2_5 _) sh_3 (by decide) ?_
    refine Wp.lM h (fun M3 h => ?_)
    refine g_return rfl d_Reader_stopLate_20 rfl ?_
    cases h; exact hQ

def F_Slots_clear (M : gM) : Option (gM) :=
  nmM (uM M 360 1 0) (fun M1 => some M1)
set_option maxHeartbeats 4000000 in
set_option maxRecDepth 20000 in
theorem f_Slots_clear {l : Launch} {ld : Nat} {M : gM} {L : gL} {Q : Option Value → gM → gL → gR → Prop} (hld : isLa ld)   {q : gM} (h : F_Slots_clear M = some q) (hQ : Q none q L (rf ld)) : Tm l y_Slots_clear (0, 0, 447) 447 [.ref 360] M L (rf ld) Q := by
  refine Tm.of (by decide) (Nat.le_of_ble_eq_true rfl) ?_
  show Wp l y_Slots_clear (0, 0, 447) 447 0 0 0 [(0, .ref 360)] [] M L (rf ld) Q
  unfold F_Slots_clear at h
  refine g_aload_n (pc1 := 1) d_Slots_clear_0 rfl 0 rfl ?_
  refine g_iconst (pc1 := 2) (v := 0) d_Slots_clear_1 rfl (by decide) ?_
  refine g_puti (pc1 := 5) d_Slots_clear_2 rfl fo_Slots_18 (po_8_1 _) sh_360 (by decide) ?_
  refine Wp.lM h (fun M1 h => ?_)
  refine g_return rfl d_Slots_clear_5 rfl ?_
  cases h; exact hQ

def F_Tape_byteAt (p1 : Int32) (M : gM) : Option (Int32) :=
  (if p1 < 0 then some (-1) else (if (M 1 1) ≤ p1 then some (-1) else (if 2000 ≤ p1 then some (-1) else (if (p1 : Int32) < 0 ∨ 2000 ≤ (p1 : Int32).toNatClampNeg then none else some (M 2 (p1 : Int32).toNatClampNeg)))))
set_option maxHeartbeats 4000000 in
set_option maxRecDepth 20000 in
theorem f_Tape_byteAt {l : Launch} {ld : Nat} {M : gM} {L : gL} {Q : Option Value → gM → gL → gR → Prop} (hld : isLa ld) {p1 : Int32}  {q : Int32} (h : F_Tape_byteAt p1 M = some q) (hQ : Q (some (.int q)) M L (rf ld)) : Tm l y_Tape_byteAt (0, 0, 447) 447 [.ref 1, .int p1] M L (rf ld) Q := by
  refine Tm.of (by decide) (Nat.le_of_ble_eq_true rfl) ?_
  show Wp l y_Tape_byteAt (0, 0, 447) 447 0 0 0 [(0, .ref 1), (1, .int p1)] [] M L (rf ld) Q
  unfold F_Tape_byteAt at h
  refine g_iload_n (pc1 := 1) d_Tape_byteAt_0 rfl 1 rfl ?_
  refine g_if_lt (pc1 := 4) (tgt := 30) d_Tape_byteAt_1 (by decide) rfl (fun c1 => ?_) (fun c1 => ?_)
  · replace h := itp h c1
    refine g_iconst (pc1 := 31) (v := (-1)) d_Tape_byteAt_30 rfl (by decide) ?_
    refine g_ireturn (Or.inl rfl) d_Tape_byteAt_31 rfl ?_
    cases h; exact hQ
  · replace h := itn h c1
    refine g_iload_n (pc1 := 5) d_Tape_byteAt_4 rfl 1 rfl ?_
    refine g_aload_n (pc1 := 6) d_Tape_byteAt_5 rfl 0 rfl ?_
    refine g_geti (pc1 := 9) d_Tape_byteAt_6 rfl ⟨_, fo_Tape_15⟩ sh_1 (by decide) ?_
    refine g_icmp_ge (pc1 := 12) (tgt := 30) d_Tape_byteAt_9 (by decide) rfl (fun c2 => ?_) (fun c2 => ?_)
    · replace h := itp h c2
      refine g_iconst (pc1 := 31) (v := (-1)) d_Tape_byteAt_30 rfl (by decide) ?_
      refine g_ireturn (Or.inl rfl) d_Tape_byteAt_31 rfl ?_
      cases h; exact hQ
    · replace h := itn h c2
      refine g_iload_n (pc1 := 13) d_Tape_byteAt_12 rfl 1 rfl ?_
      refine g_aload_n (pc1 := 14) d_Tape_byteAt_13 rfl 0 rfl ?_
      refine g_getr (pc1 := 17) d_Tape_byteAt_14 rfl ⟨_, fo_Tape_9⟩ sh_1 (by decide) (rf_1_0 ld) ?_
      refine g_alen (pc1 := 18) (v := 2000) d_Tape_byteAt_17 rfl sh_2 (by decide) (by decide) (by decide) (by decide) ?_
      refine g_icmp_ge (pc1 := 21) (tgt := 30) d_Tape_byteAt_18 (by decide) rfl (fun c3 => ?_) (fun c3 => ?_)
      · replace h := itp h c3
        refine g_iconst (pc1 := 31) (v := (-1)) d_Tape_byteAt_30 rfl (by decide) ?_
        refine g_ireturn (Or.inl rfl) d_Tape_byteAt_31 rfl ?_
        cases h; exact hQ
      · replace h := itn h c3
        refine g_aload_n (pc1 := 22) d_Tape_byteAt_21 rfl 0 rfl ?_
        refine g_getr (pc1 := 25) d_Tape_byteAt_22 rfl ⟨_, fo_Tape_9⟩ sh_1 (by decide) (rf_1_0 ld) ?_
        refine g_iload_n (pc1 := 26) d_Tape_byteAt_25 rfl 1 rfl ?_
        obtain ⟨g4, h⟩ := gdn h
        refine g_iald (pc1 := 27) d_Tape_byteAt_26 rfl sh_2 (by decide) g4 ?_
        refine g_goto (tgt := 31) d_Tape_byteAt_27 (by decide) ?_
        refine g_ireturn (Or.inl rfl) d_Tape_byteAt_31 rfl ?_
        cases h; exact hQ

def J_Tokens_isBlank_24  : Option (Int32) :=
  some 1
set_option maxHeartbeats 4000000 in
set_option maxRecDepth 20000 in
theorem j_Tokens_isBlank_24 {l : Launch} {ld : Nat} {Q : Option Value → gM → gL → gR → Prop} (hld : isLa ld)   {q : Int32} {M : gM} {L : gL} (hQ : Q (some (.int q)) M L (rf ld))    (h : J_Tokens_isBlank_24 = some q) : Wp l y_Tokens_isBlank (0, 0, 447) 447 0 0 24 [] [] M L (rf ld) Q := by
  unfold J_Tokens_isBlank_24 at h
  refine g_iconst (pc1 := 25) (v := 1) d_Tokens_isBlank_24 rfl (by decide) ?_
  refine g_goto (tgt := 29) d_Tokens_isBlank_25 (by decide) ?_
  refine g_ireturn (Or.inr ⟨rfl, rfl⟩) d_Tokens_isBlank_29 rfl ?_
  cases h; exact hQ
def F_Tokens_isBlank (p1 : Int32) : Option (Int32) :=
  (if p1 = 9 then J_Tokens_isBlank_24 else (if p1 = 10 then J_Tokens_isBlank_24 else (if p1 = 13 then J_Tokens_isBlank_24 else (if p1 = 32 then J_Tokens_isBlank_24 else some 0))))
set_option maxHeartbeats 4000000 in
set_option maxRecDepth 20000 in
theorem f_Tokens_isBlank {l : Launch} {ld : Nat} {M : gM} {L : gL} {Q : Option Value → gM → gL → gR → Prop} (hld : isLa ld) {p1 : Int32}  {q : Int32} (h : F_Tokens_isBlank p1 = some q) (hQ : Q (some (.int q)) M L (rf ld)) : Tm l y_Tokens_isBlank (0, 0, 447) 447 [.int p1] M L (rf ld) Q := by
  refine Tm.of (by decide) (Nat.le_of_ble_eq_true rfl) ?_
  show Wp l y_Tokens_isBlank (0, 0, 447) 447 0 0 0 [(0, .int p1)] [] M L (rf ld) Q
  unfold F_Tokens_isBlank at h
  refine g_iload_n (pc1 := 1) d_Tokens_isBlank_0 rfl 0 rfl ?_
  refine g_bipush (pc1 := 3) (v := 9) d_Tokens_isBlank_1 rfl (by decide) ?_
  refine g_icmp_eq (pc1 := 6) (tgt := 24) d_Tokens_isBlank_3 (by decide) rfl (fun c1 => ?_) (fun c1 => ?_)
  · replace h := itp h c1
    refine Wp.loc (lv' := []) [] rfl ?_
    exact j_Tokens_isBlank_24 hld  hQ  h
  · replace h := itn h c1
    refine g_iload_n (pc1 := 7) d_Tokens_isBlank_6 rfl 0 rfl ?_
    refine g_bipush (pc1 := 9) (v := 10) d_Tokens_isBlank_7 rfl (by decide) ?_
    refine g_icmp_eq (pc1 := 12) (tgt := 24) d_Tokens_isBlank_9 (by decide) rfl (fun c2 => ?_) (fun c2 => ?_)
    · replace h := itp h c2
      refine Wp.loc (lv' := []) [] rfl ?_
      exact j_Tokens_isBlank_24 hld  hQ  h
    · replace h := itn h c2
      refine g_iload_n (pc1 := 13) d_Tokens_isBlank_12 rfl 0 rfl ?_
      refine g_bipush (pc1 := 15) (v := 13) d_Tokens_isBlank_13 rfl (by decide) ?_
      refine g_icmp_eq (pc1 := 18) (tgt := 24) d_Tokens_isBlank_15 (by decide) rfl (fun c3 => ?_) (fun c3 => ?_)
      · replace h := itp h c3
        refine Wp.loc (lv' := []) [] rfl ?_
        exact j_Tokens_isBlank_24 hld  hQ  h
      · replace h := itn h c3
        refine g_iload_n (pc1 := 19) d_Tokens_isBlank_18 rfl 0 rfl ?_
        refine g_bipush (pc1 := 21) (v := 32) d_Tokens_isBlank_19 rfl (by decide) ?_
        refine g_icmp_ne (pc1 := 24) (tgt := 28) d_Tokens_isBlank_21 (by decide) rfl (fun c4 => ?_) (fun c4 => ?_)
        · replace h := itn h c4
          refine g_iconst (pc1 := 29) (v := 0) d_Tokens_isBlank_28 rfl (by decide) ?_
          refine g_ireturn (Or.inr ⟨rfl, rfl⟩) d_Tokens_isBlank_29 rfl ?_
          cases h; exact hQ
        · replace h := itp h c4
          refine Wp.loc (lv' := []) [] rfl ?_
          exact j_Tokens_isBlank_24 hld  hQ  h

def J_Tokens_isSign_54  : Option (Int32) :=
  some 1
set_option maxHeartbeats 4000000 in
set_option maxRecDepth 20000 in
theorem j_Tokens_isSign_54 {l : Launch} {ld : Nat} {Q : Option Value → gM → gL → gR → Prop} (hld : isLa ld)   {q : Int32} {M : gM} {L : gL} (hQ : Q (some (.int q)) M L (rf ld))    (h : J_Tokens_isSign_54 = some q) : Wp l y_Tokens_isSign (0, 0, 447) 447 0 0 54 [] [] M L (rf ld) Q := by
  unfold J_Tokens_isSign_54 at h
  refine g_iconst (pc1 := 55) (v := 1) d_Tokens_isSign_54 rfl (by decide) ?_
  refine g_goto (tgt := 59) d_Tokens_isSign_55 (by decide) ?_
  refine g_ireturn (Or.inr ⟨rfl, rfl⟩) d_Tokens_isSign_59 rfl ?_
  cases h; exact hQ
def F_Tokens_isSign (p1 : Int32) : Option (Int32) :=
  (if p1 = 59 then J_Tokens_isSign_54 else (if p1 = 61 then J_Tokens_isSign_54 else (if p1 = 43 then J_Tokens_isSign_54 else (if p1 = 45 then J_Tokens_isSign_54 else (if p1 = 42 then J_Tokens_isSign_54 else (if p1 = 47 then J_Tokens_isSign_54 else (if p1 = 60 then J_Tokens_isSign_54 else (if p1 = 40 then J_Tokens_isSign_54 else (if p1 = 41 then J_Tokens_isSign_54 else some 0)))))))))
set_option maxHeartbeats 4000000 in
set_option maxRecDepth 20000 in
theorem f_Tokens_isSign {l : Launch} {ld : Nat} {M : gM} {L : gL} {Q : Option Value → gM → gL → gR → Prop} (hld : isLa ld) {p1 : Int32}  {q : Int32} (h : F_Tokens_isSign p1 = some q) (hQ : Q (some (.int q)) M L (rf ld)) : Tm l y_Tokens_isSign (0, 0, 447) 447 [.int p1] M L (rf ld) Q := by
  refine Tm.of (by decide) (Nat.le_of_ble_eq_true rfl) ?_
  show Wp l y_Tokens_isSign (0, 0, 447) 447 0 0 0 [(0, .int p1)] [] M L (rf ld) Q
  unfold F_Tokens_isSign at h
  refine g_iload_n (pc1 := 1) d_Tokens_isSign_0 rfl 0 rfl ?_
  refine g_bipush (pc1 := 3) (v := 59) d_Tokens_isSign_1 rfl (by decide) ?_
  refine g_icmp_eq (pc1 := 6) (tgt := 54) d_Tokens_isSign_3 (by decide) rfl (fun c1 => ?_) (fun c1 => ?_)
  · replace h := itp h c1
    refine Wp.loc (lv' := []) [] rfl ?_
    exact j_Tokens_isSign_54 hld  hQ  h
  · replace h := itn h c1
    refine g_iload_n (pc1 := 7) d_Tokens_isSign_6 rfl 0 rfl ?_
    refine g_bipush (pc1 := 9) (v := 61) d_Tokens_isSign_7 rfl (by decide) ?_
    refine g_icmp_eq (pc1 := 12) (tgt := 54) d_Tokens_isSign_9 (by decide) rfl (fun c2 => ?_) (fun c2 => ?_)
    · replace h := itp h c2
      refine Wp.loc (lv' := []) [] rfl ?_
      exact j_Tokens_isSign_54 hld  hQ  h
    · replace h := itn h c2
      refine g_iload_n (pc1 := 13) d_Tokens_isSign_12 rfl 0 rfl ?_
      refine g_bipush (pc1 := 15) (v := 43) d_Tokens_isSign_13 rfl (by decide) ?_
      refine g_icmp_eq (pc1 := 18) (tgt := 54) d_Tokens_isSign_15 (by decide) rfl (fun c3 => ?_) (fun c3 => ?_)
      · replace h := itp h c3
        refine Wp.loc (lv' := []) [] rfl ?_
        exact j_Tokens_isSign_54 hld  hQ  h
      · replace h := itn h c3
        refine g_iload_n (pc1 := 19) d_Tokens_isSign_18 rfl 0 rfl ?_
        refine g_bipush (pc1 := 21) (v := 45) d_Tokens_isSign_19 rfl (by decide) ?_
        refine g_icmp_eq (pc1 := 24) (tgt := 54) d_Tokens_isSign_21 (by decide) rfl (fun c4 => ?_) (fun c4 => ?_)
        · replace h := itp h c4
          refine Wp.loc (lv' := []) [] rfl ?_
          exact j_Tokens_isSign_54 hld  hQ  h
        · replace h := itn h c4
          refine g_iload_n (pc1 := 25) d_Tokens_isSign_24 rfl 0 rfl ?_
          refine g_bipush (pc1 := 27) (v := 42) d_Tokens_isSign_25 rfl (by decide) ?_
          refine g_icmp_eq (pc1 := 30) (tgt := 54) d_Tokens_isSign_27 (by decide) rfl (fun c5 => ?_) (fun c5 => ?_)
          · replace h := itp h c5
            refine Wp.loc (lv' := []) [] rfl ?_
            exact j_Tokens_isSign_54 hld  hQ  h
          · replace h := itn h c5
            refine g_iload_n (pc1 := 31) d_Tokens_isSign_30 rfl 0 rfl ?_
            refine g_bipush (pc1 := 33) (v := 47) d_Tokens_isSign_31 rfl (by decide) ?_
            refine g_icmp_eq (pc1 := 36) (tgt := 54) d_Tokens_isSign_33 (by decide) rfl (fun c6 => ?_) (fun c6 => ?_)
            · replace h := itp h c6
              refine Wp.loc (lv' := []) [] rfl ?_
              exact j_Tokens_isSign_54 hld  hQ  h
            · replace h := itn h c6
              refine g_iload_n (pc1 := 37) d_Tokens_isSign_36 rfl 0 rfl ?_
              refine g_bipush (pc1 := 39) (v := 60) d_Tokens_isSign_37 rfl (by decide) ?_
              refine g_icmp_eq (pc1 := 42) (tgt := 54) d_Tokens_isSign_39 (by decide) rfl (fun c7 => ?_) (fun c7 => ?_)
              · replace h := itp h c7
                refine Wp.loc (lv' := []) [] rfl ?_
                exact j_Tokens_isSign_54 hld  hQ  h
              · replace h := itn h c7
                refine g_iload_n (pc1 := 43) d_Tokens_isSign_42 rfl 0 rfl ?_
                refine g_bipush (pc1 := 45) (v := 40) d_Tokens_isSign_43 rfl (by decide) ?_
                refine g_icmp_eq (pc1 := 48) (tgt := 54) d_Tokens_isSign_45 (by decide) rfl (fun c8 => ?_) (fun c8 => ?_)
                · replace h := itp h c8
                  refine Wp.loc (lv' := []) [] rfl ?_
                  exact j_Tokens_isSign_54 hld  hQ  h
                · replace h := itn h c8
                  refine g_iload_n (pc1 := 49) d_Tokens_isSign_48 rfl 0 rfl ?_
                  refine g_bipush (pc1 := 51) (v := 41) d_Tokens_isSign_49 rfl (by decide) ?_
                  refine g_icmp_ne (pc1 := 54) (tgt := 58) d_Tokens_isSign_51 (by decide) rfl (fun c9 => ?_) (fun c9 => ?_)
                  · replace h := itn h c9
                    refine g_iconst (pc1 := 59) (v := 0) d_Tokens_isSign_58 rfl (by decide) ?_
                    refine g_ireturn (Or.inr ⟨rfl, rfl⟩) d_Tokens_isSign_59 rfl ?_
                    cases h; exact hQ
                  · replace h := itp h c9
                    refine Wp.loc (lv' := []) [] rfl ?_
                    exact j_Tokens_isSign_54 hld  hQ  h

def B_Tokens_kindOf_2 (v1 : Int64) (L : gL) (K2 : Int32 → Option (Int32)) : Int32 → Option (Int32) := fun v3 =>
  (if 21 ≤ v3 then some 2 else (if (v3 : Int32) < 0 ∨ 21 ≤ (v3 : Int32).toNatClampNeg then none else (if (lg_cmp (L 5 (v3 : Int32).toNatClampNeg) v1) = 0 then some (128 + v3) else nmI (v3 + 1) (fun x4 => K2 x4))))
def H_Tokens_kindOf_2 (v1 : Int64) (L : gL) : Nat → Int32 → Option (Int32) := lpK (B_Tokens_kindOf_2 v1 L) (fun _ => none)
set_option maxHeartbeats 4000000 in
set_option maxRecDepth 20000 in
theorem h_Tokens_kindOf_2 {l : Launch} {ld : Nat} {Q : Option Value → gM → gL → gR → Prop} (hld : isLa ld)   {q : Int32} {M : gM} {L : gL} (hQ : Q (some (.int q)) M L (rf ld))  {v1 : Int64}  : ∀ (f : Nat) (v3 : Int32), H_Tokens_kindOf_2 v1 L f v3 = some q → Wp l y_Tokens_kindOf (0, 0, 447) 447 0 0 2 [(0, .ref 4), (1, .long v1), (3, .int v3)] [] M L (rf ld) Q := by
  intro f
  induction f with
  | zero => intro v3 h; cases h
  | succ f hK2 =>
    intro v3 h
    replace h : B_Tokens_kindOf_2 v1 L (H_Tokens_kindOf_2 v1 L f) v3 = some q := h
    unfold B_Tokens_kindOf_2 at h
    refine g_iload_n (pc1 := 3) d_Tokens_kindOf_2 rfl 2 rfl ?_
    refine g_aload_n (pc1 := 4) d_Tokens_kindOf_3 rfl 0 rfl ?_
    refine g_getr (pc1 := 7) d_Tokens_kindOf_4 rfl ⟨_, fo_Tokens_9⟩ sh_4 (by decide) (rf_4_0 ld) ?_
    refine g_alen (pc1 := 8) (v := 21) d_Tokens_kindOf_7 rfl sh_5 (by decide) (by decide) (by decide) (by decide) ?_
    refine g_icmp_ge (pc1 := 11) (tgt := 34) d_Tokens_kindOf_8 (by decide) rfl (fun c1 => ?_) (fun c1 => ?_)
    · replace h := itp h c1
      refine g_iconst (pc1 := 35) (v := 2) d_Tokens_kindOf_34 rfl (by decide) ?_
      refine g_ireturn (Or.inl rfl) d_Tokens_kindOf_35 rfl ?_
      cases h; exact hQ
    · replace h := itn h c1
      refine g_aload_n (pc1 := 12) d_Tokens_kindOf_11 rfl 0 rfl ?_
      refine g_getr (pc1 := 15) d_Tokens_kindOf_12 rfl ⟨_, fo_Tokens_9⟩ sh_4 (by decide) (rf_4_0 ld) ?_
      refine g_iload_n (pc1 := 16) d_Tokens_kindOf_15 rfl 2 rfl ?_
      obtain ⟨g2, h⟩ := gdn h
      refine g_lald (pc1 := 17) d_Tokens_kindOf_16 rfl sh_5 (by decide) g2 ?_
      refine g_lload_n (pc1 := 18) d_Tokens_kindOf_17 rfl 1 rfl ?_
      refine g_lcmp (pc1 := 19) d_Tokens_kindOf_18 rfl ?_
      refine g_if_ne (pc1 := 22) (tgt := 28) d_Tokens_kindOf_19 (by decide) rfl (fun c3 => ?_) (fun c3 => ?_)
      · replace h := itn h c3
        obtain ⟨x4, ex4, h⟩ := ltI h
        refine g_iinc (pc1 := 31) (v := x4) (lv' := [(0, .ref 4), (1, .long v1), (3, .int x4)]) d_Tokens_kindOf_28 rfl 2 rfl (by rw [ex4]; rfl) (by decide) [1, 2, 0] rfl ?_
        refine g_goto (tgt := 2) d_Tokens_kindOf_31 (by decide) ?_
        exact hK2 x4 h
      · replace h := itp h c3
        refine g_sipush (pc1 := 25) (v := 128) d_Tokens_kindOf_22 rfl (by decide) ?_
        refine g_iload_n (pc1 := 26) d_Tokens_kindOf_25 rfl 2 rfl ?_
        refine g_iadd (pc1 := 27) d_Tokens_kindOf_26 rfl ?_
        refine g_ireturn (Or.inl rfl) d_Tokens_kindOf_27 rfl ?_
        cases h; exact hQ
def F_Tokens_kindOf (p1 : Int64) (L : gL) : Option (Int32) :=
  H_Tokens_kindOf_2 p1 L FU 0
set_option maxHeartbeats 4000000 in
set_option maxRecDepth 20000 in
theorem f_Tokens_kindOf {l : Launch} {ld : Nat} {M : gM} {L : gL} {Q : Option Value → gM → gL → gR → Prop} (hld : isLa ld) {p1 : Int64}  {q : Int32} (h : F_Tokens_kindOf p1 L = some q) (hQ : Q (some (.int q)) M L (rf ld)) : Tm l y_Tokens_kindOf (0, 0, 447) 447 [.ref 4, .long p1] M L (rf ld) Q := by
  refine Tm.of (by decide) (Nat.le_of_ble_eq_true rfl) ?_
  show Wp l y_Tokens_kindOf (0, 0, 447) 447 0 0 0 [(0, .ref 4), (1, .long p1)] [] M L (rf ld) Q
  unfold F_Tokens_kindOf at h
  refine g_iconst (pc1 := 1) (v := 0) d_Tokens_kindOf_0 rfl (by decide) ?_
  refine g_istore_n (pc1 := 2) (lv' := [(0, .ref 4), (1, .long p1), (3, .int 0)]) d_Tokens_kindOf_1 rfl rfl (by decide) [1, 2, 0] rfl ?_
  exact h_Tokens_kindOf_2 hld  hQ  _ 0 h

def F_Tokens_set (p1 : Int32) (p2 : Int32) (p3 : Int64) (M : gM) (L : gL) : Option (gM × gL) :=
  (if p1 < 0 then some (M, L) else (if 401 ≤ p1 then some (M, L) else (if 401 ≤ p1 then some (M, L) else (if (p1 : Int32) < 0 ∨ 401 ≤ (p1 : Int32).toNatClampNeg then none else nmM (uM M 6 (p1 : Int32).toNatClampNeg p2) (fun M5 => (if (p1 : Int32) < 0 ∨ 401 ≤ (p1 : Int32).toNatClampNeg then none else nmL (uL L 8 (p1 : Int32).toNatClampNeg p3) (fun L7 => some (M5, L7))))))))
set_option maxHeartbeats 4000000 in
set_option maxRecDepth 20000 in
theorem f_Tokens_set {l : Launch} {ld : Nat} {M : gM} {L : gL} {Q : Option Value → gM → gL → gR → Prop} (hld : isLa ld) {p1 : Int32} {p2 : Int32} {p3 : Int64}  {q : gM × gL} (h : F_Tokens_set p1 p2 p3 M L = some q) (hQ : Q none q.1 q.2 (rf ld)) : Tm l y_Tokens_set (0, 0, 447) 447 [.ref 4, .int p1, .int p2, .long p3] M L (rf ld) Q := by
  refine Tm.of (by decide) (Nat.le_of_ble_eq_true rfl) ?_
  show Wp l y_Tokens_set (0, 0, 447) 447 0 0 0 [(0, .ref 4), (1, .int p1), (2, .int p2), (3, .long p3)] [] M L (rf ld) Q
  unfold F_Tokens_set at h
  refine g_iload_n (pc1 := 1) d_Tokens_set_0 rfl 1 rfl ?_
  refine g_if_lt (pc1 := 4) (tgt := 36) d_Tokens_set_1 (by decide) rfl (fun c1 => ?_) (fun c1 => ?_)
  · replace h := itp h c1
    refine g_return rfl d_Tokens_set_36 rfl ?_
    cases h; exact hQ
  · replace h := itn h c1
    refine g_iload_n (pc1 := 5) d_Tokens_set_4 rfl 1 rfl ?_
    refine g_aload_n (pc1 := 6) d_Tokens_set_5 rfl 0 rfl ?_
    refine g_getr (pc1 := 9) d_Tokens_set_6 rfl ⟨_, fo_Tokens_15⟩ sh_4 (by decide) (rf_4_1 ld) ?_
    refine g_alen (pc1 := 10) (v := 401) d_Tokens_set_9 rfl sh_6 (by decide) (by decide) (by decide) (by decide) ?_
    refine g_icmp_ge (pc1 := 13) (tgt := 36) d_Tokens_set_10 (by decide) rfl (fun c2 => ?_) (fun c2 => ?_)
    · replace h := itp h c2
      refine g_return rfl d_Tokens_set_36 rfl ?_
      cases h; exact hQ
    · replace h := itn h c2
      refine g_iload_n (pc1 := 14) d_Tokens_set_13 rfl 1 rfl ?_
      refine g_aload_n (pc1 := 15) d_Tokens_set_14 rfl 0 rfl ?_
      refine g_getr (pc1 := 18) d_Tokens_set_15 rfl ⟨_, fo_Tokens_22⟩ sh_4 (by decide) (rf_4_3 ld) ?_
      refine g_alen (pc1 := 19) (v := 401) d_Tokens_set_18 rfl sh_8 (by decide) (by decide) (by decide) (by decide) ?_
      refine g_icmp_ge (pc1 := 22) (tgt := 36) d_Tokens_set_19 (by decide) rfl (fun c3 => ?_) (fun c3 => ?_)
      · replace h := itp h c3
        refine g_return rfl d_Tokens_set_36 rfl ?_
        cases h; exact hQ
      · replace h := itn h c3
        refine g_aload_n (pc1 := 23) d_Tokens_set_22 rfl 0 rfl ?_
        refine g_getr (pc1 := 26) d_Tokens_set_23 rfl ⟨_, fo_Tokens_15⟩ sh_4 (by decide) (rf_4_1 ld) ?_
        refine g_iload_n (pc1 := 27) d_Tokens_set_26 rfl 1 rfl ?_
        refine g_iload_n (pc1 := 28) d_Tokens_set_27 rfl 2 rfl ?_
        obtain ⟨g4, h⟩ := gdn h
        refine g_iast (pc1 := 29) d_Tokens_set_28 rfl sh_6 (by decide) g4 ?_
        refine Wp.lM h (fun M5 h => ?_)
        refine g_aload_n (pc1 := 30) d_Tokens_set_29 rfl 0 rfl ?_
        refine g_getr (pc1 := 33) d_Tokens_set_30 rfl ⟨_, fo_Tokens_22⟩ sh_4 (by decide) (rf_4_3 ld) ?_
        refine g_iload_n (pc1 := 34) d_Tokens_set_33 rfl 1 rfl ?_
        refine g_lload_n (pc1 := 35) d_Tokens_set_34 rfl 3 rfl ?_
        obtain ⟨g6, h⟩ := gdn h
        refine g_last (pc1 := 36) d_Tokens_set_35 rfl sh_8 (by decide) g6 ?_
        refine Wp.lL h (fun L7 h => ?_)
        refine g_return rfl d_Tokens_set_36 rfl ?_
        cases h; exact hQ

def F_Tokens_valueAt (p1 : Int32) (L : gL) : Option (Int64) :=
  (if p1 < 0 then some 0 else (if 401 ≤ p1 then some 0 else (if (p1 : Int32) < 0 ∨ 401 ≤ (p1 : Int32).toNatClampNeg then none else some (L 8 (p1 : Int32).toNatClampNeg))))
set_option maxHeartbeats 4000000 in
set_option maxRecDepth 20000 in
theorem f_Tokens_valueAt {l : Launch} {ld : Nat} {M : gM} {L : gL} {Q : Option Value → gM → gL → gR → Prop} (hld : isLa ld) {p1 : Int32}  {q : Int64} (h : F_Tokens_valueAt p1 L = some q) (hQ : Q (some (.long q)) M L (rf ld)) : Tm l y_Tokens_valueAt (0, 0, 447) 447 [.ref 4, .int p1] M L (rf ld) Q := by
  refine Tm.of (by decide) (Nat.le_of_ble_eq_true rfl) ?_
  show Wp l y_Tokens_valueAt (0, 0, 447) 447 0 0 0 [(0, .ref 4), (1, .int p1)] [] M L (rf ld) Q
  unfold F_Tokens_valueAt at h
  refine g_iload_n (pc1 := 1) d_Tokens_valueAt_0 rfl 1 rfl ?_
  refine g_if_lt (pc1 := 4) (tgt := 22) d_Tokens_valueAt_1 (by decide) rfl (fun c1 => ?_) (fun c1 => ?_)
  · replace h := itp h c1
    refine g_lconst (pc1 := 23) (v := 0) d_Tokens_valueAt_22 rfl (by decide) ?_
    refine g_lreturn rfl d_Tokens_valueAt_23 rfl ?_
    cases h; exact hQ
  · replace h := itn h c1
    refine g_iload_n (pc1 := 5) d_Tokens_valueAt_4 rfl 1 rfl ?_
    refine g_aload_n (pc1 := 6) d_Tokens_valueAt_5 rfl 0 rfl ?_
    refine g_getr (pc1 := 9) d_Tokens_valueAt_6 rfl ⟨_, fo_Tokens_22⟩ sh_4 (by decide) (rf_4_3 ld) ?_
    refine g_alen (pc1 := 10) (v := 401) d_Tokens_valueAt_9 rfl sh_8 (by decide) (by decide) (by decide) (by decide) ?_
    refine g_icmp_ge (pc1 := 13) (tgt := 22) d_Tokens_valueAt_10 (by decide) rfl (fun c2 => ?_) (fun c2 => ?_)
    · replace h := itp h c2
      refine g_lconst (pc1 := 23) (v := 0) d_Tokens_valueAt_22 rfl (by decide) ?_
      refine g_lreturn rfl d_Tokens_valueAt_23 rfl ?_
      cases h; exact hQ
    · replace h := itn h c2
      refine g_aload_n (pc1 := 14) d_Tokens_valueAt_13 rfl 0 rfl ?_
      refine g_getr (pc1 := 17) d_Tokens_valueAt_14 rfl ⟨_, fo_Tokens_22⟩ sh_4 (by decide) (rf_4_3 ld) ?_
      refine g_iload_n (pc1 := 18) d_Tokens_valueAt_17 rfl 1 rfl ?_
      obtain ⟨g3, h⟩ := gdn h
      refine g_lald (pc1 := 19) d_Tokens_valueAt_18 rfl sh_8 (by decide) g3 ?_
      refine g_goto (tgt := 23) d_Tokens_valueAt_19 (by decide) ?_
      refine g_lreturn rfl d_Tokens_valueAt_23 rfl ?_
      cases h; exact hQ

def F_Tokens_withLetter (p1 : Int64) (p2 : Int32) : Option (Int64) :=
  some ((p1 * 32) + ((((p2 - 97) + 1) : Int32).toInt64))
set_option maxHeartbeats 4000000 in
set_option maxRecDepth 20000 in
theorem f_Tokens_withLetter {l : Launch} {ld : Nat} {M : gM} {L : gL} {Q : Option Value → gM → gL → gR → Prop} (hld : isLa ld) {p1 : Int64} {p2 : Int32}  {q : Int64} (h : F_Tokens_withLetter p1 p2 = some q) (hQ : Q (some (.long q)) M L (rf ld)) : Tm l y_Tokens_withLetter (0, 0, 447) 447 [.long p1, .int p2] M L (rf ld) Q := by
  refine Tm.of (by decide) (Nat.le_of_ble_eq_true rfl) ?_
  show Wp l y_Tokens_withLetter (0, 0, 447) 447 0 0 0 [(0, .long p1), (2, .int p2)] [] M L (rf ld) Q
  unfold F_Tokens_withLetter at h
  refine g_lload_n (pc1 := 1) d_Tokens_withLetter_0 rfl 0 rfl ?_
  refine g_ldc2 (pc1 := 4) (v := 32) d_Tokens_withLetter_1 rfl co_Tokens_41 ?_
  refine g_lmul (pc1 := 5) d_Tokens_withLetter_4 rfl ?_
  refine g_iload_n (pc1 := 6) d_Tokens_withLetter_5 rfl 1 rfl ?_
  refine g_bipush (pc1 := 8) (v := 97) d_Tokens_withLetter_6 rfl (by decide) ?_
  refine g_isub (pc1 := 9) d_Tokens_withLetter_8 rfl ?_
  refine g_iconst (pc1 := 10) (v := 1) d_Tokens_withLetter_9 rfl (by decide) ?_
  refine g_iadd (pc1 := 11) d_Tokens_withLetter_10 rfl ?_
  refine g_i2l (pc1 := 12) d_Tokens_withLetter_11 rfl ?_
  refine g_ladd (pc1 := 13) d_Tokens_withLetter_12 rfl ?_
  refine g_lreturn rfl d_Tokens_withLetter_13 rfl ?_
  cases h; exact hQ

def F_Told_clear (M : gM) : Option (gM) :=
  nmM (uM M 383 3 0) (fun M1 => some M1)
set_option maxHeartbeats 4000000 in
set_option maxRecDepth 20000 in
theorem f_Told_clear {l : Launch} {ld : Nat} {M : gM} {L : gL} {Q : Option Value → gM → gL → gR → Prop} (hld : isLa ld)   {q : gM} (h : F_Told_clear M = some q) (hQ : Q none q L (rf ld)) : Tm l y_Told_clear (0, 0, 447) 447 [.ref 383] M L (rf ld) Q := by
  refine Tm.of (by decide) (Nat.le_of_ble_eq_true rfl) ?_
  show Wp l y_Told_clear (0, 0, 447) 447 0 0 0 [(0, .ref 383)] [] M L (rf ld) Q
  unfold F_Told_clear at h
  refine g_aload_n (pc1 := 1) d_Told_clear_0 rfl 0 rfl ?_
  refine g_iconst (pc1 := 2) (v := 0) d_Told_clear_1 rfl (by decide) ?_
  refine g_puti (pc1 := 5) d_Told_clear_2 rfl fo_Told_33 (po_9_3 _) sh_383 (by decide) ?_
  refine Wp.lM h (fun M1 h => ?_)
  refine g_return rfl d_Told_clear_5 rfl ?_
  cases h; exact hQ

def F_Int_bitCount (p1 : Int32) : Option (Int32) :=
  nmI (p1 - (((p1.toUInt32 >>> ((1 : Int32).toUInt32 &&& Int32.toUInt32 31)).toInt32) &&& 1431655765)) (fun x1 => nmI ((x1 &&& 858993459) + (((x1.toUInt32 >>> ((2 : Int32).toUInt32 &&& Int32.toUInt32 31)).toInt32) &&& 858993459)) (fun x2 => nmI ((x2 + ((x2.toUInt32 >>> ((4 : Int32).toUInt32 &&& Int32.toUInt32 31)).toInt32)) &&& 252645135) (fun x3 => nmI (x3 + ((x3.toUInt32 >>> ((8 : Int32).toUInt32 &&& Int32.toUInt32 31)).toInt32)) (fun x4 => nmI (x4 + ((x4.toUInt32 >>> ((16 : Int32).toUInt32 &&& Int32.toUInt32 31)).toInt32)) (fun x5 => some (x5 &&& 63))))))
set_option maxHeartbeats 4000000 in
set_option maxRecDepth 20000 in
theorem f_Int_bitCount {l : Launch} {ld : Nat} {M : gM} {L : gL} {Q : Option Value → gM → gL → gR → Prop} (hld : isLa ld) {p1 : Int32}  {q : Int32} (h : F_Int_bitCount p1 = some q) (hQ : Q (some (.int q)) M L (rf ld)) : Tm l y_Int_bitCount (0, 0, 447) 447 [.int p1] M L (rf ld) Q := by
  refine Tm.of (by decide) (Nat.le_of_ble_eq_true rfl) ?_
  show Wp l y_Int_bitCount (0, 0, 447) 447 0 0 0 [(0, .int p1)] [] M L (rf ld) Q
  unfold F_Int_bitCount at h
  refine g_iload_n (pc1 := 1) d_Int_bitCount_0 rfl 0 rfl ?_
  refine g_iload_n (pc1 := 2) d_Int_bitCount_1 rfl 0 rfl ?_
  refine g_iconst (pc1 := 3) (v := 1) d_Int_bitCount_2 rfl (by decide) ?_
  refine g_iushr (pc1 := 4) d_Int_bitCount_3 rfl ?_
  refine g_ldcw (pc1 := 7) (v := 1431655765) d_Int_bitCount_4 rfl co_Int_265 ?_
  refine g_iand (pc1 := 8) d_Int_bitCount_7 rfl ?_
  refine g_isub (pc1 := 9) d_Int_bitCount_8 rfl ?_
  refine Wp.lI h (fun x1 h => ?_)
  refine g_istore_n (pc1 := 10) (lv' := [(0, .int x1)]) d_Int_bitCount_9 rfl rfl (by decide) [0] rfl ?_
  refine g_iload_n (pc1 := 11) d_Int_bitCount_10 rfl 0 rfl ?_
  refine g_ldcw (pc1 := 14) (v := 858993459) d_Int_bitCount_11 rfl co_Int_266 ?_
  refine g_iand (pc1 := 15) d_Int_bitCount_14 rfl ?_
  refine g_iload_n (pc1 := 16) d_Int_bitCount_15 rfl 0 rfl ?_
  refine g_iconst (pc1 := 17) (v := 2) d_Int_bitCount_16 rfl (by decide) ?_
  refine g_iushr (pc1 := 18) d_Int_bitCount_17 rfl ?_
  refine g_ldcw (pc1 := 21) (v := 858993459) d_Int_bitCount_18 rfl co_Int_266 ?_
  refine g_iand (pc1 := 22) d_Int_bitCount_21 rfl ?_
  refine g_iadd (pc1 := 23) d_Int_bitCount_22 rfl ?_
  refine Wp.lI h (fun x2 h => ?_)
  refine g_istore_n (pc1 := 24) (lv' := [(0, .int x2)]) d_Int_bitCount_23 rfl rfl (by decide) [0] rfl ?_
  refine g_iload_n (pc1 := 25) d_Int_bitCount_24 rfl 0 rfl ?_
  refine g_iload_n (pc1 := 26) d_Int_bitCount_25 rfl 0 rfl ?_
  refine g_iconst (pc1 := 27) (v := 4) d_Int_bitCount_26 rfl (by decide) ?_
  refine g_iushr (pc1 := 28) d_Int_bitCount_27 rfl ?_
  refine g_iadd (pc1 := 29) d_Int_bitCount_28 rfl ?_
  refine g_ldcw (pc1 := 32) (v := 252645135) d_Int_bitCount_29 rfl co_Int_267 ?_
  refine g_iand (pc1 := 33) d_Int_bitCount_32 rfl ?_
  refine Wp.lI h (fun x3 h => ?_)
  refine g_istore_n (pc1 := 34) (lv' := [(0, .int x3)]) d_Int_bitCount_33 rfl rfl (by decide) [0] rfl ?_
  refine g_iload_n (pc1 := 35) d_Int_bitCount_34 rfl 0 rfl ?_
  refine g_iload_n (pc1 := 36) d_Int_bitCount_35 rfl 0 rfl ?_
  refine g_bipush (pc1 := 38) (v := 8) d_Int_bitCount_36 rfl (by decide) ?_
  refine g_iushr (pc1 := 39) d_Int_bitCount_38 rfl ?_
  refine g_iadd (pc1 := 40) d_Int_bitCount_39 rfl ?_
  refine Wp.lI h (fun x4 h => ?_)
  refine g_istore_n (pc1 := 41) (lv' := [(0, .int x4)]) d_Int_bitCount_40 rfl rfl (by decide) [0] rfl ?_
  refine g_iload_n (pc1 := 42) d_Int_bitCount_41 rfl 0 rfl ?_
  refine g_iload_n (pc1 := 43) d_Int_bitCount_42 rfl 0 rfl ?_
  refine g_bipush (pc1 := 45) (v := 16) d_Int_bitCount_43 rfl (by decide) ?_
  refine g_iushr (pc1 := 46) d_Int_bitCount_45 rfl ?_
  refine g_iadd (pc1 := 47) d_Int_bitCount_46 rfl ?_
  refine Wp.lI h (fun x5 h => ?_)
  refine g_istore_n (pc1 := 48) (lv' := [(0, .int x5)]) d_Int_bitCount_47 rfl rfl (by decide) [0] rfl ?_
  refine g_iload_n (pc1 := 49) d_Int_bitCount_48 rfl 0 rfl ?_
  refine g_bipush (pc1 := 51) (v := 63) d_Int_bitCount_49 rfl (by decide) ?_
  refine g_iand (pc1 := 52) d_Int_bitCount_51 rfl ?_
  refine g_ireturn (Or.inl rfl) d_Int_bitCount_52 rfl ?_
  cases h; exact hQ

def F_Main_forget (M : gM) : Option (Int32 × gM) :=
  nmI (M 383 3) (fun x1 => bI (F_Told_clear M) (fun M3 => some (x1, M3)))
set_option maxHeartbeats 4000000 in
set_option maxRecDepth 20000 in
theorem f_Main_forget {l : Launch} {ld : Nat} {M : gM} {L : gL} {Q : Option Value → gM → gL → gR → Prop} (hld : isLa ld)   {q : Int32 × gM} (h : F_Main_forget M = some q) (hQ : Q (some (.int q.1)) q.2 L (rf ld)) : Tm l y_Main_forget (0, 0, 447) 447 [.ref 0] M L (rf ld) Q := by
  refine Tm.of (by decide) (Nat.le_of_ble_eq_true rfl) ?_
  show Wp l y_Main_forget (0, 0, 447) 447 0 0 0 [(0, .ref 0)] [] M L (rf ld) Q
  unfold F_Main_forget at h
  refine g_aload_n (pc1 := 1) d_Main_forget_0 rfl 0 rfl ?_
  refine g_getr (pc1 := 4) d_Main_forget_1 rfl ⟨_, fo_Main_60⟩ sh_0 (by decide) (rf_0_8 ld) ?_
  refine g_geti (pc1 := 7) d_Main_forget_4 rfl ⟨_, fo_Main_275⟩ sh_383 (by decide) ?_
  refine Wp.lI h (fun x1 h => ?_)
  refine g_istore_n (pc1 := 8) (lv' := [(0, .ref 0), (1, .int x1)]) d_Main_forget_7 rfl rfl (by decide) [1, 0] rfl ?_
  refine g_aload_n (pc1 := 9) d_Main_forget_8 rfl 0 rfl ?_
  refine g_getr (pc1 := 12) d_Main_forget_9 rfl ⟨_, fo_Main_60⟩ sh_0 (by decide) (rf_0_8 ld) ?_
  refine g_callV0 (pc1 := 15) (As := []) (rest := []) d_Main_forget_12 rfl mo_Main_108 mi_Told_clear mv_Told_clear rfl sh_383 (by decide) (by decide) rfl rfl (Nat.le_of_ble_eq_true rfl) ?_
  obtain ⟨M3, hq2, h⟩ := bnd h
  refine f_Told_clear hld  hq2 ?_
  dsimp only [psh]
  refine g_iload_n (pc1 := 16) d_Main_forget_15 rfl 1 rfl ?_
  refine g_ireturn (Or.inl rfl) d_Main_forget_16 rfl ?_
  cases h; exact hQ

def F_Main_within (p1 : Int32) (p2 : Int32) (p3 : Int32) : Option (Int32) :=
  some (if p2 < (if p1 < p3 then p1 else p3) then (if p1 < p3 then p1 else p3) else p2)
set_option maxHeartbeats 4000000 in
set_option maxRecDepth 20000 in
theorem f_Main_within {l : Launch} {ld : Nat} {M : gM} {L : gL} {Q : Option Value → gM → gL → gR → Prop} (hld : isLa ld) {p1 : Int32} {p2 : Int32} {p3 : Int32}  {q : Int32} (h : F_Main_within p1 p2 p3 = some q) (hQ : Q (some (.int q)) M L (rf ld)) : Tm l y_Main_within (0, 0, 447) 447 [.int p1, .int p2, .int p3] M L (rf ld) Q := by
  refine Tm.of (by decide) (Nat.le_of_ble_eq_true rfl) ?_
  show Wp l y_Main_within (0, 0, 447) 447 0 0 0 [(0, .int p1), (1, .int p2), (2, .int p3)] [] M L (rf ld) Q
  unfold F_Main_within at h
  refine g_iload_n (pc1 := 1) d_Main_within_0 rfl 1 rfl ?_
  refine g_iload_n (pc1 := 2) d_Main_within_1 rfl 2 rfl ?_
  refine g_iload_n (pc1 := 3) d_Main_within_2 rfl 0 rfl ?_
  refine g_mmin (pc1 := 6) d_Main_within_3 rfl mm_Main_313 (by decide) ⟨Nat.le_refl 0, Nat.le_refl 0⟩ (Nat.le_of_ble_eq_true rfl) ?_
  refine g_mmax (pc1 := 9) d_Main_within_6 rfl mm_Main_316 (by decide) ⟨Nat.le_refl 0, Nat.le_refl 0⟩ (Nat.le_of_ble_eq_true rfl) ?_
  refine g_ireturn (Or.inl rfl) d_Main_within_9 rfl ?_
  cases h; exact hQ

def F_Land_broughtBy (Ld0 : Nat) (p1 : Int32) (p2 : Int32) (M : gM) : Option (Int32) :=
  bI (F_Main_at (Ld0 + 3) 18 ((p1 * 3) + p2) M) (fun r2 => some r2)
set_option maxHeartbeats 4000000 in
set_option maxRecDepth 20000 in
theorem f_Land_broughtBy {l : Launch} {ld : Nat} {M : gM} {L : gL} {Q : Option Value → gM → gL → gR → Prop} (hld : isLa ld) {Ld0 : Nat} {p1 : Int32} {p2 : Int32} (hLd0 : isLa Ld0) {q : Int32} (h : F_Land_broughtBy Ld0 p1 p2 M = some q) (hQ : Q (some (.int q)) M L (rf ld)) : Tm l y_Land_broughtBy (0, 0, 447) 447 [.ref Ld0, .int p1, .int p2] M L (rf ld) Q := by
  refine Tm.of (by decide) (Nat.le_of_ble_eq_true rfl) ?_
  show Wp l y_Land_broughtBy (0, 0, 447) 447 0 0 0 [(0, .ref Ld0), (1, .int p1), (2, .int p2)] [] M L (rf ld) Q
  unfold F_Land_broughtBy at h
  refine g_aload_n (pc1 := 1) d_Land_broughtBy_0 rfl 0 rfl ?_
  refine g_getr (pc1 := 4) d_Land_broughtBy_1 rfl ⟨_, fo_Land_18⟩ (shLa_0 hLd0) (ltLa_0 hLd0) (rfLa_7 ld hLd0) ?_
  refine g_iload_n (pc1 := 5) d_Land_broughtBy_4 rfl 1 rfl ?_
  refine g_iconst (pc1 := 6) (v := 3) d_Land_broughtBy_5 rfl (by decide) ?_
  refine g_imul (pc1 := 7) d_Land_broughtBy_6 rfl ?_
  refine g_iload_n (pc1 := 8) d_Land_broughtBy_7 rfl 2 rfl ?_
  refine g_iadd (pc1 := 9) d_Land_broughtBy_8 rfl ?_
  refine g_callS0 (pc1 := 12) (As := [.ref (Ld0 + 3), .int ((p1 * 3) + p2)]) (rest := []) d_Land_broughtBy_9 rfl mo_Land_78 ms_Main_at (by decide) rfl rfl (Nat.le_of_ble_eq_true rfl) ?_
  obtain ⟨r2, hq1, h⟩ := bnd h
  refine f_Main_at hld (shLa_3 hLd0) (ltLa_3 hLd0) (by decide) hq1 ?_
  dsimp only [psh]
  refine g_ireturn (Or.inl rfl) d_Land_broughtBy_12 rfl ?_
  cases h; exact hQ

def F_Land_clear (Ld0 : Nat) (M : gM) : Option (gM) :=
  nmM (uM M Ld0 0 0) (fun M1 => nmM (uM M1 Ld0 1 0) (fun M2 => nmM (uM M2 Ld0 2 0) (fun M3 => nmM (uM M3 Ld0 3 0) (fun M4 => nmM (uM M4 Ld0 4 0) (fun M5 => bI (F_Main_wipe (Ld0 + 5) 30 M5) (fun M7 => bI (F_Law_clear (Ld0 + 9) M7) (fun M9 => bI (F_Law_clear (Ld0 + 13) M9) (fun M11 => bI (F_Law_clear (Ld0 + 17) M11) (fun M13 => bI (F_Law_clear (Ld0 + 21) M13) (fun M15 => some M15))))))))))
set_option maxHeartbeats 4000000 in
set_option maxRecDepth 20000 in
theorem f_Land_clear {l : Launch} {ld : Nat} {M : gM} {L : gL} {Q : Option Value → gM → gL → gR → Prop} (hld : isLa ld) {Ld0 : Nat} (hLd0 : isLa Ld0) {q : gM} (h : F_Land_clear Ld0 M = some q) (hQ : Q none q L (rf ld)) : Tm l y_Land_clear (0, 0, 447) 447 [.ref Ld0] M L (rf ld) Q := by
  refine Tm.of (by decide) (Nat.le_of_ble_eq_true rfl) ?_
  show Wp l y_Land_clear (0, 0, 447) 447 0 0 0 [(0, .ref Ld0)] [] M L (rf ld) Q
  unfold F_Land_clear at h
  refine g_aload_n (pc1 := 1) d_Land_clear_0 rfl 0 rfl ?_
  refine g_iconst (pc1 := 2) (v := 0) d_Land_clear_1 rfl (by decide) ?_
  refine g_puti (pc1 := 5) d_Land_clear_2 rfl fo_Land_55 (po_4_0 _) (shLa_0 hLd0) (ltLa_0 hLd0) ?_
  refine Wp.lM h (fun M1 h => ?_)
  refine g_aload_n (pc1 := 6) d_Land_clear_5 rfl 0 rfl ?_
  refine g_iconst (pc1 := 7) (v := 0) d_Land_clear_6 rfl (by decide) ?_
  refine g_puti (pc1 := 10) d_Land_clear_7 rfl fo_Land_59 (po_4_1 _) (shLa_0 hLd0) (ltLa_0 hLd0) ?_
  refine Wp.lM h (fun M2 h => ?_)
  refine g_aload_n (pc1 := 11) d_Land_clear_10 rfl 0 rfl ?_
  refine g_iconst (pc1 := 12) (v := 0) d_Land_clear_11 rfl (by decide) ?_
  refine g_puti (pc1 := 15) d_Land_clear_12 rfl fo_Land_62 (po_4_2 _) (shLa_0 hLd0) (ltLa_0 hLd0) ?_
  refine Wp.lM h (fun M3 h => ?_)
  refine g_aload_n (pc1 := 16) d_Land_clear_15 rfl 0 rfl ?_
  refine g_iconst (pc1 := 17) (v := 0) d_Land_clear_16 rfl (by decide) ?_
  refine g_puti (pc1 := 20) d_Land_clear_17 rfl fo_Land_65 (po_4_3 _) (shLa_0 hLd0) (ltLa_0 hLd0) ?_
  refine Wp.lM h (fun M4 h => ?_)
  refine g_aload_n (pc1 := 21) d_Land_clear_20 rfl 0 rfl ?_
  refine g_iconst (pc1 := 22) (v := 0) d_Land_clear_21 rfl (by decide) ?_
  refine g_puti (pc1 := 25) d_Land_clear_22 rfl fo_Land_68 (po_4_4 _) (shLa_0 hLd0) (ltLa_0 hLd0) ?_
  refine Wp.lM h (fun M5 h => ?_)
  refine g_aload_n (pc1 := 26) d_Land_clear_25 rfl 0 rfl ?_
  refine g_getr (pc1 := 29) d_Land_clear_26 rfl ⟨_, fo_Land_24⟩ (shLa_0 hLd0) (ltLa_0 hLd0) (rfLa_9 ld hLd0) ?_
  refine g_callS0 (pc1 := 32) (As := [.ref (Ld0 + 5)]) (rest := []) d_Land_clear_29 rfl mo_Land_71 ms_Main_wipe (by decide) rfl rfl (Nat.le_of_ble_eq_true rfl) ?_
  obtain ⟨M7, hq6, h⟩ := bnd h
  refine f_Main_wipe hld (shLa_5 hLd0) (ltLa_5 hLd0) (by decide) hq6 ?_
  dsimp only [psh]
  refine g_aload_n (pc1 := 33) d_Land_clear_32 rfl 0 rfl ?_
  refine g_getr (pc1 := 36) d_Land_clear_33 rfl ⟨_, fo_Land_39⟩ (shLa_0 hLd0) (ltLa_0 hLd0) (rfLa_13 ld hLd0) ?_
  refine g_callV0 (pc1 := 39) (As := []) (rest := []) d_Land_clear_36 rfl mo_Land_75 mi_Law_clear mv_Law_clear rfl (shLw_0 (isLw_9 hLd0)) (ltLw_0 (isLw_9 hLd0)) (by decide) rfl rfl (Nat.le_of_ble_eq_true rfl) ?_
  obtain ⟨M9, hq8, h⟩ := bnd h
  refine f_Law_clear hld (isLw_9 hLd0) hq8 ?_
  dsimp only [psh]
  refine g_aload_n (pc1 := 40) d_Land_clear_39 rfl 0 rfl ?_
  refine g_getr (pc1 := 43) d_Land_clear_40 rfl ⟨_, fo_Land_43⟩ (shLa_0 hLd0) (ltLa_0 hLd0) (rfLa_14 ld hLd0) ?_
  refine g_callV0 (pc1 := 46) (As := []) (rest := []) d_Land_clear_43 rfl mo_Land_75 mi_Law_clear mv_Law_clear rfl (shLw_0 (isLw_13 hLd0)) (ltLw_0 (isLw_13 hLd0)) (by decide) rfl rfl (Nat.le_of_ble_eq_true rfl) ?_
  obtain ⟨M11, hq10, h⟩ := bnd h
  refine f_Law_clear hld (isLw_13 hLd0) hq10 ?_
  dsimp only [psh]
  refine g_aload_n (pc1 := 47) d_Land_clear_46 rfl 0 rfl ?_
  refine g_getr (pc1 := 50) d_Land_clear_47 rfl ⟨_, fo_Land_46⟩ (shLa_0 hLd0) (ltLa_0 hLd0) (rfLa_15 ld hLd0) ?_
  refine g_callV0 (pc1 := 53) (As := []) (rest := []) d_Land_clear_50 rfl mo_Land_75 mi_Law_clear mv_Law_clear rfl (shLw_0 (isLw_17 hLd0)) (ltLw_0 (isLw_17 hLd0)) (by decide) rfl rfl (Nat.le_of_ble_eq_true rfl) ?_
  obtain ⟨M13, hq12, h⟩ := bnd h
  refine f_Law_clear hld (isLw_17 hLd0) hq12 ?_
  dsimp only [psh]
  refine g_aload_n (pc1 := 54) d_Land_clear_53 rfl 0 rfl ?_
  refine g_getr (pc1 := 57) d_Land_clear_54 rfl ⟨_, fo_Land_49⟩ (shLa_0 hLd0) (ltLa_0 hLd0) (rfLa_16 ld hLd0) ?_
  refine g_callV0 (pc1 := 60) (As := []) (rest := []) d_Land_clear_57 rfl mo_Land_75 mi_Law_clear mv_Law_clear rfl (shLw_0 (isLw_21 hLd0)) (ltLw_0 (isLw_21 hLd0)) (by decide) rfl rfl (Nat.le_of_ble_eq_true rfl) ?_
  obtain ⟨M15, hq14, h⟩ := bnd h
  refine f_Law_clear hld (isLw_21 hLd0) hq14 ?_
  dsimp only [psh]
  refine g_return rfl d_Land_clear_60 rfl ?_
  cases h; exact hQ

def J_Land_freeUnder_47 (Ld0 : Nat) (K5 : Int32 → Int32 → Option (Int32)) (v1 : Int32) (v2 : Int32) (v3 : Int32) (v4 : Int32) (M : gM) : Option (Int32) :=
  nmI (v4 + 1) (fun x5 => K5 v3 x5)
set_option maxHeartbeats 4000000 in
set_option maxRecDepth 20000 in
theorem j_Land_freeUnder_47 {l : Launch} {ld : Nat} {Q : Option Value → gM → gL → gR → Prop} (hld : isLa ld) {Ld0 : Nat} (hLd0 : isLa Ld0) {q : Int32} {M : gM} {L : gL} (hQ : Q (some (.int q)) M L (rf ld)) {K5 : Int32 → Int32 → Option (Int32)} {v1 : Int32} {v2 : Int32} {v3 : Int32} {v4 : Int32} (hK5 : ∀ (w3 : Int32) (w4 : Int32), K5 w3 w4 = some q → Wp l y_Land_freeUnder (0, 0, 447) 447 0 0 5 [(0, .ref Ld0), (1, .int v1), (2, .int v2), (3, .int w3), (4, .int w4)] [] M L (rf ld) Q) (h : J_Land_freeUnder_47 Ld0 K5 v1 v2 v3 v4 M = some q) : Wp l y_Land_freeUnder (0, 0, 447) 447 0 0 47 [(0, .ref Ld0), (1, .int v1), (2, .int v2), (3, .int v3), (4, .int v4)] [] M L (rf ld) Q := by
  unfold J_Land_freeUnder_47 at h
  obtain ⟨x5, ex5, h⟩ := ltI h
  refine g_iinc (pc1 := 50) (v := x5) (lv' := [(0, .ref Ld0), (1, .int v1), (2, .int v2), (3, .int v3), (4, .int x5)]) d_Land_freeUnder_47 rfl 4 rfl (by rw [ex5]; rfl) (by decide) [1, 2, 3, 4, 0] rfl ?_
  refine g_goto (tgt := 5) d_Land_freeUnder_50 (by decide) ?_
  exact hK5 v3 x5 h
def B_Land_freeUnder_5 (Ld0 : Nat) (v1 : Int32) (v2 : Int32) (M : gM) (K5 : Int32 → Int32 → Option (Int32)) : Int32 → Int32 → Option (Int32) := fun v3 v4 =>
  (if (M Ld0 3) ≤ v4 then some v3 else bI (F_Main_at (Ld0 + 7) 6 v4 M) (fun r3 => (if r3 = v1 then bI (F_Main_at (Ld0 + 8) 6 v4 M) (fun r7 => (if r7 ≤ v2 then J_Land_freeUnder_47 Ld0 K5 v1 v2 v3 v4 M else nmI (v3 ||| (1 <<< (v4 &&& 31))) (fun x9 => J_Land_freeUnder_47 Ld0 K5 v1 v2 x9 v4 M))) else J_Land_freeUnder_47 Ld0 K5 v1 v2 v3 v4 M)))
def H_Land_freeUnder_5 (Ld0 : Nat) (v1 : Int32) (v2 : Int32) (M : gM) : Nat → Int32 → Int32 → Option (Int32) := lpK (B_Land_freeUnder_5 Ld0 v1 v2 M) (fun _ _ => none)
set_option maxHeartbeats 4000000 in
set_option maxRecDepth 20000 in
theorem h_Land_freeUnder_5 {l : Launch} {ld : Nat} {Q : Option Value → gM → gL → gR → Prop} (hld : isLa ld) {Ld0 : Nat} (hLd0 : isLa Ld0) {q : Int32} {M : gM} {L : gL} (hQ : Q (some (.int q)) M L (rf ld))  {v1 : Int32} {v2 : Int32}  : ∀ (f : Nat) (v3 : Int32) (v4 : Int32), H_Land_freeUnder_5 Ld0 v1 v2 M f v3 v4 = some q → Wp l y_Land_freeUnder (0, 0, 447) 447 0 0 5 [(0, .ref Ld0), (1, .int v1), (2, .int v2), (3, .int v3), (4, .int v4)] [] M L (rf ld) Q := by
  intro f
  induction f with
  | zero => intro v3 v4 h; cases h
  | succ f hK5 =>
    intro v3 v4 h
    replace h : B_Land_freeUnder_5 Ld0 v1 v2 M (H_Land_freeUnder_5 Ld0 v1 v2 M f) v3 v4 = some q := h
    unfold B_Land_freeUnder_5 at h
    refine g_iload (pc1 := 7) d_Land_freeUnder_5 rfl 4 rfl ?_
    refine g_aload_n (pc1 := 8) d_Land_freeUnder_7 rfl 0 rfl ?_
    refine g_geti (pc1 := 11) d_Land_freeUnder_8 rfl ⟨_, fo_Land_65⟩ (shLa_0 hLd0) (ltLa_0 hLd0) ?_
    refine g_icmp_ge (pc1 := 14) (tgt := 53) d_Land_freeUnder_11 (by decide) rfl (fun c1 => ?_) (fun c1 => ?_)
    · replace h := itp h c1
      refine g_iload_n (pc1 := 54) d_Land_freeUnder_53 rfl 3 rfl ?_
      refine g_ireturn (Or.inl rfl) d_Land_freeUnder_54 rfl ?_
      cases h; exact hQ
    · replace h := itn h c1
      refine g_aload_n (pc1 := 15) d_Land_freeUnder_14 rfl 0 rfl ?_
      refine g_getr (pc1 := 18) d_Land_freeUnder_15 rfl ⟨_, fo_Land_30⟩ (shLa_0 hLd0) (ltLa_0 hLd0) (rfLa_11 ld hLd0) ?_
      refine g_iload (pc1 := 20) d_Land_freeUnder_18 rfl 4 rfl ?_
      refine g_callS0 (pc1 := 23) (As := [.ref (Ld0 + 7), .int v4]) (rest := []) d_Land_freeUnder_20 rfl mo_Land_78 ms_Main_at (by decide) rfl rfl (Nat.le_of_ble_eq_true rfl) ?_
      obtain ⟨r3, hq2, h⟩ := bnd h
      refine f_Main_at hld (shLa_7 hLd0) (ltLa_7 hLd0) (by decide) hq2 ?_
      dsimp only [psh]
      refine g_iload_n (pc1 := 24) d_Land_freeUnder_23 rfl 1 rfl ?_
      refine g_icmp_ne (pc1 := 27) (tgt := 47) d_Land_freeUnder_24 (by decide) rfl (fun c4 => ?_) (fun c4 => ?_)
      · replace h := itn h c4
        exact j_Land_freeUnder_47 hld hLd0 hQ hK5 h
      · replace h := itp h c4
        refine g_iload_n (pc1 := 28) d_Land_freeUnder_27 rfl 2 rfl ?_
        refine g_aload_n (pc1 := 29) d_Land_freeUnder_28 rfl 0 rfl ?_
        refine g_getr (pc1 := 32) d_Land_freeUnder_29 rfl ⟨_, fo_Land_33⟩ (shLa_0 hLd0) (ltLa_0 hLd0) (rfLa_12 ld hLd0) ?_
        refine g_iload (pc1 := 34) d_Land_freeUnder_32 rfl 4 rfl ?_
        refine g_callS0 (pc1 := 37) (As := [.ref (Ld0 + 8), .int v4]) (rest := [.int v2]) d_Land_freeUnder_34 rfl mo_Land_78 ms_Main_at (by decide) rfl rfl (Nat.le_of_ble_eq_true rfl) ?_
        obtain ⟨r7, hq6, h⟩ := bnd h
        refine f_Main_at hld (shLa_8 hLd0) (ltLa_8 hLd0) (by decide) hq6 ?_
        dsimp only [psh]
        refine g_icmp_ge (pc1 := 40) (tgt := 47) d_Land_freeUnder_37 (by decide) rfl (fun c8 => ?_) (fun c8 => ?_)
        · replace h := itp h c8
          exact j_Land_freeUnder_47 hld hLd0 hQ hK5 h
        · replace h := itn h c8
          refine g_iload_n (pc1 := 41) d_Land_freeUnder_40 rfl 3 rfl ?_
          refine g_iconst (pc1 := 42) (v := 1) d_Land_freeUnder_41 rfl (by decide) ?_
          refine g_iload (pc1 := 44) d_Land_freeUnder_42 rfl 4 rfl ?_
          refine g_ishl (pc1 := 45) d_Land_freeUnder_44 rfl ?_
          refine g_ior (pc1 := 46) d_Land_freeUnder_45 rfl ?_
          refine Wp.lI h (fun x9 h => ?_)
          refine g_istore_n (pc1 := 47) (lv' := [(0, .ref Ld0), (1, .int v1), (2, .int v2), (3, .int x9), (4, .int v4)]) d_Land_freeUnder_46 rfl rfl (by decide) [1, 2, 3, 0, 4] rfl ?_
          exact j_Land_freeUnder_47 hld hLd0 hQ hK5 h
def F_Land_freeUnder (Ld0 : Nat) (p1 : Int32) (p2 : Int32) (M : gM) : Option (Int32) :=
  H_Land_freeUnder_5 Ld0 p1 p2 M FU 0 0
set_option maxHeartbeats 4000000 in
set_option maxRecDepth 20000 in
theorem f_Land_freeUnder {l : Launch} {ld : Nat} {M : gM} {L : gL} {Q : Option Value → gM → gL → gR → Prop} (hld : isLa ld) {Ld0 : Nat} {p1 : Int32} {p2 : Int32} (hLd0 : isLa Ld0) {q : Int32} (h : F_Land_freeUnder Ld0 p1 p2 M = some q) (hQ : Q (some (.int q)) M L (rf ld)) : Tm l y_Land_freeUnder (0, 0, 447) 447 [.ref Ld0, .int p1, .int p2] M L (rf ld) Q := by
  refine Tm.of (by decide) (Nat.le_of_ble_eq_true rfl) ?_
  show Wp l y_Land_freeUnder (0, 0, 447) 447 0 0 0 [(0, .ref Ld0), (1, .int p1), (2, .int p2)] [] M L (rf ld) Q
  unfold F_Land_freeUnder at h
  refine g_iconst (pc1 := 1) (v := 0) d_Land_freeUnder_0 rfl (by decide) ?_
  refine g_istore_n (pc1 := 2) (lv' := [(0, .ref Ld0), (1, .int p1), (2, .int p2), (3, .int 0)]) d_Land_freeUnder_1 rfl rfl (by decide) [1, 2, 3, 0] rfl ?_
  refine g_iconst (pc1 := 3) (v := 0) d_Land_freeUnder_2 rfl (by decide) ?_
  refine g_istore (pc1 := 5) (lv' := [(0, .ref Ld0), (1, .int p1), (2, .int p2), (3, .int 0), (4, .int 0)]) d_Land_freeUnder_3 rfl (by decide) [1, 2, 3, 4, 0] rfl ?_
  exact h_Land_freeUnder_5 hld hLd0 hQ  _ 0 0 h

def F_Land_inDish (Ld0 : Nat) (p1 : Int32) (p2 : Int32) (M : gM) : Option (Int32) :=
  bI (F_Main_at (Ld0 + 5) 30 ((p1 * 6) + p2) M) (fun r2 => some r2)
set_option maxHeartbeats 4000000 in
set_option maxRecDepth 20000 in
theorem f_Land_inDish {l : Launch} {ld : Nat} {M : gM} {L : gL} {Q : Option Value → gM → gL → gR → Prop} (hld : isLa ld) {Ld0 : Nat} {p1 : Int32} {p2 : Int32} (hLd0 : isLa Ld0) {q : Int32} (h : F_Land_inDish Ld0 p1 p2 M = some q) (hQ : Q (some (.int q)) M L (rf ld)) : Tm l y_Land_inDish (0, 0, 447) 447 [.ref Ld0, .int p1, .int p2] M L (rf ld) Q := by
  refine Tm.of (by decide) (Nat.le_of_ble_eq_true rfl) ?_
  show Wp l y_Land_inDish (0, 0, 447) 447 0 0 0 [(0, .ref Ld0), (1, .int p1), (2, .int p2)] [] M L (rf ld) Q
  unfold F_Land_inDish at h
  refine g_aload_n (pc1 := 1) d_Land_inDish_0 rfl 0 rfl ?_
  refine g_getr (pc1 := 4) d_Land_inDish_1 rfl ⟨_, fo_Land_24⟩ (shLa_0 hLd0) (ltLa_0 hLd0) (rfLa_9 ld hLd0) ?_
  refine g_iload_n (pc1 := 5) d_Land_inDish_4 rfl 1 rfl ?_
  refine g_bipush (pc1 := 7) (v := 6) d_Land_inDish_5 rfl (by decide) ?_
  refine g_imul (pc1 := 8) d_Land_inDish_7 rfl ?_
  refine g_iload_n (pc1 := 9) d_Land_inDish_8 rfl 2 rfl ?_
  refine g_iadd (pc1 := 10) d_Land_inDish_9 rfl ?_
  refine g_callS0 (pc1 := 13) (As := [.ref (Ld0 + 5), .int ((p1 * 6) + p2)]) (rest := []) d_Land_inDish_10 rfl mo_Land_78 ms_Main_at (by decide) rfl rfl (Nat.le_of_ble_eq_true rfl) ?_
  obtain ⟨r2, hq1, h⟩ := bnd h
  refine f_Main_at hld (shLa_5 hLd0) (ltLa_5 hLd0) (by decide) hq1 ?_
  dsimp only [psh]
  refine g_ireturn (Or.inl rfl) d_Land_inDish_13 rfl ?_
  cases h; exact hQ

def F_Land_lot (p1 : Int32) (p2 : Int32) (p3 : Int32) : Option (Int32) :=
  bI (F_Land_stirred p2 103) (fun r2 => bI (F_Land_stirred r2 p3) (fun r4 => (if p1 ≤ 0 then some 0 else (if p1 = 0 then none else some (((r4.toUInt32 >>> ((1 : Int32).toUInt32 &&& Int32.toUInt32 31)).toInt32) - ((r4.toUInt32 >>> ((1 : Int32).toUInt32 &&& Int32.toUInt32 31)).toInt32) / p1 * p1)))))
set_option maxHeartbeats 4000000 in
set_option maxRecDepth 20000 in
theorem f_Land_lot {l : Launch} {ld : Nat} {M : gM} {L : gL} {Q : Option Value → gM → gL → gR → Prop} (hld : isLa ld) {p1 : Int32} {p2 : Int32} {p3 : Int32}  {q : Int32} (h : F_Land_lot p1 p2 p3 = some q) (hQ : Q (some (.int q)) M L (rf ld)) : Tm l y_Land_lot (0, 0, 447) 447 [.int p1, .int p2, .int p3] M L (rf ld) Q := by
  refine Tm.of (by decide) (Nat.le_of_ble_eq_true rfl) ?_
  show Wp l y_Land_lot (0, 0, 447) 447 0 0 0 [(0, .int p1), (1, .int p2), (2, .int p3)] [] M L (rf ld) Q
  unfold F_Land_lot at h
  refine g_iload_n (pc1 := 1) d_Land_lot_0 rfl 1 rfl ?_
  refine g_bipush (pc1 := 3) (v := 103) d_Land_lot_1 rfl (by decide) ?_
  refine g_callS0 (pc1 := 6) (As := [.int p2, .int 103]) (rest := []) d_Land_lot_3 rfl mo_Land_130 ms_Land_stirred (by decide) rfl rfl (Nat.le_of_ble_eq_true rfl) ?_
  obtain ⟨r2, hq1, h⟩ := bnd h
  refine f_Land_stirred hld  hq1 ?_
  dsimp only [psh]
  refine g_iload_n (pc1 := 7) d_Land_lot_6 rfl 2 rfl ?_
  refine g_callS0 (pc1 := 10) (As := [.int r2, .int p3]) (rest := []) d_Land_lot_7 rfl mo_Land_130 ms_Land_stirred (by decide) rfl rfl (Nat.le_of_ble_eq_true rfl) ?_
  obtain ⟨r4, hq3, h⟩ := bnd h
  refine f_Land_stirred hld  hq3 ?_
  dsimp only [psh]
  refine g_istore_n (pc1 := 11) (lv' := [(0, .int p1), (1, .int p2), (2, .int p3), (3, .int r4)]) d_Land_lot_10 rfl rfl (by decide) [1, 2, 3, 0] rfl ?_
  refine g_iload_n (pc1 := 12) d_Land_lot_11 rfl 0 rfl ?_
  refine g_if_le (pc1 := 15) (tgt := 23) d_Land_lot_12 (by decide) rfl (fun c5 => ?_) (fun c5 => ?_)
  · replace h := itp h c5
    refine g_iconst (pc1 := 24) (v := 0) d_Land_lot_23 rfl (by decide) ?_
    refine g_ireturn (Or.inl rfl) d_Land_lot_24 rfl ?_
    cases h; exact hQ
  · replace h := itn h c5
    refine g_iload_n (pc1 := 16) d_Land_lot_15 rfl 3 rfl ?_
    refine g_iconst (pc1 := 17) (v := 1) d_Land_lot_16 rfl (by decide) ?_
    refine g_iushr (pc1 := 18) d_Land_lot_17 rfl ?_
    refine g_iload_n (pc1 := 19) d_Land_lot_18 rfl 0 rfl ?_
    obtain ⟨g6, h⟩ := gdn h
    refine g_irem (pc1 := 20) d_Land_lot_19 rfl g6 ?_
    refine g_goto (tgt := 24) d_Land_lot_20 (by decide) ?_
    refine g_ireturn (Or.inl rfl) d_Land_lot_24 rfl ?_
    cases h; exact hQ

def F_Law_closeIf (Wl0 : Nat) (p1 : Int32) (M : gM) : Option (gM) :=
  bI (F_Law_add Wl0 20059 M) (fun M2 => bI (F_Main_put (Wl0 + 1) 400 p1 (M2 Wl0 1) M2) (fun M4 => some M4))
set_option maxHeartbeats 4000000 in
set_option maxRecDepth 20000 in
theorem f_Law_closeIf {l : Launch} {ld : Nat} {M : gM} {L : gL} {Q : Option Value → gM → gL → gR → Prop} (hld : isLa ld) {Wl0 : Nat} {p1 : Int32} (hWl0 : isLw Wl0) {q : gM} (h : F_Law_closeIf Wl0 p1 M = some q) (hQ : Q none q L (rf ld)) : Tm l y_Law_closeIf (0, 0, 447) 447 [.ref Wl0, .int p1] M L (rf ld) Q := by
  refine Tm.of (by decide) (Nat.le_of_ble_eq_true rfl) ?_
  show Wp l y_Law_closeIf (0, 0, 447) 447 0 0 0 [(0, .ref Wl0), (1, .int p1)] [] M L (rf ld) Q
  unfold F_Law_closeIf at h
  refine g_aload_n (pc1 := 1) d_Law_closeIf_0 rfl 0 rfl ?_
  refine g_sipush (pc1 := 4) (v := 20059) d_Law_closeIf_1 rfl (by decide) ?_
  refine g_callV0 (pc1 := 7) (As := [.int 20059]) (rest := []) d_Law_closeIf_4 rfl mo_Law_29 mi_Law_add mv_Law_add rfl (shLw_0 hWl0) (ltLw_0 hWl0) (by decide) rfl rfl (Nat.le_of_ble_eq_true rfl) ?_
  obtain ⟨M2, hq1, h⟩ := bnd h
  refine f_Law_add hld hWl0 hq1 ?_
  dsimp only [psh]
  refine g_aload_n (pc1 := 8) d_Law_closeIf_7 rfl 0 rfl ?_
  refine g_getr (pc1 := 11) d_Law_closeIf_8 rfl ⟨_, fo_Law_11⟩ (shLw_0 hWl0) (ltLw_0 hWl0) (rfLw_0 ld hWl0) ?_
  refine g_iload_n (pc1 := 12) d_Law_closeIf_11 rfl 1 rfl ?_
  refine g_aload_n (pc1 := 13) d_Law_closeIf_12 rfl 0 rfl ?_
  refine g_geti (pc1 := 16) d_Law_closeIf_13 rfl ⟨_, fo_Law_21⟩ (shLw_0 hWl0) (ltLw_0 hWl0) ?_
  refine g_callS0 (pc1 := 19) (As := [.ref (Wl0 + 1), .int p1, .int (M2 Wl0 1)]) (rest := []) d_Law_closeIf_16 rfl mo_Law_25 ms_Main_put (by decide) rfl rfl (Nat.le_of_ble_eq_true rfl) ?_
  obtain ⟨M4, hq3, h⟩ := bnd h
  refine f_Main_put hld (shLw_1 hWl0) (ltLw_1 hWl0) (by decide) hq3 ?_
  dsimp only [psh]
  refine g_return rfl d_Law_closeIf_19 rfl ?_
  cases h; exact hQ

def F_Law_let (Wl0 : Nat) (p1 : Int32) (p2 : Int32) (M : gM) : Option (gM) :=
  bI (F_Main_put (Wl0 + 2) 9 p1 p2 M) (fun M2 => some M2)
set_option maxHeartbeats 4000000 in
set_option maxRecDepth 20000 in
theorem f_Law_let {l : Launch} {ld : Nat} {M : gM} {L : gL} {Q : Option Value → gM → gL → gR → Prop} (hld : isLa ld) {Wl0 : Nat} {p1 : Int32} {p2 : Int32} (hWl0 : isLw Wl0) {q : gM} (h : F_Law_let Wl0 p1 p2 M = some q) (hQ : Q none q L (rf ld)) : Tm l y_Law_let (0, 0, 447) 447 [.ref Wl0, .int p1, .int p2] M L (rf ld) Q := by
  refine Tm.of (by decide) (Nat.le_of_ble_eq_true rfl) ?_
  show Wp l y_Law_let (0, 0, 447) 447 0 0 0 [(0, .ref Wl0), (1, .int p1), (2, .int p2)] [] M L (rf ld) Q
  unfold F_Law_let at h
  refine g_aload_n (pc1 := 1) d_Law_let_0 rfl 0 rfl ?_
  refine g_getr (pc1 := 4) d_Law_let_1 rfl ⟨_, fo_Law_15⟩ (shLw_0 hWl0) (ltLw_0 hWl0) (rfLw_2 ld hWl0) ?_
  refine g_iload_n (pc1 := 5) d_Law_let_4 rfl 1 rfl ?_
  refine g_iload_n (pc1 := 6) d_Law_let_5 rfl 2 rfl ?_
  refine g_callS0 (pc1 := 9) (As := [.ref (Wl0 + 2), .int p1, .int p2]) (rest := []) d_Law_let_6 rfl mo_Law_25 ms_Main_put (by decide) rfl rfl (Nat.le_of_ble_eq_true rfl) ?_
  obtain ⟨M2, hq1, h⟩ := bnd h
  refine f_Main_put hld (shLw_2 hWl0) (ltLw_2 hWl0) (by decide) hq1 ?_
  dsimp only [psh]
  refine g_return rfl d_Law_let_9 rfl ?_
  cases h; exact hQ

def F_Law_openIf (Wl0 : Nat) (M : gM) : Option (Int32 × gM) :=
  bI (F_Law_add Wl0 20060 M) (fun M2 => bI (F_Law_add Wl0 0 M2) (fun M4 => some (((M4 Wl0 1) - 1), M4)))
set_option maxHeartbeats 4000000 in
set_option maxRecDepth 20000 in
theorem f_Law_openIf {l : Launch} {ld : Nat} {M : gM} {L : gL} {Q : Option Value → gM → gL → gR → Prop} (hld : isLa ld) {Wl0 : Nat} (hWl0 : isLw Wl0) {q : Int32 × gM} (h : F_Law_openIf Wl0 M = some q) (hQ : Q (some (.int q.1)) q.2 L (rf ld)) : Tm l y_Law_openIf (0, 0, 447) 447 [.ref Wl0] M L (rf ld) Q := by
  refine Tm.of (by decide) (Nat.le_of_ble_eq_true rfl) ?_
  show Wp l y_Law_openIf (0, 0, 447) 447 0 0 0 [(0, .ref Wl0)] [] M L (rf ld) Q
  unfold F_Law_openIf at h
  refine g_aload_n (pc1 := 1) d_Law_openIf_0 rfl 0 rfl ?_
  refine g_sipush (pc1 := 4) (v := 20060) d_Law_openIf_1 rfl (by decide) ?_
  refine g_callV0 (pc1 := 7) (As := [.int 20060]) (rest := []) d_Law_openIf_4 rfl mo_Law_29 mi_Law_add mv_Law_add rfl (shLw_0 hWl0) (ltLw_0 hWl0) (by decide) rfl rfl (Nat.le_of_ble_eq_true rfl) ?_
  obtain ⟨M2, hq1, h⟩ := bnd h
  refine f_Law_add hld hWl0 hq1 ?_
  dsimp only [psh]
  refine g_aload_n (pc1 := 8) d_Law_openIf_7 rfl 0 rfl ?_
  refine g_iconst (pc1 := 9) (v := 0) d_Law_openIf_8 rfl (by decide) ?_
  refine g_callV0 (pc1 := 12) (As := [.int 0]) (rest := []) d_Law_openIf_9 rfl mo_Law_29 mi_Law_add mv_Law_add rfl (shLw_0 hWl0) (ltLw_0 hWl0) (by decide) rfl rfl (Nat.le_of_ble_eq_true rfl) ?_
  obtain ⟨M4, hq3, h⟩ := bnd h
  refine f_Law_add hld hWl0 hq3 ?_
  dsimp only [psh]
  refine g_aload_n (pc1 := 13) d_Law_openIf_12 rfl 0 rfl ?_
  refine g_geti (pc1 := 16) d_Law_openIf_13 rfl ⟨_, fo_Law_21⟩ (shLw_0 hWl0) (ltLw_0 hWl0) ?_
  refine g_iconst (pc1 := 17) (v := 1) d_Law_openIf_16 rfl (by decide) ?_
  refine g_isub (pc1 := 18) d_Law_openIf_17 rfl ?_
  refine g_ireturn (Or.inl rfl) d_Law_openIf_18 rfl ?_
  cases h; exact hQ

def J_Law_value_232 (Wl0 : Nat) (M : gM) : Option (Int32 × gM) :=
  bI (F_Main_at (Wl0 + 3) 32 0 M) (fun r3 => some (r3, M))
set_option maxHeartbeats 4000000 in
set_option maxRecDepth 20000 in
theorem j_Law_value_232 {l : Launch} {ld : Nat} {Q : Option Value → gM → gL → gR → Prop} (hld : isLa ld) {Wl0 : Nat} (hWl0 : isLw Wl0) {q : Int32 × gM} {M : gM} {L : gL} (hQ : Q (some (.int q.1)) q.2 L (rf ld))    (h : J_Law_value_232 Wl0 M = some q) : Wp l y_Law_value (0, 0, 447) 447 0 0 232 [(0, .ref Wl0)] [] M L (rf ld) Q := by
  unfold J_Law_value_232 at h
  refine g_aload_n (pc1 := 233) d_Law_value_232 rfl 0 rfl ?_
  refine g_getr (pc1 := 236) d_Law_value_233 rfl ⟨_, fo_Law_18⟩ (shLw_0 hWl0) (ltLw_0 hWl0) (rfLw_3 ld hWl0) ?_
  refine g_iconst (pc1 := 237) (v := 0) d_Law_value_236 rfl (by decide) ?_
  refine g_callS0 (pc1 := 240) (As := [.ref (Wl0 + 3), .int 0]) (rest := []) d_Law_value_237 rfl mo_Law_33 ms_Main_at (by decide) rfl rfl (Nat.le_of_ble_eq_true rfl) ?_
  obtain ⟨r3, hq2, h⟩ := bnd h
  refine f_Main_at hld (shLw_3 hWl0) (ltLw_3 hWl0) (by decide) hq2 ?_
  dsimp only [psh]
  refine g_ireturn (Or.inl rfl) d_Law_value_240 rfl ?_
  cases h; exact hQ
def J_Law_value_226 (Wl0 : Nat) (K6 : Int32 → Int32 → Int32 → gM → Option (Int32 × gM)) (v1 : Int32) (v2 : Int32) (v3 : Int32) (M : gM) : Option (Int32 × gM) :=
  nmI (v3 + 1) (fun x26 => K6 v1 v2 x26 M)
set_option maxHeartbeats 4000000 in
set_option maxRecDepth 20000 in
theorem j_Law_value_226 {l : Launch} {ld : Nat} {Q : Option Value → gM → gL → gR → Prop} (hld : isLa ld) {Wl0 : Nat} (hWl0 : isLw Wl0) {q : Int32 × gM} {M : gM} {L : gL} (hQ : Q (some (.int q.1)) q.2 L (rf ld)) {K6 : Int32 → Int32 → Int32 → gM → Option (Int32 × gM)} {v1 : Int32} {v2 : Int32} {v3 : Int32} (hK6 : ∀ (w1 : Int32) (w2 : Int32) (w3 : Int32) (M : gM), K6 w1 w2 w3 M = some q → Wp l y_Law_value (0, 0, 447) 447 0 0 6 [(0, .ref Wl0), (1, .int w1), (2, .int w2), (3, .int w3)] [] M L (rf ld) Q) (h : J_Law_value_226 Wl0 K6 v1 v2 v3 M = some q) : Wp l y_Law_value (0, 0, 447) 447 0 0 226 [(0, .ref Wl0), (1, .int v1), (2, .int v2), (3, .int v3)] [] M L (rf ld) Q := by
  unfold J_Law_value_226 at h
  obtain ⟨x26, ex26, h⟩ := ltI h
  refine g_iinc (pc1 := 229) (v := x26) (lv' := [(0, .ref Wl0), (1, .int v1), (2, .int v2), (3, .int x26)]) d_Law_value_226 rfl 3 rfl (by rw [ex26]; rfl) (by decide) [1, 2, 3, 0] rfl ?_
  refine g_goto (tgt := 6) d_Law_value_229 (by decide) ?_
  exact hK6 v1 v2 x26 M h
def J_Law_value_204 (Wl0 : Nat) (K6 : Int32 → Int32 → Int32 → gM → Option (Int32 × gM)) (v1 : Int32) (v2 : Int32) (v3 : Int32) (v4 : Int32) (v5 : Int32) (v6 : Int32) (M : gM) : Option (Int32 × gM) :=
  bI (F_Law_reckon (v4 - 20000) v5 v6) (fun r22 => (if (v1 : Int32) < 0 ∨ 32 ≤ (v1 : Int32).toNatClampNeg then none else nmM (uM M (Wl0 + 3) (v1 : Int32).toNatClampNeg r22) (fun M24 => nmI (v1 + 1) (fun x25 => J_Law_value_226 Wl0 K6 x25 v2 v3 M24))))
set_option maxHeartbeats 4000000 in
set_option maxRecDepth 20000 in
theorem j_Law_value_204 {l : Launch} {ld : Nat} {Q : Option Value → gM → gL → gR → Prop} (hld : isLa ld) {Wl0 : Nat} (hWl0 : isLw Wl0) {q : Int32 × gM} {M : gM} {L : gL} (hQ : Q (some (.int q.1)) q.2 L (rf ld)) {K6 : Int32 → Int32 → Int32 → gM → Option (Int32 × gM)} {v1 : Int32} {v2 : Int32} {v3 : Int32} {v4 : Int32} {v5 : Int32} {v6 : Int32} (hK6 : ∀ (w1 : Int32) (w2 : Int32) (w3 : Int32) (M : gM), K6 w1 w2 w3 M = some q → Wp l y_Law_value (0, 0, 447) 447 0 0 6 [(0, .ref Wl0), (1, .int w1), (2, .int w2), (3, .int w3)] [] M L (rf ld) Q) (h : J_Law_value_204 Wl0 K6 v1 v2 v3 v4 v5 v6 M = some q) : Wp l y_Law_value (0, 0, 447) 447 0 0 204 [(0, .ref Wl0), (1, .int v1), (2, .int v2), (3, .int v3), (4, .int v4), (5, .int v5), (6, .int v6)] [] M L (rf ld) Q := by
  unfold J_Law_value_204 at h
  refine g_aload_n (pc1 := 205) d_Law_value_204 rfl 0 rfl ?_
  refine g_getr (pc1 := 208) d_Law_value_205 rfl ⟨_, fo_Law_18⟩ (shLw_0 hWl0) (ltLw_0 hWl0) (rfLw_3 ld hWl0) ?_
  refine g_iload_n (pc1 := 209) d_Law_value_208 rfl 1 rfl ?_
  refine g_iload (pc1 := 211) d_Law_value_209 rfl 4 rfl ?_
  refine g_sipush (pc1 := 214) (v := 20000) d_Law_value_211 rfl (by decide) ?_
  refine g_isub (pc1 := 215) d_Law_value_214 rfl ?_
  refine g_iload (pc1 := 217) d_Law_value_215 rfl 5 rfl ?_
  refine g_iload (pc1 := 219) d_Law_value_217 rfl 6 rfl ?_
  refine g_callS0 (pc1 := 222) (As := [.int (v4 - 20000), .int v5, .int v6]) (rest := [.int v1, .ref (Wl0 + 3)]) d_Law_value_219 rfl mo_Law_37 ms_Law_reckon (by decide) rfl rfl (Nat.le_of_ble_eq_true rfl) ?_
  obtain ⟨r22, hq21, h⟩ := bnd h
  refine f_Law_reckon hld  hq21 ?_
  dsimp only [psh]
  obtain ⟨g23, h⟩ := gdn h
  refine g_iast (pc1 := 223) d_Law_value_222 rfl (shLw_3 hWl0) (ltLw_3 hWl0) g23 ?_
  refine Wp.lM h (fun M24 h => ?_)
  obtain ⟨x25, ex25, h⟩ := ltI h
  refine g_iinc (pc1 := 226) (v := x25) (lv' := [(0, .ref Wl0), (1, .int x25), (2, .int v2), (3, .int v3), (4, .int v4), (5, .int v5), (6, .int v6)]) d_Law_value_223 rfl 1 rfl (by rw [ex25]; rfl) (by decide) [1, 0, 2, 3, 4, 5, 6] rfl ?_
  refine Wp.loc (lv' := [(0, .ref Wl0), (1, .int x25), (2, .int v2), (3, .int v3)]) [0, 1, 2, 3] rfl ?_
  exact j_Law_value_226 hld hWl0 hQ hK6 h
def J_Law_value_185 (Wl0 : Nat) (K6 : Int32 → Int32 → Int32 → gM → Option (Int32 × gM)) (v1 : Int32) (v3 : Int32) (s0 : Int32) (M : gM) : Option (Int32 × gM) :=
  J_Law_value_226 Wl0 K6 v1 s0 v3 M
set_option maxHeartbeats 4000000 in
set_option maxRecDepth 20000 in
theorem j_Law_value_185 {l : Launch} {ld : Nat} {Q : Option Value → gM → gL → gR → Prop} (hld : isLa ld) {Wl0 : Nat} (hWl0 : isLw Wl0) {q : Int32 × gM} {M : gM} {L : gL} (hQ : Q (some (.int q.1)) q.2 L (rf ld)) {K6 : Int32 → Int32 → Int32 → gM → Option (Int32 × gM)} {v1 : Int32} {v3 : Int32} {s0 : Int32} (hK6 : ∀ (w1 : Int32) (w2 : Int32) (w3 : Int32) (M : gM), K6 w1 w2 w3 M = some q → Wp l y_Law_value (0, 0, 447) 447 0 0 6 [(0, .ref Wl0), (1, .int w1), (2, .int w2), (3, .int w3)] [] M L (rf ld) Q) (h : J_Law_value_185 Wl0 K6 v1 v3 s0 M = some q) : Wp l y_Law_value (0, 0, 447) 447 0 0 185 [(0, .ref Wl0), (1, .int v1), (3, .int v3)] [.int s0] M L (rf ld) Q := by
  unfold J_Law_value_185 at h
  refine g_istore_n (pc1 := 186) (lv' := [(0, .ref Wl0), (1, .int v1), (2, .int s0), (3, .int v3)]) d_Law_value_185 rfl rfl (by decide) [1, 2, 0, 3] rfl ?_
  refine g_goto (tgt := 226) d_Law_value_186 (by decide) ?_
  exact j_Law_value_226 hld hWl0 hQ hK6 h
def J_Law_value_110 (Wl0 : Nat) (K6 : Int32 → Int32 → Int32 → gM → Option (Int32 × gM)) (v1 : Int32) (v2 : Int32) (v3 : Int32) (s1 : Int32) (s2 : Int32) (M : gM) : Option (Int32 × gM) :=
  (if (s1 : Int32) < 0 ∨ 32 ≤ (s1 : Int32).toNatClampNeg then none else nmM (uM M (Wl0 + 3) (s1 : Int32).toNatClampNeg s2) (fun M37 => nmI (v1 + 1) (fun x38 => J_Law_value_226 Wl0 K6 x38 v2 v3 M37)))
set_option maxHeartbeats 4000000 in
set_option maxRecDepth 20000 in
theorem j_Law_value_110 {l : Launch} {ld : Nat} {Q : Option Value → gM → gL → gR → Prop} (hld : isLa ld) {Wl0 : Nat} (hWl0 : isLw Wl0) {q : Int32 × gM} {M : gM} {L : gL} (hQ : Q (some (.int q.1)) q.2 L (rf ld)) {K6 : Int32 → Int32 → Int32 → gM → Option (Int32 × gM)} {v1 : Int32} {v2 : Int32} {v3 : Int32} {s1 : Int32} {s2 : Int32} (hK6 : ∀ (w1 : Int32) (w2 : Int32) (w3 : Int32) (M : gM), K6 w1 w2 w3 M = some q → Wp l y_Law_value (0, 0, 447) 447 0 0 6 [(0, .ref Wl0), (1, .int w1), (2, .int w2), (3, .int w3)] [] M L (rf ld) Q) (h : J_Law_value_110 Wl0 K6 v1 v2 v3 s1 s2 M = some q) : Wp l y_Law_value (0, 0, 447) 447 0 0 110 [(0, .ref Wl0), (1, .int v1), (2, .int v2), (3, .int v3)] [.int s2, .int s1, .ref (Wl0 + 3)] M L (rf ld) Q := by
  unfold J_Law_value_110 at h
  obtain ⟨g36, h⟩ := gdn h
  refine g_iast (pc1 := 111) d_Law_value_110 rfl (shLw_3 hWl0) (ltLw_3 hWl0) g36 ?_
  refine Wp.lM h (fun M37 h => ?_)
  obtain ⟨x38, ex38, h⟩ := ltI h
  refine g_iinc (pc1 := 114) (v := x38) (lv' := [(0, .ref Wl0), (1, .int x38), (2, .int v2), (3, .int v3)]) d_Law_value_111 rfl 1 rfl (by rw [ex38]; rfl) (by decide) [1, 0, 2, 3] rfl ?_
  refine g_goto (tgt := 226) d_Law_value_114 (by decide) ?_
  exact j_Law_value_226 hld hWl0 hQ hK6 h
def J_Law_value_53 (Wl0 : Nat) (M : gM) : Option (Int32 × gM) :=
  J_Law_value_232 Wl0 M
set_option maxHeartbeats 4000000 in
set_option maxRecDepth 20000 in
theorem j_Law_value_53 {l : Launch} {ld : Nat} {Q : Option Value → gM → gL → gR → Prop} (hld : isLa ld) {Wl0 : Nat} (hWl0 : isLw Wl0) {q : Int32 × gM} {M : gM} {L : gL} (hQ : Q (some (.int q.1)) q.2 L (rf ld))    (h : J_Law_value_53 Wl0 M = some q) : Wp l y_Law_value (0, 0, 447) 447 0 0 53 [(0, .ref Wl0)] [] M L (rf ld) Q := by
  unfold J_Law_value_53 at h
  refine g_goto (tgt := 232) d_Law_value_53 (by decide) ?_
  exact j_Law_value_232 hld hWl0 hQ  h
def B_Law_value_6 (Wl0 : Nat) (K6 : Int32 → Int32 → Int32 → gM → Option (Int32 × gM)) : Int32 → Int32 → Int32 → gM → Option (Int32 × gM) := fun v1 v2 v3 M =>
  (if 400 ≤ v3 then J_Law_value_232 Wl0 M else (if v2 < 0 then J_Law_value_232 Wl0 M else (if (M Wl0 1) ≤ v2 then J_Law_value_232 Wl0 M else (if 400 ≤ v2 then J_Law_value_232 Wl0 M else (if (v2 : Int32) < 0 ∨ 400 ≤ (v2 : Int32).toNatClampNeg then none else nmI (M (Wl0 + 1) (v2 : Int32).toNatClampNeg) (fun x8 => nmI (v2 + 1) (fun x9 => (if x8 = 20059 then J_Law_value_53 Wl0 M else (if 20000 ≤ x8 then (if v1 < 2 then some (0, M) else (if v1 ≤ 32 then (if ((v1 - 2) : Int32) < 0 ∨ 32 ≤ ((v1 - 2) : Int32).toNatClampNeg then none else nmI (M (Wl0 + 3) ((v1 - 2) : Int32).toNatClampNeg) (fun x15 => (if ((v1 - 1) : Int32) < 0 ∨ 32 ≤ ((v1 - 1) : Int32).toNatClampNeg then none else nmI (M (Wl0 + 3) ((v1 - 1) : Int32).toNatClampNeg) (fun x17 => nmI (v1 + (-2)) (fun x18 => (if x8 = 20060 then (if x17 ≤ x15 then bI (F_Main_at (Wl0 + 1) 400 x9 M) (fun r30 => J_Law_value_185 Wl0 K6 x18 v3 r30 M) else J_Law_value_185 Wl0 K6 x18 v3 (x9 + 1) M) else (if x8 = 20047 then (if x17 = 0 then some (0, M) else J_Law_value_204 Wl0 K6 x18 x9 v3 x8 x15 x17 M) else J_Law_value_204 Wl0 K6 x18 x9 v3 x8 x15 x17 M))))))) else some (0, M))) else (if v1 < 0 then some (0, M) else (if v1 < 32 then (if 10000 ≤ x8 then bI (F_Main_at (Wl0 + 2) 9 (x8 - 10000) M) (fun r35 => J_Law_value_110 Wl0 K6 v1 x9 v3 v1 r35 M) else J_Law_value_110 Wl0 K6 v1 x9 v3 v1 x8 M) else some (0, M))))))))))))
def H_Law_value_6 (Wl0 : Nat) : Nat → Int32 → Int32 → Int32 → gM → Option (Int32 × gM) := lpK (B_Law_value_6 Wl0) (fun _ _ _ _ => none)
set_option maxHeartbeats 4000000 in
set_option maxRecDepth 20000 in
theorem h_Law_value_6 {l : Launch} {ld : Nat} {Q : Option Value → gM → gL → gR → Prop} (hld : isLa ld) {Wl0 : Nat} (hWl0 : isLw Wl0) {q : Int32 × gM} {L : gL} (hQ : Q (some (.int q.1)) q.2 L (rf ld))    : ∀ (f : Nat) (v1 : Int32) (v2 : Int32) (v3 : Int32) (M : gM), H_Law_value_6 Wl0 f v1 v2 v3 M = some q → Wp l y_Law_value (0, 0, 447) 447 0 0 6 [(0, .ref Wl0), (1, .int v1), (2, .int v2), (3, .int v3)] [] M L (rf ld) Q := by
  intro f
  induction f with
  | zero => intro v1 v2 v3 M h; cases h
  | succ f hK6 =>
    intro v1 v2 v3 M h
    replace h : B_Law_value_6 Wl0 (H_Law_value_6 Wl0 f) v1 v2 v3 M = some q := h
    unfold B_Law_value_6 at h
    refine g_iload_n (pc1 := 7) d_Law_value_6 rfl 3 rfl ?_
    refine g_sipush (pc1 := 10) (v := 400) d_Law_value_7 rfl (by decide) ?_
    refine g_icmp_ge (pc1 := 13) (tgt := 232) d_Law_value_10 (by decide) rfl (fun c1 => ?_) (fun c1 => ?_)
    · replace h := itp h c1
      refine Wp.loc (lv' := [(0, .ref Wl0)]) [0] rfl ?_
      exact j_Law_value_232 hld hWl0 hQ  h
    · replace h := itn h c1
      refine g_iload_n (pc1 := 14) d_Law_value_13 rfl 2 rfl ?_
      refine g_if_lt (pc1 := 17) (tgt := 232) d_Law_value_14 (by decide) rfl (fun c4 => ?_) (fun c4 => ?_)
      · replace h := itp h c4
        refine Wp.loc (lv' := [(0, .ref Wl0)]) [0] rfl ?_
        exact j_Law_value_232 hld hWl0 hQ  h
      · replace h := itn h c4
        refine g_iload_n (pc1 := 18) d_Law_value_17 rfl 2 rfl ?_
        refine g_aload_n (pc1 := 19) d_Law_value_18 rfl 0 rfl ?_
        refine g_geti (pc1 := 22) d_Law_value_19 rfl ⟨_, fo_Law_21⟩ (shLw_0 hWl0) (ltLw_0 hWl0) ?_
        refine g_icmp_ge (pc1 := 25) (tgt := 232) d_Law_value_22 (by decide) rfl (fun c5 => ?_) (fun c5 => ?_)
        · replace h := itp h c5
          refine Wp.loc (lv' := [(0, .ref Wl0)]) [0] rfl ?_
          exact j_Law_value_232 hld hWl0 hQ  h
        · replace h := itn h c5
          refine g_iload_n (pc1 := 26) d_Law_value_25 rfl 2 rfl ?_
          refine g_aload_n (pc1 := 27) d_Law_value_26 rfl 0 rfl ?_
          refine g_getr (pc1 := 30) d_Law_value_27 rfl ⟨_, fo_Law_11⟩ (shLw_0 hWl0) (ltLw_0 hWl0) (rfLw_0 ld hWl0) ?_
          refine g_alen (pc1 := 31) (v := 400) d_Law_value_30 rfl (shLw_1 hWl0) (by decide) (by decide) (ltLw_1 hWl0) (by decide) ?_
          refine g_icmp_ge (pc1 := 34) (tgt := 232) d_Law_value_31 (by decide) rfl (fun c6 => ?_) (fun c6 => ?_)
          · replace h := itp h c6
            refine Wp.loc (lv' := [(0, .ref Wl0)]) [0] rfl ?_
            exact j_Law_value_232 hld hWl0 hQ  h
          · replace h := itn h c6
            refine g_aload_n (pc1 := 35) d_Law_value_34 rfl 0 rfl ?_
            refine g_getr (pc1 := 38) d_Law_value_35 rfl ⟨_, fo_Law_11⟩ (shLw_0 hWl0) (ltLw_0 hWl0) (rfLw_0 ld hWl0) ?_
            refine g_iload_n (pc1 := 39) d_Law_value_38 rfl 2 rfl ?_
            obtain ⟨g7, h⟩ := gdn h
            refine g_iald (pc1 := 40) d_Law_value_39 rfl (shLw_1 hWl0) (ltLw_1 hWl0) g7 ?_
            refine Wp.lI h (fun x8 h => ?_)
            refine g_istore (pc1 := 42) (lv' := [(0, .ref Wl0), (1, .int v1), (2, .int v2), (3, .int v3), (4, .int x8)]) d_Law_value_40 rfl (by decide) [1, 2, 3, 4, 0] rfl ?_
            obtain ⟨x9, ex9, h⟩ := ltI h
            refine g_iinc (pc1 := 45) (v := x9) (lv' := [(0, .ref Wl0), (1, .int v1), (2, .int x9), (3, .int v3), (4, .int x8)]) d_Law_value_42 rfl 2 rfl (by rw [ex9]; rfl) (by decide) [1, 2, 0, 3, 4] rfl ?_
            refine g_iload (pc1 := 47) d_Law_value_45 rfl 4 rfl ?_
            refine g_sipush (pc1 := 50) (v := 20059) d_Law_value_47 rfl (by decide) ?_
            refine g_icmp_ne (pc1 := 53) (tgt := 56) d_Law_value_50 (by decide) rfl (fun c10 => ?_) (fun c10 => ?_)
            · replace h := itn h c10
              refine g_iload (pc1 := 58) d_Law_value_56 rfl 4 rfl ?_
              refine g_sipush (pc1 := 61) (v := 20000) d_Law_value_58 rfl (by decide) ?_
              refine g_icmp_ge (pc1 := 64) (tgt := 117) d_Law_value_61 (by decide) rfl (fun c11 => ?_) (fun c11 => ?_)
              · replace h := itp h c11
                refine g_iload_n (pc1 := 118) d_Law_value_117 rfl 1 rfl ?_
                refine g_iconst (pc1 := 119) (v := 2) d_Law_value_118 rfl (by decide) ?_
                refine g_icmp_lt (pc1 := 122) (tgt := 131) d_Law_value_119 (by decide) rfl (fun c12 => ?_) (fun c12 => ?_)
                · replace h := itp h c12
                  refine g_iconst (pc1 := 132) (v := 0) d_Law_value_131 rfl (by decide) ?_
                  refine g_ireturn (Or.inl rfl) d_Law_value_132 rfl ?_
                  cases h; exact hQ
                · replace h := itn h c12
                  refine g_iload_n (pc1 := 123) d_Law_value_122 rfl 1 rfl ?_
                  refine g_aload_n (pc1 := 124) d_Law_value_123 rfl 0 rfl ?_
                  refine g_getr (pc1 := 127) d_Law_value_124 rfl ⟨_, fo_Law_18⟩ (shLw_0 hWl0) (ltLw_0 hWl0) (rfLw_3 ld hWl0) ?_
                  refine g_alen (pc1 := 128) (v := 32) d_Law_value_127 rfl (shLw_3 hWl0) (by decide) (by decide) (ltLw_3 hWl0) (by decide) ?_
                  refine g_icmp_le (pc1 := 131) (tgt := 133) d_Law_value_128 (by decide) rfl (fun c13 => ?_) (fun c13 => ?_)
                  · replace h := itp h c13
                    refine g_aload_n (pc1 := 134) d_Law_value_133 rfl 0 rfl ?_
                    refine g_getr (pc1 := 137) d_Law_value_134 rfl ⟨_, fo_Law_18⟩ (shLw_0 hWl0) (ltLw_0 hWl0) (rfLw_3 ld hWl0) ?_
                    refine g_iload_n (pc1 := 138) d_Law_value_137 rfl 1 rfl ?_
                    refine g_iconst (pc1 := 139) (v := 2) d_Law_value_138 rfl (by decide) ?_
                    refine g_isub (pc1 := 140) d_Law_value_139 rfl ?_
                    obtain ⟨g14, h⟩ := gdn h
                    refine g_iald (pc1 := 141) d_Law_value_140 rfl (shLw_3 hWl0) (ltLw_3 hWl0) g14 ?_
                    refine Wp.lI h (fun x15 h => ?_)
                    refine g_istore (pc1 := 143) (lv' := [(0, .ref Wl0), (1, .int v1), (2, .int x9), (3, .int v3), (4, .int x8), (5, .int x15)]) d_Law_value_141 rfl (by decide) [1, 2, 3, 4, 5, 0] rfl ?_
                    refine g_aload_n (pc1 := 144) d_Law_value_143 rfl 0 rfl ?_
                    refine g_getr (pc1 := 147) d_Law_value_144 rfl ⟨_, fo_Law_18⟩ (shLw_0 hWl0) (ltLw_0 hWl0) (rfLw_3 ld hWl0) ?_
                    refine g_iload_n (pc1 := 148) d_Law_value_147 rfl 1 rfl ?_
                    refine g_iconst (pc1 := 149) (v := 1) d_Law_value_148 rfl (by decide) ?_
                    refine g_isub (pc1 := 150) d_Law_value_149 rfl ?_
                    obtain ⟨g16, h⟩ := gdn h
                    refine g_iald (pc1 := 151) d_Law_value_150 rfl (shLw_3 hWl0) (ltLw_3 hWl0) g16 ?_
                    refine Wp.lI h (fun x17 h => ?_)
                    refine g_istore (pc1 := 153) (lv' := [(0, .ref Wl0), (1, .int v1), (2, .int x9), (3, .int v3), (4, .int x8), (5, .int x15), (6, .int x17)]) d_Law_value_151 rfl (by decide) [1, 2, 3, 4, 5, 6, 0] rfl ?_
                    obtain ⟨x18, ex18, h⟩ := ltI h
                    refine g_iinc (pc1 := 156) (v := x18) (lv' := [(0, .ref Wl0), (1, .int x18), (2, .int x9), (3, .int v3), (4, .int x8), (5, .int x15), (6, .int x17)]) d_Law_value_153 rfl 1 rfl (by rw [ex18]; rfl) (by decide) [1, 0, 2, 3, 4, 5, 6] rfl ?_
                    refine g_iload (pc1 := 158) d_Law_value_156 rfl 4 rfl ?_
                    refine g_sipush (pc1 := 161) (v := 20060) d_Law_value_158 rfl (by decide) ?_
                    refine g_icmp_ne (pc1 := 164) (tgt := 189) d_Law_value_161 (by decide) rfl (fun c19 => ?_) (fun c19 => ?_)
                    · replace h := itn h c19
                      refine g_iload (pc1 := 191) d_Law_value_189 rfl 4 rfl ?_
                      refine g_sipush (pc1 := 194) (v := 20047) d_Law_value_191 rfl (by decide) ?_
                      refine g_icmp_ne (pc1 := 197) (tgt := 204) d_Law_value_194 (by decide) rfl (fun c20 => ?_) (fun c20 => ?_)
                      · replace h := itn h c20
                        exact j_Law_value_204 hld hWl0 hQ hK6 h
                      · replace h := itp h c20
                        refine g_iload (pc1 := 199) d_Law_value_197 rfl 6 rfl ?_
                        refine g_if_ne (pc1 := 202) (tgt := 204) d_Law_value_199 (by decide) rfl (fun c27 => ?_) (fun c27 => ?_)
                        · replace h := itn h c27
                          exact j_Law_value_204 hld hWl0 hQ hK6 h
                        · replace h := itp h c27
                          refine g_iconst (pc1 := 203) (v := 0) d_Law_value_202 rfl (by decide) ?_
                          refine g_ireturn (Or.inl rfl) d_Law_value_203 rfl ?_
                          cases h; exact hQ
                    · replace h := itp h c19
                      refine g_iload (pc1 := 166) d_Law_value_164 rfl 5 rfl ?_
                      refine g_iload (pc1 := 168) d_Law_value_166 rfl 6 rfl ?_
                      refine g_icmp_ge (pc1 := 171) (tgt := 177) d_Law_value_168 (by decide) rfl (fun c28 => ?_) (fun c28 => ?_)
                      · replace h := itp h c28
                        refine g_aload_n (pc1 := 178) d_Law_value_177 rfl 0 rfl ?_
                        refine g_getr (pc1 := 181) d_Law_value_178 rfl ⟨_, fo_Law_11⟩ (shLw_0 hWl0) (ltLw_0 hWl0) (rfLw_0 ld hWl0) ?_
                        refine g_iload_n (pc1 := 182) d_Law_value_181 rfl 2 rfl ?_
                        refine g_callS0 (pc1 := 185) (As := [.ref (Wl0 + 1), .int x9]) (rest := []) d_Law_value_182 rfl mo_Law_33 ms_Main_at (by decide) rfl rfl (Nat.le_of_ble_eq_true rfl) ?_
                        obtain ⟨r30, hq29, h⟩ := bnd h
                        refine f_Main_at hld (shLw_1 hWl0) (ltLw_1 hWl0) (by decide) hq29 ?_
                        dsimp only [psh]
                        refine Wp.loc (lv' := [(0, .ref Wl0), (1, .int x18), (3, .int v3)]) [0, 1, 3] rfl ?_
                        exact j_Law_value_185 hld hWl0 hQ hK6 h
                      · replace h := itn h c28
                        refine g_iload_n (pc1 := 172) d_Law_value_171 rfl 2 rfl ?_
                        refine g_iconst (pc1 := 173) (v := 1) d_Law_value_172 rfl (by decide) ?_
                        refine g_iadd (pc1 := 174) d_Law_value_173 rfl ?_
                        refine g_goto (tgt := 185) d_Law_value_174 (by decide) ?_
                        refine Wp.loc (lv' := [(0, .ref Wl0), (1, .int x18), (3, .int v3)]) [0, 1, 3] rfl ?_
                        exact j_Law_value_185 hld hWl0 hQ hK6 h
                  · replace h := itn h c13
                    refine g_iconst (pc1 := 132) (v := 0) d_Law_value_131 rfl (by decide) ?_
                    refine g_ireturn (Or.inl rfl) d_Law_value_132 rfl ?_
                    cases h; exact hQ
              · replace h := itn h c11
                refine g_iload_n (pc1 := 65) d_Law_value_64 rfl 1 rfl ?_
                refine g_if_lt (pc1 := 68) (tgt := 77) d_Law_value_65 (by decide) rfl (fun c31 => ?_) (fun c31 => ?_)
                · replace h := itp h c31
                  refine g_iconst (pc1 := 78) (v := 0) d_Law_value_77 rfl (by decide) ?_
                  refine g_ireturn (Or.inl rfl) d_Law_value_78 rfl ?_
                  cases h; exact hQ
                · replace h := itn h c31
                  refine g_iload_n (pc1 := 69) d_Law_value_68 rfl 1 rfl ?_
                  refine g_aload_n (pc1 := 70) d_Law_value_69 rfl 0 rfl ?_
                  refine g_getr (pc1 := 73) d_Law_value_70 rfl ⟨_, fo_Law_18⟩ (shLw_0 hWl0) (ltLw_0 hWl0) (rfLw_3 ld hWl0) ?_
                  refine g_alen (pc1 := 74) (v := 32) d_Law_value_73 rfl (shLw_3 hWl0) (by decide) (by decide) (ltLw_3 hWl0) (by decide) ?_
                  refine g_icmp_lt (pc1 := 77) (tgt := 79) d_Law_value_74 (by decide) rfl (fun c32 => ?_) (fun c32 => ?_)
                  · replace h := itp h c32
                    refine g_aload_n (pc1 := 80) d_Law_value_79 rfl 0 rfl ?_
                    refine g_getr (pc1 := 83) d_Law_value_80 rfl ⟨_, fo_Law_18⟩ (shLw_0 hWl0) (ltLw_0 hWl0) (rfLw_3 ld hWl0) ?_
                    refine g_iload_n (pc1 := 84) d_Law_value_83 rfl 1 rfl ?_
                    refine g_iload (pc1 := 86) d_Law_value_84 rfl 4 rfl ?_
                    refine g_sipush (pc1 := 89) (v := 10000) d_Law_value_86 rfl (by decide) ?_
                    refine g_icmp_ge (pc1 := 92) (tgt := 97) d_Law_value_89 (by decide) rfl (fun c33 => ?_) (fun c33 => ?_)
                    · replace h := itp h c33
                      refine g_aload_n (pc1 := 98) d_Law_value_97 rfl 0 rfl ?_
                      refine g_getr (pc1 := 101) d_Law_value_98 rfl ⟨_, fo_Law_15⟩ (shLw_0 hWl0) (ltLw_0 hWl0) (rfLw_2 ld hWl0) ?_
                      refine g_iload (pc1 := 103) d_Law_value_101 rfl 4 rfl ?_
                      refine g_sipush (pc1 := 106) (v := 10000) d_Law_value_103 rfl (by decide) ?_
                      refine g_isub (pc1 := 107) d_Law_value_106 rfl ?_
                      refine g_callS0 (pc1 := 110) (As := [.ref (Wl0 + 2), .int (x8 - 10000)]) (rest := [.int v1, .ref (Wl0 + 3)]) d_Law_value_107 rfl mo_Law_33 ms_Main_at (by decide) rfl rfl (Nat.le_of_ble_eq_true rfl) ?_
                      obtain ⟨r35, hq34, h⟩ := bnd h
                      refine f_Main_at hld (shLw_2 hWl0) (ltLw_2 hWl0) (by decide) hq34 ?_
                      dsimp only [psh]
                      refine Wp.loc (lv' := [(0, .ref Wl0), (1, .int v1), (2, .int x9), (3, .int v3)]) [0, 1, 2, 3] rfl ?_
                      exact j_Law_value_110 hld hWl0 hQ hK6 h
                    · replace h := itn h c33
                      refine g_iload (pc1 := 94) d_Law_value_92 rfl 4 rfl ?_
                      refine g_goto (tgt := 110) d_Law_value_94 (by decide) ?_
                      refine Wp.loc (lv' := [(0, .ref Wl0), (1, .int v1), (2, .int x9), (3, .int v3)]) [0, 1, 2, 3] rfl ?_
                      exact j_Law_value_110 hld hWl0 hQ hK6 h
                  · replace h := itn h c32
                    refine g_iconst (pc1 := 78) (v := 0) d_Law_value_77 rfl (by decide) ?_
                    refine g_ireturn (Or.inl rfl) d_Law_value_78 rfl ?_
                    cases h; exact hQ
            · replace h := itp h c10
              refine Wp.loc (lv' := [(0, .ref Wl0)]) [0] rfl ?_
              exact j_Law_value_53 hld hWl0 hQ  h
def F_Law_value (Wl0 : Nat) (M : gM) : Option (Int32 × gM) :=
  H_Law_value_6 Wl0 FU 0 0 0 M
set_option maxHeartbeats 4000000 in
set_option maxRecDepth 20000 in
theorem f_Law_value {l : Launch} {ld : Nat} {M : gM} {L : gL} {Q : Option Value → gM → gL → gR → Prop} (hld : isLa ld) {Wl0 : Nat} (hWl0 : isLw Wl0) {q : Int32 × gM} (h : F_Law_value Wl0 M = some q) (hQ : Q (some (.int q.1)) q.2 L (rf ld)) : Tm l y_Law_value (0, 0, 447) 447 [.ref Wl0] M L (rf ld) Q := by
  refine Tm.of (by decide) (Nat.le_of_ble_eq_true rfl) ?_
  show Wp l y_Law_value (0, 0, 447) 447 0 0 0 [(0, .ref Wl0)] [] M L (rf ld) Q
  unfold F_Law_value at h
  refine g_iconst (pc1 := 1) (v := 0) d_Law_value_0 rfl (by decide) ?_
  refine g_istore_n (pc1 := 2) (lv' := [(0, .ref Wl0), (1, .int 0)]) d_Law_value_1 rfl rfl (by decide) [1, 0] rfl ?_
  refine g_iconst (pc1 := 3) (v := 0) d_Law_value_2 rfl (by decide) ?_
  refine g_istore_n (pc1 := 4) (lv' := [(0, .ref Wl0), (1, .int 0), (2, .int 0)]) d_Law_value_3 rfl rfl (by decide) [1, 2, 0] rfl ?_
  refine g_iconst (pc1 := 5) (v := 0) d_Law_value_4 rfl (by decide) ?_
  refine g_istore_n (pc1 := 6) (lv' := [(0, .ref Wl0), (1, .int 0), (2, .int 0), (3, .int 0)]) d_Law_value_5 rfl rfl (by decide) [1, 2, 3, 0] rfl ?_
  exact h_Law_value_6 hld hWl0 hQ  _ 0 0 0 M h

def F_MenuSearch_isFree (p1 : Int32) (p2 : Int32) (p3 : Int32) (M : gM) : Option (Int32) :=
  (if 0 ≤ p3 then bI (F_MenuSearch_indexOf p1 p2 p3) (fun r3 => (if r3 < 0 then some 0 else (if 80 ≤ r3 then some 0 else (if (r3 : Int32) < 0 ∨ 80 ≤ (r3 : Int32).toNatClampNeg then none else (if (M 398 (r3 : Int32).toNatClampNeg) = 0 then some 0 else some 1))))) else (if p1 < 0 then some 0 else (if 4 ≤ p1 then some 0 else (if (p1 : Int32) < 0 ∨ 4 ≤ (p1 : Int32).toNatClampNeg then none else (if (M 397 (p1 : Int32).toNatClampNeg) = 0 then some 0 else some 1)))))
set_option maxHeartbeats 4000000 in
set_option maxRecDepth 20000 in
theorem f_MenuSearch_isFree {l : Launch} {ld : Nat} {M : gM} {L : gL} {Q : Option Value → gM → gL → gR → Prop} (hld : isLa ld) {p1 : Int32} {p2 : Int32} {p3 : Int32}  {q : Int32} (h : F_MenuSearch_isFree p1 p2 p3 M = some q) (hQ : Q (some (.int q)) M L (rf ld)) : Tm l y_MenuSearch_isFree (0, 0, 447) 447 [.ref 396, .int p1, .int p2, .int p3] M L (rf ld) Q := by
  refine Tm.of (by decide) (Nat.le_of_ble_eq_true rfl) ?_
  show Wp l y_MenuSearch_isFree (0, 0, 447) 447 0 0 0 [(0, .ref 396), (1, .int p1), (2, .int p2), (3, .int p3)] [] M L (rf ld) Q
  unfold F_MenuSearch_isFree at h
  refine g_iload_n (pc1 := 1) d_MenuSearch_isFree_0 rfl 3 rfl ?_
  refine g_if_ge (pc1 := 4) (tgt := 32) d_MenuSearch_isFree_1 (by decide) rfl (fun c1 => ?_) (fun c1 => ?_)
  · replace h := itp h c1
    refine g_iload_n (pc1 := 33) d_MenuSearch_isFree_32 rfl 1 rfl ?_
    refine g_iload_n (pc1 := 34) d_MenuSearch_isFree_33 rfl 2 rfl ?_
    refine g_iload_n (pc1 := 35) d_MenuSearch_isFree_34 rfl 3 rfl ?_
    refine g_callS0 (pc1 := 38) (As := [.int p1, .int p2, .int p3]) (rest := []) d_MenuSearch_isFree_35 rfl mo_MenuSearch_71 ms_MenuSearch_indexOf (by decide) rfl rfl (Nat.le_of_ble_eq_true rfl) ?_
    obtain ⟨r3, hq2, h⟩ := bnd h
    refine f_MenuSearch_indexOf hld  hq2 ?_
    dsimp only [psh]
    refine g_istore (pc1 := 40) (lv' := [(0, .ref 396), (1, .int p1), (2, .int p2), (3, .int p3), (4, .int r3)]) d_MenuSearch_isFree_38 rfl (by decide) [1, 2, 3, 4, 0] rfl ?_
    refine g_iload (pc1 := 42) d_MenuSearch_isFree_40 rfl 4 rfl ?_
    refine g_if_lt (pc1 := 45) (tgt := 69) d_MenuSearch_isFree_42 (by decide) rfl (fun c4 => ?_) (fun c4 => ?_)
    · replace h := itp h c4
      refine g_iconst (pc1 := 70) (v := 0) d_MenuSearch_isFree_69 rfl (by decide) ?_
      refine g_ireturn (Or.inr ⟨rfl, rfl⟩) d_MenuSearch_isFree_70 rfl ?_
      cases h; exact hQ
    · replace h := itn h c4
      refine g_iload (pc1 := 47) d_MenuSearch_isFree_45 rfl 4 rfl ?_
      refine g_aload_n (pc1 := 48) d_MenuSearch_isFree_47 rfl 0 rfl ?_
      refine g_getr (pc1 := 51) d_MenuSearch_isFree_48 rfl ⟨_, fo_MenuSearch_15⟩ sh_396 (by decide) (rf_396_1 ld) ?_
      refine g_alen (pc1 := 52) (v := 80) d_MenuSearch_isFree_51 rfl sh_398 (by decide) (by decide) (by decide) (by decide) ?_
      refine g_icmp_ge (pc1 := 55) (tgt := 69) d_MenuSearch_isFree_52 (by decide) rfl (fun c5 => ?_) (fun c5 => ?_)
      · replace h := itp h c5
        refine g_iconst (pc1 := 70) (v := 0) d_MenuSearch_isFree_69 rfl (by decide) ?_
        refine g_ireturn (Or.inr ⟨rfl, rfl⟩) d_MenuSearch_isFree_70 rfl ?_
        cases h; exact hQ
      · replace h := itn h c5
        refine g_aload_n (pc1 := 56) d_MenuSearch_isFree_55 rfl 0 rfl ?_
        refine g_getr (pc1 := 59) d_MenuSearch_isFree_56 rfl ⟨_, fo_MenuSearch_15⟩ sh_396 (by decide) (rf_396_1 ld) ?_
        refine g_iload (pc1 := 61) d_MenuSearch_isFree_59 rfl 4 rfl ?_
        obtain ⟨g6, h⟩ := gdn h
        refine g_zald (pc1 := 62) d_MenuSearch_isFree_61 rfl sh_398 (by decide) g6 ?_
        refine g_if_eq (pc1 := 65) (tgt := 69) d_MenuSearch_isFree_62 (by decide) rfl (fun c7 => ?_) (fun c7 => ?_)
        · replace h := itp h c7
          refine g_iconst (pc1 := 70) (v := 0) d_MenuSearch_isFree_69 rfl (by decide) ?_
          refine g_ireturn (Or.inr ⟨rfl, rfl⟩) d_MenuSearch_isFree_70 rfl ?_
          cases h; exact hQ
        · replace h := itn h c7
          refine g_iconst (pc1 := 66) (v := 1) d_MenuSearch_isFree_65 rfl (by decide) ?_
          refine g_goto (tgt := 70) d_MenuSearch_isFree_66 (by decide) ?_
          refine g_ireturn (Or.inr ⟨rfl, rfl⟩) d_MenuSearch_isFree_70 rfl ?_
          cases h; exact hQ
  · replace h := itn h c1
    refine g_iload_n (pc1 := 5) d_MenuSearch_isFree_4 rfl 1 rfl ?_
    refine g_if_lt (pc1 := 8) (tgt := 30) d_MenuSearch_isFree_5 (by decide) rfl (fun c8 => ?_) (fun c8 => ?_)
    · replace h := itp h c8
      refine g_iconst (pc1 := 31) (v := 0) d_MenuSearch_isFree_30 rfl (by decide) ?_
      refine g_ireturn (Or.inr ⟨rfl, rfl⟩) d_MenuSearch_isFree_31 rfl ?_
      cases h; exact hQ
    · replace h := itn h c8
      refine g_iload_n (pc1 := 9) d_MenuSearch_isFree_8 rfl 1 rfl ?_
      refine g_aload_n (pc1 := 10) d_MenuSearch_isFree_9 rfl 0 rfl ?_
      refine g_getr (pc1 := 13) d_MenuSearch_isFree_10 rfl ⟨_, fo_MenuSearch_9⟩ sh_396 (by decide) (rf_396_0 ld) ?_
      refine g_alen (pc1 := 14) (v := 4) d_MenuSearch_isFree_13 rfl sh_397 (by decide) (by decide) (by decide) (by decide) ?_
      refine g_icmp_ge (pc1 := 17) (tgt := 30) d_MenuSearch_isFree_14 (by decide) rfl (fun c9 => ?_) (fun c9 => ?_)
      · replace h := itp h c9
        refine g_iconst (pc1 := 31) (v := 0) d_MenuSearch_isFree_30 rfl (by decide) ?_
        refine g_ireturn (Or.inr ⟨rfl, rfl⟩) d_MenuSearch_isFree_31 rfl ?_
        cases h; exact hQ
      · replace h := itn h c9
        refine g_aload_n (pc1 := 18) d_MenuSearch_isFree_17 rfl 0 rfl ?_
        refine g_getr (pc1 := 21) d_MenuSearch_isFree_18 rfl ⟨_, fo_MenuSearch_9⟩ sh_396 (by decide) (rf_396_0 ld) ?_
        refine g_iload_n (pc1 := 22) d_MenuSearch_isFree_21 rfl 1 rfl ?_
        obtain ⟨g10, h⟩ := gdn h
        refine g_zald (pc1 := 23) d_MenuSearch_isFree_22 rfl sh_397 (by decide) g10 ?_
        refine g_if_eq (pc1 := 26) (tgt := 30) d_MenuSearch_isFree_23 (by decide) rfl (fun c11 => ?_) (fun c11 => ?_)
        · replace h := itp h c11
          refine g_iconst (pc1 := 31) (v := 0) d_MenuSearch_isFree_30 rfl (by decide) ?_
          refine g_ireturn (Or.inr ⟨rfl, rfl⟩) d_MenuSearch_isFree_31 rfl ?_
          cases h; exact hQ
        · replace h := itn h c11
          refine g_iconst (pc1 := 27) (v := 1) d_MenuSearch_isFree_26 rfl (by decide) ?_
          refine g_goto (tgt := 31) d_MenuSearch_isFree_27 (by decide) ?_
          refine g_ireturn (Or.inr ⟨rfl, rfl⟩) d_MenuSearch_isFree_31 rfl ?_
          cases h; exact hQ

def J_MenuSearch_step_24 (v3 : Int32) (v4 : Int32) (M : gM) : Option (Int32 × gM) :=
  bI (F_Main_put 399 4 v3 (v4 + 1) M) (fun M10 => some (1, M10))
set_option maxHeartbeats 4000000 in
set_option maxRecDepth 20000 in
theorem j_MenuSearch_step_24 {l : Launch} {ld : Nat} {Q : Option Value → gM → gL → gR → Prop} (hld : isLa ld)   {q : Int32 × gM} {M : gM} {L : gL} (hQ : Q (some (.int q.1)) q.2 L (rf ld))  {v3 : Int32} {v4 : Int32}  (h : J_MenuSearch_step_24 v3 v4 M = some q) : Wp l y_MenuSearch_step (0, 0, 447) 447 0 0 24 [(0, .ref 396), (3, .int v3), (4, .int v4)] [] M L (rf ld) Q := by
  unfold J_MenuSearch_step_24 at h
  refine g_aload_n (pc1 := 25) d_MenuSearch_step_24 rfl 0 rfl ?_
  refine g_getr (pc1 := 28) d_MenuSearch_step_25 rfl ⟨_, fo_MenuSearch_18⟩ sh_396 (by decide) (rf_396_2 ld) ?_
  refine g_iload_n (pc1 := 29) d_MenuSearch_step_28 rfl 1 rfl ?_
  refine g_iload (pc1 := 31) d_MenuSearch_step_29 rfl 2 rfl ?_
  refine g_iconst (pc1 := 32) (v := 1) d_MenuSearch_step_31 rfl (by decide) ?_
  refine g_iadd (pc1 := 33) d_MenuSearch_step_32 rfl ?_
  refine g_callS0 (pc1 := 36) (As := [.ref 399, .int v3, .int (v4 + 1)]) (rest := []) d_MenuSearch_step_33 rfl mo_MenuSearch_83 ms_Main_put (by decide) rfl rfl (Nat.le_of_ble_eq_true rfl) ?_
  obtain ⟨M10, hq9, h⟩ := bnd h
  refine f_Main_put hld sh_399 (by decide) (by decide) hq9 ?_
  dsimp only [psh]
  refine g_iconst (pc1 := 37) (v := 1) d_MenuSearch_step_36 rfl (by decide) ?_
  refine g_ireturn (Or.inr ⟨rfl, rfl⟩) d_MenuSearch_step_37 rfl ?_
  cases h; exact hQ
def B_MenuSearch_step_4 (v2 : Int32) (K4 : Int32 → gM → Option (Int32 × gM)) : Int32 → gM → Option (Int32 × gM) := fun v3 M =>
  (if v3 < 0 then some (0, M) else bI (F_Main_at 399 4 v3 M) (fun r4 => (if v2 ≤ r4 then bI (F_Main_put 399 4 v3 0 M) (fun M7 => nmI (v3 + (-1)) (fun x8 => K4 x8 M7)) else J_MenuSearch_step_24 v3 r4 M)))
def H_MenuSearch_step_4 (v2 : Int32) : Nat → Int32 → gM → Option (Int32 × gM) := lpK (B_MenuSearch_step_4 v2) (fun _ _ => none)
set_option maxHeartbeats 4000000 in
set_option maxRecDepth 20000 in
theorem h_MenuSearch_step_4 {l : Launch} {ld : Nat} {Q : Option Value → gM → gL → gR → Prop} (hld : isLa ld)   {q : Int32 × gM} {L : gL} (hQ : Q (some (.int q.1)) q.2 L (rf ld))  {v2 : Int32}  : ∀ (f : Nat) (v3 : Int32) (M : gM), H_MenuSearch_step_4 v2 f v3 M = some q → Wp l y_MenuSearch_step (0, 0, 447) 447 0 0 4 [(0, .ref 396), (2, .int v2), (3, .int v3)] [] M L (rf ld) Q := by
  intro f
  induction f with
  | zero => intro v3 M h; cases h
  | succ f hK4 =>
    intro v3 M h
    replace h : B_MenuSearch_step_4 v2 (H_MenuSearch_step_4 v2 f) v3 M = some q := h
    unfold B_MenuSearch_step_4 at h
    refine g_iload_n (pc1 := 5) d_MenuSearch_step_4 rfl 2 rfl ?_
    refine g_if_lt (pc1 := 8) (tgt := 53) d_MenuSearch_step_5 (by decide) rfl (fun c2 => ?_) (fun c2 => ?_)
    · replace h := itp h c2
      refine g_iconst (pc1 := 54) (v := 0) d_MenuSearch_step_53 rfl (by decide) ?_
      refine g_ireturn (Or.inr ⟨rfl, rfl⟩) d_MenuSearch_step_54 rfl ?_
      cases h; exact hQ
    · replace h := itn h c2
      refine g_aload_n (pc1 := 9) d_MenuSearch_step_8 rfl 0 rfl ?_
      refine g_getr (pc1 := 12) d_MenuSearch_step_9 rfl ⟨_, fo_MenuSearch_18⟩ sh_396 (by decide) (rf_396_2 ld) ?_
      refine g_iload_n (pc1 := 13) d_MenuSearch_step_12 rfl 2 rfl ?_
      refine g_callS0 (pc1 := 16) (As := [.ref 399, .int v3]) (rest := []) d_MenuSearch_step_13 rfl mo_MenuSearch_75 ms_Main_at (by decide) rfl rfl (Nat.le_of_ble_eq_true rfl) ?_
      obtain ⟨r4, hq3, h⟩ := bnd h
      refine f_Main_at hld sh_399 (by decide) (by decide) hq3 ?_
      dsimp only [psh]
      refine g_istore (pc1 := 18) (lv' := [(0, .ref 396), (2, .int v2), (3, .int v3), (4, .int r4)]) d_MenuSearch_step_16 rfl (by decide) [1, 2, 3, 0] rfl ?_
      refine g_iload (pc1 := 20) d_MenuSearch_step_18 rfl 3 rfl ?_
      refine g_iload_n (pc1 := 21) d_MenuSearch_step_20 rfl 1 rfl ?_
      refine g_icmp_ge (pc1 := 24) (tgt := 38) d_MenuSearch_step_21 (by decide) rfl (fun c5 => ?_) (fun c5 => ?_)
      · replace h := itp h c5
        refine g_aload_n (pc1 := 39) d_MenuSearch_step_38 rfl 0 rfl ?_
        refine g_getr (pc1 := 42) d_MenuSearch_step_39 rfl ⟨_, fo_MenuSearch_18⟩ sh_396 (by decide) (rf_396_2 ld) ?_
        refine g_iload_n (pc1 := 43) d_MenuSearch_step_42 rfl 2 rfl ?_
        refine g_iconst (pc1 := 44) (v := 0) d_MenuSearch_step_43 rfl (by decide) ?_
        refine g_callS0 (pc1 := 47) (As := [.ref 399, .int v3, .int 0]) (rest := []) d_MenuSearch_step_44 rfl mo_MenuSearch_83 ms_Main_put (by decide) rfl rfl (Nat.le_of_ble_eq_true rfl) ?_
        obtain ⟨M7, hq6, h⟩ := bnd h
        refine f_Main_put hld sh_399 (by decide) (by decide) hq6 ?_
        dsimp only [psh]
        obtain ⟨x8, ex8, h⟩ := ltI h
        refine g_iinc (pc1 := 50) (v := x8) (lv' := [(0, .ref 396), (2, .int v2), (3, .int x8), (4, .int r4)]) d_MenuSearch_step_47 rfl 2 rfl (by rw [ex8]; rfl) (by decide) [1, 2, 0, 3] rfl ?_
        refine g_goto (tgt := 4) d_MenuSearch_step_50 (by decide) ?_
        refine Wp.loc (lv' := [(0, .ref 396), (2, .int v2), (3, .int x8)]) [0, 1, 2] rfl ?_
        exact hK4 x8 M7 h
      · replace h := itn h c5
        refine Wp.loc (lv' := [(0, .ref 396), (3, .int v3), (4, .int r4)]) [0, 2, 3] rfl ?_
        exact j_MenuSearch_step_24 hld  hQ  h
def F_MenuSearch_step (p1 : Int32) (p2 : Int32) (M : gM) : Option (Int32 × gM) :=
  nmI (p1 - 1) (fun x1 => H_MenuSearch_step_4 p2 FU x1 M)
set_option maxHeartbeats 4000000 in
set_option maxRecDepth 20000 in
theorem f_MenuSearch_step {l : Launch} {ld : Nat} {M : gM} {L : gL} {Q : Option Value → gM → gL → gR → Prop} (hld : isLa ld) {p1 : Int32} {p2 : Int32}  {q : Int32 × gM} (h : F_MenuSearch_step p1 p2 M = some q) (hQ : Q (some (.int q.1)) q.2 L (rf ld)) : Tm l y_MenuSearch_step (0, 0, 447) 447 [.ref 396, .int p1, .int p2] M L (rf ld) Q := by
  refine Tm.of (by decide) (Nat.le_of_ble_eq_true rfl) ?_
  show Wp l y_MenuSearch_step (0, 0, 447) 447 0 0 0 [(0, .ref 396), (1, .int p1), (2, .int p2)] [] M L (rf ld) Q
  unfold F_MenuSearch_step at h
  refine g_iload_n (pc1 := 1) d_MenuSearch_step_0 rfl 1 rfl ?_
  refine g_iconst (pc1 := 2) (v := 1) d_MenuSearch_step_1 rfl (by decide) ?_
  refine g_isub (pc1 := 3) d_MenuSearch_step_2 rfl ?_
  refine Wp.lI h (fun x1 h => ?_)
  refine g_istore_n (pc1 := 4) (lv' := [(0, .ref 396), (1, .int p1), (2, .int p2), (3, .int x1)]) d_MenuSearch_step_3 rfl rfl (by decide) [1, 2, 3, 0] rfl ?_
  refine Wp.loc (lv' := [(0, .ref 396), (2, .int p2), (3, .int x1)]) [0, 2, 3] rfl ?_
  exact h_MenuSearch_step_4 hld  hQ  _ x1 M h

def B_PotSearch_fillFrom_6 (X1 : Nat) (K6 : Int32 → Int32 → gM → Option (gM)) : Int32 → Int32 → gM → Option (gM) := fun v4 v5 M =>
  (if 6 ≤ v5 then some M else bI (F_Main_at (X1 + 2) 6 v5 M) (fun r3 => nmI (if r3 < v4 then r3 else v4) (fun x4 => bI (F_Main_put 393 6 v5 x4 M) (fun M6 => nmI (v4 - x4) (fun x7 => nmI (v5 + 1) (fun x8 => K6 x7 x8 M6))))))
def H_PotSearch_fillFrom_6 (X1 : Nat) : Nat → Int32 → Int32 → gM → Option (gM) := lpK (B_PotSearch_fillFrom_6 X1) (fun _ _ _ => none)
set_option maxHeartbeats 4000000 in
set_option maxRecDepth 20000 in
theorem h_PotSearch_fillFrom_6 {l : Launch} {ld : Nat} {Q : Option Value → gM → gL → gR → Prop} (hld : isLa ld) {X1 : Nat} (hX1 : isSt X1) {q : gM} {L : gL} (hQ : Q none q L (rf ld))    : ∀ (f : Nat) (v4 : Int32) (v5 : Int32) (M : gM), H_PotSearch_fillFrom_6 X1 f v4 v5 M = some q → Wp l y_PotSearch_fillFrom (0, 0, 447) 447 0 0 6 [(0, .ref 391), (1, .ref X1), (4, .int v4), (5, .int v5)] [] M L (rf ld) Q := by
  intro f
  induction f with
  | zero => intro v4 v5 M h; cases h
  | succ f hK6 =>
    intro v4 v5 M h
    replace h : B_PotSearch_fillFrom_6 X1 (H_PotSearch_fillFrom_6 X1 f) v4 v5 M = some q := h
    unfold B_PotSearch_fillFrom_6 at h
    refine g_iload (pc1 := 8) d_PotSearch_fillFrom_6 rfl 3 rfl ?_
    refine g_bipush (pc1 := 10) (v := 6) d_PotSearch_fillFrom_8 rfl (by decide) ?_
    refine g_icmp_ge (pc1 := 13) (tgt := 53) d_PotSearch_fillFrom_10 (by decide) rfl (fun c1 => ?_) (fun c1 => ?_)
    · replace h := itp h c1
      refine g_return rfl d_PotSearch_fillFrom_53 rfl ?_
      cases h; exact hQ
    · replace h := itn h c1
      refine g_iload (pc1 := 15) d_PotSearch_fillFrom_13 rfl 2 rfl ?_
      refine g_aload_n (pc1 := 16) d_PotSearch_fillFrom_15 rfl 1 rfl ?_
      refine g_getr (pc1 := 19) d_PotSearch_fillFrom_16 rfl ⟨_, fo_PotSearch_72⟩ (shSt_0 hX1) (ltSt_0 hX1) (rfSt_5 ld hX1) ?_
      refine g_iload (pc1 := 21) d_PotSearch_fillFrom_19 rfl 3 rfl ?_
      refine g_callS0 (pc1 := 24) (As := [.ref (X1 + 2), .int v5]) (rest := [.int v4]) d_PotSearch_fillFrom_21 rfl mo_PotSearch_75 ms_Main_at (by decide) rfl rfl (Nat.le_of_ble_eq_true rfl) ?_
      obtain ⟨r3, hq2, h⟩ := bnd h
      refine f_Main_at hld (shSt_2 hX1) (ltSt_2 hX1) (by decide) hq2 ?_
      dsimp only [psh]
      refine g_mmin (pc1 := 27) d_PotSearch_fillFrom_24 rfl mm_PotSearch_79 (by decide) ⟨Nat.le_refl 0, Nat.le_refl 0⟩ (Nat.le_of_ble_eq_true rfl) ?_
      refine Wp.lI h (fun x4 h => ?_)
      refine g_istore (pc1 := 29) (lv' := [(0, .ref 391), (1, .ref X1), (4, .int v4), (5, .int v5), (6, .int x4)]) d_PotSearch_fillFrom_27 rfl (by decide) [1, 2, 3, 4, 0] rfl ?_
      refine g_aload_n (pc1 := 30) d_PotSearch_fillFrom_29 rfl 0 rfl ?_
      refine g_getr (pc1 := 33) d_PotSearch_fillFrom_30 rfl ⟨_, fo_PotSearch_15⟩ sh_391 (by decide) (rf_391_1 ld) ?_
      refine g_iload (pc1 := 35) d_PotSearch_fillFrom_33 rfl 3 rfl ?_
      refine g_iload (pc1 := 37) d_PotSearch_fillFrom_35 rfl 4 rfl ?_
      refine g_callS0 (pc1 := 40) (As := [.ref 393, .int v5, .int x4]) (rest := []) d_PotSearch_fillFrom_37 rfl mo_PotSearch_24 ms_Main_put (by decide) rfl rfl (Nat.le_of_ble_eq_true rfl) ?_
      obtain ⟨M6, hq5, h⟩ := bnd h
      refine f_Main_put hld sh_393 (by decide) (by decide) hq5 ?_
      dsimp only [psh]
      refine g_iload (pc1 := 42) d_PotSearch_fillFrom_40 rfl 2 rfl ?_
      refine g_iload (pc1 := 44) d_PotSearch_fillFrom_42 rfl 4 rfl ?_
      refine g_isub (pc1 := 45) d_PotSearch_fillFrom_44 rfl ?_
      refine Wp.lI h (fun x7 h => ?_)
      refine g_istore (pc1 := 47) (lv' := [(0, .ref 391), (1, .ref X1), (4, .int x7), (5, .int v5), (6, .int x4)]) d_PotSearch_fillFrom_45 rfl (by decide) [1, 2, 0, 3, 4] rfl ?_
      obtain ⟨x8, ex8, h⟩ := ltI h
      refine g_iinc (pc1 := 50) (v := x8) (lv' := [(0, .ref 391), (1, .ref X1), (4, .int x7), (5, .int x8), (6, .int x4)]) d_PotSearch_fillFrom_47 rfl 3 rfl (by rw [ex8]; rfl) (by decide) [1, 2, 3, 0, 4] rfl ?_
      refine g_goto (tgt := 6) d_PotSearch_fillFrom_50 (by decide) ?_
      refine Wp.loc (lv' := [(0, .ref 391), (1, .ref X1), (4, .int x7), (5, .int x8)]) [0, 1, 2, 3] rfl ?_
      exact hK6 x7 x8 M6 h
def F_PotSearch_fillFrom (X1 : Nat) (p2 : Int32) (p3 : Int32) (M : gM) : Option (gM) :=
  H_PotSearch_fillFrom_6 X1 FU p3 p2 M
set_option maxHeartbeats 4000000 in
set_option maxRecDepth 20000 in
theorem f_PotSearch_fillFrom {l : Launch} {ld : Nat} {M : gM} {L : gL} {Q : Option Value → gM → gL → gR → Prop} (hld : isLa ld) {X1 : Nat} {p2 : Int32} {p3 : Int32} (hX1 : isSt X1) {q : gM} (h : F_PotSearch_fillFrom X1 p2 p3 M = some q) (hQ : Q none q L (rf ld)) : Tm l y_PotSearch_fillFrom (0, 0, 447) 447 [.ref 391, .ref X1, .int p2, .int p3] M L (rf ld) Q := by
  refine Tm.of (by decide) (Nat.le_of_ble_eq_true rfl) ?_
  show Wp l y_PotSearch_fillFrom (0, 0, 447) 447 0 0 0 [(0, .ref 391), (1, .ref X1), (2, .int p2), (3, .int p3)] [] M L (rf ld) Q
  unfold F_PotSearch_fillFrom at h
  refine g_iload_n (pc1 := 1) d_PotSearch_fillFrom_0 rfl 3 rfl ?_
  refine g_istore (pc1 := 3) (lv' := [(0, .ref 391), (1, .ref X1), (2, .int p2), (3, .int p3), (4, .int p3)]) d_PotSearch_fillFrom_1 rfl (by decide) [1, 2, 3, 4, 0] rfl ?_
  refine g_iload_n (pc1 := 4) d_PotSearch_fillFrom_3 rfl 2 rfl ?_
  refine g_istore (pc1 := 6) (lv' := [(0, .ref 391), (1, .ref X1), (2, .int p2), (3, .int p3), (4, .int p3), (5, .int p2)]) d_PotSearch_fillFrom_4 rfl (by decide) [1, 2, 3, 4, 5, 0] rfl ?_
  refine Wp.loc (lv' := [(0, .ref 391), (1, .ref X1), (4, .int p3), (5, .int p2)]) [0, 1, 4, 5] rfl ?_
  exact h_PotSearch_fillFrom_6 hld hX1 hQ  _ p3 p2 M h

def F_Reader_holdSign (p1 : Int32) (M : gM) : Option (gM) :=
  bI (F_Main_put 11 32 (M 3 10) p1 M) (fun M2 => nmM (uM M2 3 10 ((M2 3 10) + 1)) (fun M3 => some M3))
set_option maxHeartbeats 4000000 in
set_option maxRecDepth 20000 in
theorem f_Reader_holdSign {l : Launch} {ld : Nat} {M : gM} {L : gL} {Q : Option Value → gM → gL → gR → Prop} (hld : isLa ld) {p1 : Int32}  {q : gM} (h : F_Reader_holdSign p1 M = some q) (hQ : Q none q L (rf ld)) : Tm l y_Reader_holdSign (0, 0, 447) 447 [.ref 3, .int p1] M L (rf ld) Q := by
  refine Tm.of (by decide) (Nat.le_of_ble_eq_true rfl) ?_
  show Wp l y_Reader_holdSign (0, 0, 447) 447 0 0 0 [(0, .ref 3), (1, .int p1)] [] M L (rf ld) Q
  unfold F_Reader_holdSign at h
  refine g_aload_n (pc1 := 1) d_Reader_holdSign_0 rfl 0 rfl ?_
  refine g_getr (pc1 := 4) d_Reader_holdSign_1 rfl ⟨_, fo_Reader_26⟩ sh_3 (by decide) (rf_3_9 ld) ?_
  refine g_aload_n (pc1 := 5) d_Reader_holdSign_4 rfl 0 rfl ?_
  refine g_geti (pc1 := 8) d_Reader_holdSign_5 rfl ⟨_, fo_Reader_199⟩ sh_3 (by decide) ?_
  refine g_iload_n (pc1 := 9) d_Reader_holdSign_8 rfl 1 rfl ?_
  refine g_callS0 (pc1 := 12) (As := [.ref 11, .int (M 3 10), .int p1]) (rest := []) d_Reader_holdSign_9 rfl mo_Reader_138 ms_Main_put (by decide) rfl rfl (Nat.le_of_ble_eq_true rfl) ?_
  obtain ⟨M2, hq1, h⟩ := bnd h
  refine f_Main_put hld sh_11 (by decide) (by decide) hq1 ?_
  dsimp only [psh]
  refine g_aload_n (pc1 := 13) d_Reader_holdSign_12 rfl 0 rfl ?_
  refine g_dup (pc1 := 14) d_Reader_holdSign_13 rfl rfl ?_
  refine g_geti (pc1 := 17) d_Reader_holdSign_14 rfl ⟨_, fo_Reader_199⟩ sh_3 (by decide) ?_
  refine g_iconst (pc1 := 18) (v := 1) d_Reader_holdSign_17 rfl (by decide) ?_
  refine g_iadd (pc1 := 19) d_Reader_holdSign_18 rfl ?_
  refine g_puti (pc1 := 22) d_Reader_holdSign_19 rfl fo_Reader_199 (po_2_10 _) sh_3 (by decide) ?_
  refine Wp.lM h (fun M3 h => ?_)
  refine g_return rfl d_Reader_holdSign_22 rfl ?_
  cases h; exact hQ

def F_Reader_is (p1 : Int32) (M : gM) : Option (Int32) :=
  bI (F_Main_at 6 401 (M 3 1) M) (fun r2 => (if r2 = p1 then some 1 else some 0))
set_option maxHeartbeats 4000000 in
set_option maxRecDepth 20000 in
theorem f_Reader_is {l : Launch} {ld : Nat} {M : gM} {L : gL} {Q : Option Value → gM → gL → gR → Prop} (hld : isLa ld) {p1 : Int32}  {q : Int32} (h : F_Reader_is p1 M = some q) (hQ : Q (some (.int q)) M L (rf ld)) : Tm l y_Reader_is (0, 0, 447) 447 [.ref 3, .int p1] M L (rf ld) Q := by
  refine Tm.of (by decide) (Nat.le_of_ble_eq_true rfl) ?_
  show Wp l y_Reader_is (0, 0, 447) 447 0 0 0 [(0, .ref 3), (1, .int p1)] [] M L (rf ld) Q
  unfold F_Reader_is at h
  refine g_aload_n (pc1 := 1) d_Reader_is_0 rfl 0 rfl ?_
  refine g_getr (pc1 := 4) d_Reader_is_1 rfl ⟨_, fo_Reader_12⟩ sh_3 (by decide) (rf_3_0 ld) ?_
  refine g_getr (pc1 := 7) d_Reader_is_4 rfl ⟨_, fo_Reader_55⟩ sh_4 (by decide) (rf_4_1 ld) ?_
  refine g_aload_n (pc1 := 8) d_Reader_is_7 rfl 0 rfl ?_
  refine g_geti (pc1 := 11) d_Reader_is_8 rfl ⟨_, fo_Reader_38⟩ sh_3 (by decide) ?_
  refine g_callS0 (pc1 := 14) (As := [.ref 6, .int (M 3 1)]) (rest := []) d_Reader_is_11 rfl mo_Reader_58 ms_Main_at (by decide) rfl rfl (Nat.le_of_ble_eq_true rfl) ?_
  obtain ⟨r2, hq1, h⟩ := bnd h
  refine f_Main_at hld sh_6 (by decide) (by decide) hq1 ?_
  dsimp only [psh]
  refine g_iload_n (pc1 := 15) d_Reader_is_14 rfl 1 rfl ?_
  refine g_icmp_ne (pc1 := 18) (tgt := 22) d_Reader_is_15 (by decide) rfl (fun c3 => ?_) (fun c3 => ?_)
  · replace h := itn h c3
    refine g_iconst (pc1 := 23) (v := 0) d_Reader_is_22 rfl (by decide) ?_
    refine g_ireturn (Or.inr ⟨rfl, rfl⟩) d_Reader_is_23 rfl ?_
    cases h; exact hQ
  · replace h := itp h c3
    refine g_iconst (pc1 := 19) (v := 1) d_Reader_is_18 rfl (by decide) ?_
    refine g_goto (tgt := 23) d_Reader_is_19 (by decide) ?_
    refine g_ireturn (Or.inr ⟨rfl, rfl⟩) d_Reader_is_23 rfl ?_
    cases h; exact hQ

def B_Reader_layHeld_0 (Wl1 : Nat) (v2 : Int32) (K0 : gM → Option (gM)) : gM → Option (gM) := fun M =>
  (if (M 3 10) ≤ 0 then some M else bI (F_Main_at 11 32 ((M 3 10) - 1) M) (fun r3 => bI (F_Reader_rank r3) (fun r5 => (if r5 < v2 then some M else nmM (uM M 3 10 ((M 3 10) - 1)) (fun M7 => bI (F_Main_at 11 32 (M7 3 10) M7) (fun r9 => bI (F_Law_add Wl1 (20000 + r9) M7) (fun M11 => K0 M11)))))))
def H_Reader_layHeld_0 (Wl1 : Nat) (v2 : Int32) : Nat → gM → Option (gM) := lpK (B_Reader_layHeld_0 Wl1 v2) (fun _ => none)
set_option maxHeartbeats 4000000 in
set_option maxRecDepth 20000 in
theorem h_Reader_layHeld_0 {l : Launch} {ld : Nat} {Q : Option Value → gM → gL → gR → Prop} (hld : isLa ld) {Wl1 : Nat} (hWl1 : isLw Wl1) {q : gM} {L : gL} (hQ : Q none q L (rf ld))  {v2 : Int32}  : ∀ (f : Nat) (M : gM), H_Reader_layHeld_0 Wl1 v2 f M = some q → Wp l y_Reader_layHeld (0, 0, 447) 447 0 0 0 [(0, .ref 3), (1, .ref Wl1), (2, .int v2)] [] M L (rf ld) Q := by
  intro f
  induction f with
  | zero => intro M h; cases h
  | succ f hK0 =>
    intro M h
    replace h : B_Reader_layHeld_0 Wl1 v2 (H_Reader_layHeld_0 Wl1 v2 f) M = some q := h
    unfold B_Reader_layHeld_0 at h
    refine g_aload_n (pc1 := 1) d_Reader_layHeld_0 rfl 0 rfl ?_
    refine g_geti (pc1 := 4) d_Reader_layHeld_1 rfl ⟨_, fo_Reader_199⟩ sh_3 (by decide) ?_
    refine g_if_le (pc1 := 7) (tgt := 59) d_Reader_layHeld_4 (by decide) rfl (fun c1 => ?_) (fun c1 => ?_)
    · replace h := itp h c1
      refine g_return rfl d_Reader_layHeld_59 rfl ?_
      cases h; exact hQ
    · replace h := itn h c1
      refine g_aload_n (pc1 := 8) d_Reader_layHeld_7 rfl 0 rfl ?_
      refine g_getr (pc1 := 11) d_Reader_layHeld_8 rfl ⟨_, fo_Reader_26⟩ sh_3 (by decide) (rf_3_9 ld) ?_
      refine g_aload_n (pc1 := 12) d_Reader_layHeld_11 rfl 0 rfl ?_
      refine g_geti (pc1 := 15) d_Reader_layHeld_12 rfl ⟨_, fo_Reader_199⟩ sh_3 (by decide) ?_
      refine g_iconst (pc1 := 16) (v := 1) d_Reader_layHeld_15 rfl (by decide) ?_
      refine g_isub (pc1 := 17) d_Reader_layHeld_16 rfl ?_
      refine g_callS0 (pc1 := 20) (As := [.ref 11, .int ((M 3 10) - 1)]) (rest := []) d_Reader_layHeld_17 rfl mo_Reader_58 ms_Main_at (by decide) rfl rfl (Nat.le_of_ble_eq_true rfl) ?_
      obtain ⟨r3, hq2, h⟩ := bnd h
      refine f_Main_at hld sh_11 (by decide) (by decide) hq2 ?_
      dsimp only [psh]
      refine g_callS0 (pc1 := 23) (As := [.int r3]) (rest := []) d_Reader_layHeld_20 rfl mo_Reader_206 ms_Reader_rank (by decide) rfl rfl (Nat.le_of_ble_eq_true rfl) ?_
      obtain ⟨r5, hq4, h⟩ := bnd h
      refine f_Reader_rank hld  hq4 ?_
      dsimp only [psh]
      refine g_iload_n (pc1 := 24) d_Reader_layHeld_23 rfl 2 rfl ?_
      refine g_icmp_lt (pc1 := 27) (tgt := 59) d_Reader_layHeld_24 (by decide) rfl (fun c6 => ?_) (fun c6 => ?_)
      · replace h := itp h c6
        refine g_return rfl d_Reader_layHeld_59 rfl ?_
        cases h; exact hQ
      · replace h := itn h c6
        refine g_aload_n (pc1 := 28) d_Reader_layHeld_27 rfl 0 rfl ?_
        refine g_dup (pc1 := 29) d_Reader_layHeld_28 rfl rfl ?_
        refine g_geti (pc1 := 32) d_Reader_layHeld_29 rfl ⟨_, fo_Reader_199⟩ sh_3 (by decide) ?_
        refine g_iconst (pc1 := 33) (v := 1) d_Reader_layHeld_32 rfl (by decide) ?_
        refine g_isub (pc1 := 34) d_Reader_layHeld_33 rfl ?_
        refine g_puti (pc1 := 37) d_Reader_layHeld_34 rfl fo_Reader_199 (po_2_10 _) sh_3 (by decide) ?_
        refine Wp.lM h (fun M7 h => ?_)
        refine g_aload_n (pc1 := 38) d_Reader_layHeld_37 rfl 1 rfl ?_
        refine g_sipush (pc1 := 41) (v := 20000) d_Reader_layHeld_38 rfl (by decide) ?_
        refine g_aload_n (pc1 := 42) d_Reader_layHeld_41 rfl 0 rfl ?_
        refine g_getr (pc1 := 45) d_Reader_layHeld_42 rfl ⟨_, fo_Reader_26⟩ sh_3 (by decide) (rf_3_9 ld) ?_
        refine g_aload_n (pc1 := 46) d_Reader_layHeld_45 rfl 0 rfl ?_
        refine g_geti (pc1 := 49) d_Reader_layHeld_46 rfl ⟨_, fo_Reader_199⟩ sh_3 (by decide) ?_
        refine g_callS0 (pc1 := 52) (As := [.ref 11, .int (M7 3 10)]) (rest := [.int 20000, .ref Wl1]) d_Reader_layHeld_49 rfl mo_Reader_58 ms_Main_at (by decide) rfl rfl (Nat.le_of_ble_eq_true rfl) ?_
        obtain ⟨r9, hq8, h⟩ := bnd h
        refine f_Main_at hld sh_11 (by decide) (by decide) hq8 ?_
        dsimp only [psh]
        refine g_iadd (pc1 := 53) d_Reader_layHeld_52 rfl ?_
        refine g_callV0 (pc1 := 56) (As := [.int (20000 + r9)]) (rest := []) d_Reader_layHeld_53 rfl mo_Reader_222 mi_Law_add mv_Law_add rfl (shLw_0 hWl1) (ltLw_0 hWl1) (by decide) rfl rfl (Nat.le_of_ble_eq_true rfl) ?_
        obtain ⟨M11, hq10, h⟩ := bnd h
        refine f_Law_add hld hWl1 hq10 ?_
        dsimp only [psh]
        refine g_goto (tgt := 0) d_Reader_layHeld_56 (by decide) ?_
        exact hK0 M11 h
def F_Reader_layHeld (Wl1 : Nat) (p2 : Int32) (M : gM) : Option (gM) :=
  H_Reader_layHeld_0 Wl1 p2 FU M
set_option maxHeartbeats 4000000 in
set_option maxRecDepth 20000 in
theorem f_Reader_layHeld {l : Launch} {ld : Nat} {M : gM} {L : gL} {Q : Option Value → gM → gL → gR → Prop} (hld : isLa ld) {Wl1 : Nat} {p2 : Int32} (hWl1 : isLw Wl1) {q : gM} (h : F_Reader_layHeld Wl1 p2 M = some q) (hQ : Q none q L (rf ld)) : Tm l y_Reader_layHeld (0, 0, 447) 447 [.ref 3, .ref Wl1, .int p2] M L (rf ld) Q := by
  refine Tm.of (by decide) (Nat.le_of_ble_eq_true rfl) ?_
  show Wp l y_Reader_layHeld (0, 0, 447) 447 0 0 0 [(0, .ref 3), (1, .ref Wl1), (2, .int p2)] [] M L (rf ld) Q
  unfold F_Reader_layHeld at h
  exact h_Reader_layHeld_0 hld hWl1 hQ  _ M h

def F_Reader_placeOfFault (M : gM) : Option (Int32) :=
  (if (M 3 2) = 0 then some (-1) else bI (F_Main_at 7 401 (M 3 3) M) (fun r3 => some r3))
set_option maxHeartbeats 4000000 in
set_option maxRecDepth 20000 in
theorem f_Reader_placeOfFault {l : Launch} {ld : Nat} {M : gM} {L : gL} {Q : Option Value → gM → gL → gR → Prop} (hld : isLa ld)   {q : Int32} (h : F_Reader_placeOfFault M = some q) (hQ : Q (some (.int q)) M L (rf ld)) : Tm l y_Reader_placeOfFault (0, 0, 447) 447 [.ref 3] M L (rf ld) Q := by
  refine Tm.of (by decide) (Nat.le_of_ble_eq_true rfl) ?_
  show Wp l y_Reader_placeOfFault (0, 0, 447) 447 0 0 0 [(0, .ref 3)] [] M L (rf ld) Q
  unfold F_Reader_placeOfFault at h
  refine g_aload_n (pc1 := 1) d_Reader_placeOfFault_0 rfl 0 rfl ?_
  refine g_geti (pc1 := 4) d_Reader_placeOfFault_1 rfl ⟨_, fo_Reader_42⟩ sh_3 (by decide) ?_
  refine g_if_ne (pc1 := 7) (tgt := 11) d_Reader_placeOfFault_4 (by decide) rfl (fun c1 => ?_) (fun c1 => ?_)
  · replace h := itn h c1
    refine g_aload_n (pc1 := 12) d_Reader_placeOfFault_11 rfl 0 rfl ?_
    refine g_getr (pc1 := 15) d_Reader_placeOfFault_12 rfl ⟨_, fo_Reader_12⟩ sh_3 (by decide) (rf_3_0 ld) ?_
    refine g_getr (pc1 := 18) d_Reader_placeOfFault_15 rfl ⟨_, fo_Reader_105⟩ sh_4 (by decide) (rf_4_2 ld) ?_
    refine g_aload_n (pc1 := 19) d_Reader_placeOfFault_18 rfl 0 rfl ?_
    refine g_geti (pc1 := 22) d_Reader_placeOfFault_19 rfl ⟨_, fo_Reader_102⟩ sh_3 (by decide) ?_
    refine g_callS0 (pc1 := 25) (As := [.ref 7, .int (M 3 3)]) (rest := []) d_Reader_placeOfFault_22 rfl mo_Reader_58 ms_Main_at (by decide) rfl rfl (Nat.le_of_ble_eq_true rfl) ?_
    obtain ⟨r3, hq2, h⟩ := bnd h
    refine f_Main_at hld sh_7 (by decide) (by decide) hq2 ?_
    dsimp only [psh]
    refine g_ireturn (Or.inl rfl) d_Reader_placeOfFault_25 rfl ?_
    cases h; exact hQ
  · replace h := itp h c1
    refine g_iconst (pc1 := 8) (v := (-1)) d_Reader_placeOfFault_7 rfl (by decide) ?_
    refine g_goto (tgt := 25) d_Reader_placeOfFault_8 (by decide) ?_
    refine g_ireturn (Or.inl rfl) d_Reader_placeOfFault_25 rfl ?_
    cases h; exact hQ

def F_Reader_take (M : gM) : Option (gM) :=
  (if (M 3 2) = 0 then (if (M 3 1) < 400 then nmM (uM M 3 1 ((M 3 1) + 1)) (fun M3 => some M3) else bI (F_Reader_stop 2 M) (fun M5 => some M5)) else some M)
set_option maxHeartbeats 4000000 in
set_option maxRecDepth 20000 in
theorem f_Reader_take {l : Launch} {ld : Nat} {M : gM} {L : gL} {Q : Option Value → gM → gL → gR → Prop} (hld : isLa ld)   {q : gM} (h : F_Reader_take M = some q) (hQ : Q none q L (rf ld)) : Tm l y_Reader_take (0, 0, 447) 447 [.ref 3] M L (rf ld) Q := by
  refine Tm.of (by decide) (Nat.le_of_ble_eq_true rfl) ?_
  show Wp l y_Reader_take (0, 0, 447) 447 0 0 0 [(0, .ref 3)] [] M L (rf ld) Q
  unfold F_Reader_take at h
  refine g_aload_n (pc1 := 1) d_Reader_take_0 rfl 0 rfl ?_
  refine g_geti (pc1 := 4) d_Reader_take_1 rfl ⟨_, fo_Reader_42⟩ sh_3 (by decide) ?_
  refine g_if_eq (pc1 := 7) (tgt := 8) d_Reader_take_4 (by decide) rfl (fun c1 => ?_) (fun c1 => ?_)
  · replace h := itp h c1
    refine g_aload_n (pc1 := 9) d_Reader_take_8 rfl 0 rfl ?_
    refine g_geti (pc1 := 12) d_Reader_take_9 rfl ⟨_, fo_Reader_38⟩ sh_3 (by decide) ?_
    refine g_sipush (pc1 := 15) (v := 400) d_Reader_take_12 rfl (by decide) ?_
    refine g_icmp_lt (pc1 := 18) (tgt := 26) d_Reader_take_15 (by decide) rfl (fun c2 => ?_) (fun c2 => ?_)
    · replace h := itp h c2
      refine g_aload_n (pc1 := 27) d_Reader_take_26 rfl 0 rfl ?_
      refine g_dup (pc1 := 28) d_Reader_take_27 rfl rfl ?_
      refine g_geti (pc1 := 31) d_Reader_take_28 rfl ⟨_, fo_Reader_38⟩ sh_3 (by decide) ?_
      refine g_iconst (pc1 := 32) (v := 1) d_Reader_take_31 rfl (by decide) ?_
      refine g_iadd (pc1 := 33) d_Reader_take_32 rfl ?_
      refine g_puti (pc1 := 36) d_Reader_take_33 rfl fo_Reader_38 (po_2_1 _) sh_3 (by decide) ?_
      refine Wp.lM h (fun M3 h => ?_)
      refine g_return rfl d_Reader_take_36 rfl ?_
      cases h; exact hQ
    · replace h := itn h c2
      refine g_aload_n (pc1 := 19) d_Reader_take_18 rfl 0 rfl ?_
      refine g_iconst (pc1 := 20) (v := 2) d_Reader_take_19 rfl (by decide) ?_
      refine g_callV0 (pc1 := 23) (As := [.int 2]) (rest := []) d_Reader_take_20 rfl mo_Reader_95 mi_Reader_stop mv_Reader_stop rfl sh_3 (by decide) (by decide) rfl rfl (Nat.le_of_ble_eq_true rfl) ?_
      obtain ⟨M5, hq4, h⟩ := bnd h
      refine f_Reader_stop hld  hq4 ?_
      dsimp only [psh]
      refine g_goto (tgt := 36) d_Reader_take_23 (by decide) ?_
      refine g_return rfl d_Reader_take_36 rfl ?_
      cases h; exact hQ
  · replace h := itn h c1
    refine g_return rfl d_Reader_take_7 rfl ?_
    cases h; exact hQ

def F_Slots_full (M : gM) : Option (Int32) :=
  bI (F_Int_bitCount (M 360 1)) (fun r2 => some r2)
set_option maxHeartbeats 4000000 in
set_option maxRecDepth 20000 in
theorem f_Slots_full {l : Launch} {ld : Nat} {M : gM} {L : gL} {Q : Option Value → gM → gL → gR → Prop} (hld : isLa ld)   {q : Int32} (h : F_Slots_full M = some q) (hQ : Q (some (.int q)) M L (rf ld)) : Tm l y_Slots_full (0, 0, 447) 447 [.ref 360] M L (rf ld) Q := by
  refine Tm.of (by decide) (Nat.le_of_ble_eq_true rfl) ?_
  show Wp l y_Slots_full (0, 0, 447) 447 0 0 0 [(0, .ref 360)] [] M L (rf ld) Q
  unfold F_Slots_full at h
  refine g_aload_n (pc1 := 1) d_Slots_full_0 rfl 0 rfl ?_
  refine g_geti (pc1 := 4) d_Slots_full_1 rfl ⟨_, fo_Slots_18⟩ sh_360 (by decide) ?_
  refine g_callS0 (pc1 := 7) (As := [.int (M 360 1)]) (rest := []) d_Slots_full_4 rfl mo_Slots_30 ms_Int_bitCount (by decide) rfl rfl (Nat.le_of_ble_eq_true rfl) ?_
  obtain ⟨r2, hq1, h⟩ := bnd h
  refine f_Int_bitCount hld  hq1 ?_
  dsimp only [psh]
  refine g_ireturn (Or.inl rfl) d_Slots_full_7 rfl ?_
  cases h; exact hQ

def F_State_agoOf (X0 : Nat) (p1 : Int32) (M : gM) : Option (Int32) :=
  bI (F_Main_at (X0 + 5) 4 p1 M) (fun r2 => some ((M X0 0) - r2))
set_option maxHeartbeats 4000000 in
set_option maxRecDepth 20000 in
theorem f_State_agoOf {l : Launch} {ld : Nat} {M : gM} {L : gL} {Q : Option Value → gM → gL → gR → Prop} (hld : isLa ld) {X0 : Nat} {p1 : Int32} (hX0 : isSt X0) {q : Int32} (h : F_State_agoOf X0 p1 M = some q) (hQ : Q (some (.int q)) M L (rf ld)) : Tm l y_State_agoOf (0, 0, 447) 447 [.ref X0, .int p1] M L (rf ld) Q := by
  refine Tm.of (by decide) (Nat.le_of_ble_eq_true rfl) ?_
  show Wp l y_State_agoOf (0, 0, 447) 447 0 0 0 [(0, .ref X0), (1, .int p1)] [] M L (rf ld) Q
  unfold F_State_agoOf at h
  refine g_aload_n (pc1 := 1) d_State_agoOf_0 rfl 0 rfl ?_
  refine g_geti (pc1 := 4) d_State_agoOf_1 rfl ⟨_, fo_State_34⟩ (shSt_0 hX0) (ltSt_0 hX0) ?_
  refine g_aload_n (pc1 := 5) d_State_agoOf_4 rfl 0 rfl ?_
  refine g_getr (pc1 := 8) d_State_agoOf_5 rfl ⟨_, fo_State_28⟩ (shSt_0 hX0) (ltSt_0 hX0) (rfSt_8 ld hX0) ?_
  refine g_iload_n (pc1 := 9) d_State_agoOf_8 rfl 1 rfl ?_
  refine g_callS0 (pc1 := 12) (As := [.ref (X0 + 5), .int p1]) (rest := [.int (M X0 0)]) d_State_agoOf_9 rfl mo_State_53 ms_Main_at (by decide) rfl rfl (Nat.le_of_ble_eq_true rfl) ?_
  obtain ⟨r2, hq1, h⟩ := bnd h
  refine f_Main_at hld (shSt_5 hX0) (ltSt_5 hX0) (by decide) hq1 ?_
  dsimp only [psh]
  refine g_isub (pc1 := 13) d_State_agoOf_12 rfl ?_
  refine g_ireturn (Or.inl rfl) d_State_agoOf_13 rfl ?_
  cases h; exact hQ

def B_State_allMeals_4 (X0 : Nat) (M : gM) (K4 : Int32 → Int32 → Option (Int32)) : Int32 → Int32 → Option (Int32) := fun v1 v2 =>
  (if 4 ≤ v2 then some v1 else bI (F_Main_at (X0 + 4) 4 v2 M) (fun r3 => nmI (v1 + r3) (fun x4 => nmI (v2 + 1) (fun x5 => K4 x4 x5))))
def H_State_allMeals_4 (X0 : Nat) (M : gM) : Nat → Int32 → Int32 → Option (Int32) := lpK (B_State_allMeals_4 X0 M) (fun _ _ => none)
set_option maxHeartbeats 4000000 in
set_option maxRecDepth 20000 in
theorem h_State_allMeals_4 {l : Launch} {ld : Nat} {Q : Option Value → gM → gL → gR → Prop} (hld : isLa ld) {X0 : Nat} (hX0 : isSt X0) {q : Int32} {M : gM} {L : gL} (hQ : Q (some (.int q)) M L (rf ld))    : ∀ (f : Nat) (v1 : Int32) (v2 : Int32), H_State_allMeals_4 X0 M f v1 v2 = some q → Wp l y_State_allMeals (0, 0, 447) 447 0 0 4 [(0, .ref X0), (1, .int v1), (2, .int v2)] [] M L (rf ld) Q := by
  intro f
  induction f with
  | zero => intro v1 v2 h; cases h
  | succ f hK4 =>
    intro v1 v2 h
    replace h : B_State_allMeals_4 X0 M (H_State_allMeals_4 X0 M f) v1 v2 = some q := h
    unfold B_State_allMeals_4 at h
    refine g_iload_n (pc1 := 5) d_State_allMeals_4 rfl 2 rfl ?_
    refine g_iconst (pc1 := 6) (v := 4) d_State_allMeals_5 rfl (by decide) ?_
    refine g_icmp_ge (pc1 := 9) (tgt := 26) d_State_allMeals_6 (by decide) rfl (fun c1 => ?_) (fun c1 => ?_)
    · replace h := itp h c1
      refine g_iload_n (pc1 := 27) d_State_allMeals_26 rfl 1 rfl ?_
      refine g_ireturn (Or.inl rfl) d_State_allMeals_27 rfl ?_
      cases h; exact hQ
    · replace h := itn h c1
      refine g_iload_n (pc1 := 10) d_State_allMeals_9 rfl 1 rfl ?_
      refine g_aload_n (pc1 := 11) d_State_allMeals_10 rfl 0 rfl ?_
      refine g_getr (pc1 := 14) d_State_allMeals_11 rfl ⟨_, fo_State_25⟩ (shSt_0 hX0) (ltSt_0 hX0) (rfSt_7 ld hX0) ?_
      refine g_iload_n (pc1 := 15) d_State_allMeals_14 rfl 2 rfl ?_
      refine g_callS0 (pc1 := 18) (As := [.ref (X0 + 4), .int v2]) (rest := [.int v1]) d_State_allMeals_15 rfl mo_State_53 ms_Main_at (by decide) rfl rfl (Nat.le_of_ble_eq_true rfl) ?_
      obtain ⟨r3, hq2, h⟩ := bnd h
      refine f_Main_at hld (shSt_4 hX0) (ltSt_4 hX0) (by decide) hq2 ?_
      dsimp only [psh]
      refine g_iadd (pc1 := 19) d_State_allMeals_18 rfl ?_
      refine Wp.lI h (fun x4 h => ?_)
      refine g_istore_n (pc1 := 20) (lv' := [(0, .ref X0), (1, .int x4), (2, .int v2)]) d_State_allMeals_19 rfl rfl (by decide) [1, 0, 2] rfl ?_
      obtain ⟨x5, ex5, h⟩ := ltI h
      refine g_iinc (pc1 := 23) (v := x5) (lv' := [(0, .ref X0), (1, .int x4), (2, .int x5)]) d_State_allMeals_20 rfl 2 rfl (by rw [ex5]; rfl) (by decide) [1, 2, 0] rfl ?_
      refine g_goto (tgt := 4) d_State_allMeals_23 (by decide) ?_
      exact hK4 x4 x5 h
def F_State_allMeals (X0 : Nat) (M : gM) : Option (Int32) :=
  H_State_allMeals_4 X0 M FU 0 0
set_option maxHeartbeats 4000000 in
set_option maxRecDepth 20000 in
theorem f_State_allMeals {l : Launch} {ld : Nat} {M : gM} {L : gL} {Q : Option Value → gM → gL → gR → Prop} (hld : isLa ld) {X0 : Nat} (hX0 : isSt X0) {q : Int32} (h : F_State_allMeals X0 M = some q) (hQ : Q (some (.int q)) M L (rf ld)) : Tm l y_State_allMeals (0, 0, 447) 447 [.ref X0] M L (rf ld) Q := by
  refine Tm.of (by decide) (Nat.le_of_ble_eq_true rfl) ?_
  show Wp l y_State_allMeals (0, 0, 447) 447 0 0 0 [(0, .ref X0)] [] M L (rf ld) Q
  unfold F_State_allMeals at h
  refine g_iconst (pc1 := 1) (v := 0) d_State_allMeals_0 rfl (by decide) ?_
  refine g_istore_n (pc1 := 2) (lv' := [(0, .ref X0), (1, .int 0)]) d_State_allMeals_1 rfl rfl (by decide) [1, 0] rfl ?_
  refine g_iconst (pc1 := 3) (v := 0) d_State_allMeals_2 rfl (by decide) ?_
  refine g_istore_n (pc1 := 4) (lv' := [(0, .ref X0), (1, .int 0), (2, .int 0)]) d_State_allMeals_3 rfl rfl (by decide) [1, 2, 0] rfl ?_
  exact h_State_allMeals_4 hld hX0 hQ  _ 0 0 h

def J_State_begin_89 (X0 : Nat) (Ld1 : Nat) (K58 : Int32 → gM → Option (gM)) (v2 : Int32) (s1 : Int32) (s2 : Int32) (M : gM) : Option (gM) :=
  bI (F_Main_put (X0 + 2) 6 s1 s2 M) (fun M18 => nmI (v2 + 1) (fun x19 => K58 x19 M18))
set_option maxHeartbeats 4000000 in
set_option maxRecDepth 20000 in
theorem j_State_begin_89 {l : Launch} {ld : Nat} {Q : Option Value → gM → gL → gR → Prop} (hld : isLa ld) {X0 : Nat} {Ld1 : Nat} (hX0 : isSt X0) (hLd1 : isLa Ld1) {q : gM} {M : gM} {L : gL} (hQ : Q none q L (rf ld)) {K58 : Int32 → gM → Option (gM)} {v2 : Int32} {s1 : Int32} {s2 : Int32} (hK58 : ∀ (w2 : Int32) (M : gM), K58 w2 M = some q → Wp l y_State_begin (0, 0, 447) 447 0 0 58 [(0, .ref X0), (1, .ref Ld1), (2, .int w2)] [] M L (rf ld) Q) (h : J_State_begin_89 X0 Ld1 K58 v2 s1 s2 M = some q) : Wp l y_State_begin (0, 0, 447) 447 0 0 89 [(0, .ref X0), (1, .ref Ld1), (2, .int v2)] [.int s2, .int s1, .ref (X0 + 2)] M L (rf ld) Q := by
  unfold J_State_begin_89 at h
  refine g_callS0 (pc1 := 92) (As := [.ref (X0 + 2), .int s1, .int s2]) (rest := []) d_State_begin_89 rfl mo_State_57 ms_Main_put (by decide) rfl rfl (Nat.le_of_ble_eq_true rfl) ?_
  obtain ⟨M18, hq17, h⟩ := bnd h
  refine f_Main_put hld (shSt_2 hX0) (ltSt_2 hX0) (by decide) hq17 ?_
  dsimp only [psh]
  obtain ⟨x19, ex19, h⟩ := ltI h
  refine g_iinc (pc1 := 95) (v := x19) (lv' := [(0, .ref X0), (1, .ref Ld1), (2, .int x19)]) d_State_begin_92 rfl 2 rfl (by rw [ex19]; rfl) (by decide) [1, 2, 0] rfl ?_
  refine g_goto (tgt := 58) d_State_begin_95 (by decide) ?_
  exact hK58 x19 M18 h
def B_State_begin_58 (X0 : Nat) (Ld1 : Nat) (K58 : Int32 → gM → Option (gM)) : Int32 → gM → Option (gM) := fun v2 M =>
  (if 6 ≤ v2 then some M else (if (M Ld1 0) ≤ v2 then J_State_begin_89 X0 Ld1 K58 v2 v2 0 M else bI (F_Main_at (Ld1 + 1) 6 v2 M) (fun r21 => J_State_begin_89 X0 Ld1 K58 v2 v2 r21 M)))
def H_State_begin_58 (X0 : Nat) (Ld1 : Nat) : Nat → Int32 → gM → Option (gM) := lpK (B_State_begin_58 X0 Ld1) (fun _ _ => none)
set_option maxHeartbeats 4000000 in
set_option maxRecDepth 20000 in
theorem h_State_begin_58 {l : Launch} {ld : Nat} {Q : Option Value → gM → gL → gR → Prop} (hld : isLa ld) {X0 : Nat} {Ld1 : Nat} (hX0 : isSt X0) (hLd1 : isLa Ld1) {q : gM} {L : gL} (hQ : Q none q L (rf ld))    : ∀ (f : Nat) (v2 : Int32) (M : gM), H_State_begin_58 X0 Ld1 f v2 M = some q → Wp l y_State_begin (0, 0, 447) 447 0 0 58 [(0, .ref X0), (1, .ref Ld1), (2, .int v2)] [] M L (rf ld) Q := by
  intro f
  induction f with
  | zero => intro v2 M h; cases h
  | succ f hK58 =>
    intro v2 M h
    replace h : B_State_begin_58 X0 Ld1 (H_State_begin_58 X0 Ld1 f) v2 M = some q := h
    unfold B_State_begin_58 at h
    refine g_iload_n (pc1 := 59) d_State_begin_58 rfl 2 rfl ?_
    refine g_bipush (pc1 := 61) (v := 6) d_State_begin_59 rfl (by decide) ?_
    refine g_icmp_ge (pc1 := 64) (tgt := 98) d_State_begin_61 (by decide) rfl (fun c15 => ?_) (fun c15 => ?_)
    · replace h := itp h c15
      refine g_return rfl d_State_begin_98 rfl ?_
      cases h; exact hQ
    · replace h := itn h c15
      refine g_aload_n (pc1 := 65) d_State_begin_64 rfl 0 rfl ?_
      refine g_getr (pc1 := 68) d_State_begin_65 rfl ⟨_, fo_State_19⟩ (shSt_0 hX0) (ltSt_0 hX0) (rfSt_5 ld hX0) ?_
      refine g_iload_n (pc1 := 69) d_State_begin_68 rfl 2 rfl ?_
      refine g_iload_n (pc1 := 70) d_State_begin_69 rfl 2 rfl ?_
      refine g_aload_n (pc1 := 71) d_State_begin_70 rfl 1 rfl ?_
      refine g_geti (pc1 := 74) d_State_begin_71 rfl ⟨_, fo_State_47⟩ (shLa_0 hLd1) (ltLa_0 hLd1) ?_
      refine g_icmp_ge (pc1 := 77) (tgt := 88) d_State_begin_74 (by decide) rfl (fun c16 => ?_) (fun c16 => ?_)
      · replace h := itp h c16
        refine g_iconst (pc1 := 89) (v := 0) d_State_begin_88 rfl (by decide) ?_
        exact j_State_begin_89 hld hX0 hLd1 hQ hK58 h
      · replace h := itn h c16
        refine g_aload_n (pc1 := 78) d_State_begin_77 rfl 1 rfl ?_
        refine g_getr (pc1 := 81) d_State_begin_78 rfl ⟨_, fo_State_52⟩ (shLa_0 hLd1) (ltLa_0 hLd1) (rfLa_5 ld hLd1) ?_
        refine g_iload_n (pc1 := 82) d_State_begin_81 rfl 2 rfl ?_
        refine g_callS0 (pc1 := 85) (As := [.ref (Ld1 + 1), .int v2]) (rest := [.int v2, .ref (X0 + 2)]) d_State_begin_82 rfl mo_State_53 ms_Main_at (by decide) rfl rfl (Nat.le_of_ble_eq_true rfl) ?_
        obtain ⟨r21, hq20, h⟩ := bnd h
        refine f_Main_at hld (shLa_1 hLd1) (ltLa_1 hLd1) (by decide) hq20 ?_
        dsimp only [psh]
        refine g_goto (tgt := 89) d_State_begin_85 (by decide) ?_
        exact j_State_begin_89 hld hX0 hLd1 hQ hK58 h
def F_State_begin (X0 : Nat) (Ld1 : Nat) (M : gM) : Option (gM) :=
  nmM (uM M X0 0 0) (fun M1 => nmM (uM M1 X0 1 0) (fun M2 => nmM (uM M2 X0 2 0) (fun M3 => nmM (uM M3 X0 3 (-2)) (fun M4 => bI (F_Main_wipe (X0 + 1) 3 M4) (fun M6 => bI (F_Main_wipe (X0 + 3) 5 M6) (fun M8 => bI (F_Main_wipe (X0 + 4) 4 M8) (fun M10 => bI (F_Main_wipe (X0 + 5) 4 M10) (fun M12 => bI (F_Main_wipe (X0 + 6) 12 M12) (fun M14 => H_State_begin_58 X0 Ld1 FU 0 M14)))))))))
set_option maxHeartbeats 4000000 in
set_option maxRecDepth 20000 in
theorem f_State_begin {l : Launch} {ld : Nat} {M : gM} {L : gL} {Q : Option Value → gM → gL → gR → Prop} (hld : isLa ld) {X0 : Nat} {Ld1 : Nat} (hX0 : isSt X0) (hLd1 : isLa Ld1) {q : gM} (h : F_State_begin X0 Ld1 M = some q) (hQ : Q none q L (rf ld)) : Tm l y_State_begin (0, 0, 447) 447 [.ref X0, .ref Ld1] M L (rf ld) Q := by
  refine Tm.of (by decide) (Nat.le_of_ble_eq_true rfl) ?_
  show Wp l y_State_begin (0, 0, 447) 447 0 0 0 [(0, .ref X0), (1, .ref Ld1)] [] M L (rf ld) Q
  unfold F_State_begin at h
  refine g_aload_n (pc1 := 1) d_State_begin_0 rfl 0 rfl ?_
  refine g_iconst (pc1 := 2) (v := 0) d_State_begin_1 rfl (by decide) ?_
  refine g_puti (pc1 := 5) d_State_begin_2 rfl fo_State_34 (po_6_0 _) (shSt_0 hX0) (ltSt_0 hX0) ?_
  refine Wp.lM h (fun M1 h => ?_)
  refine g_aload_n (pc1 := 6) d_State_begin_5 rfl 0 rfl ?_
  refine g_iconst (pc1 := 7) (v := 0) d_State_begin_6 rfl (by decide) ?_
  refine g_puti (pc1 := 10) d_State_begin_7 rfl fo_State_37 (po_6_1 _) (shSt_0 hX0) (ltSt_0 hX0) ?_
  refine Wp.lM h (fun M2 h => ?_)
  refine g_aload_n (pc1 := 11) d_State_begin_10 rfl 0 rfl ?_
  refine g_iconst (pc1 := 12) (v := 0) d_State_begin_11 rfl (by decide) ?_
  refine g_puti (pc1 := 15) d_State_begin_12 rfl fo_State_40 (po_6_2 _) (shSt_0 hX0) (ltSt_0 hX0) ?_
  refine Wp.lM h (fun M3 h => ?_)
  refine g_aload_n (pc1 := 16) d_State_begin_15 rfl 0 rfl ?_
  refine g_bipush (pc1 := 18) (v := (-2)) d_State_begin_16 rfl (by decide) ?_
  refine g_puti (pc1 := 21) d_State_begin_18 rfl fo_State_9 (po_6_3 _) (shSt_0 hX0) (ltSt_0 hX0) ?_
  refine Wp.lM h (fun M4 h => ?_)
  refine g_aload_n (pc1 := 22) d_State_begin_21 rfl 0 rfl ?_
  refine g_getr (pc1 := 25) d_State_begin_22 rfl ⟨_, fo_State_15⟩ (shSt_0 hX0) (ltSt_0 hX0) (rfSt_4 ld hX0) ?_
  refine g_callS0 (pc1 := 28) (As := [.ref (X0 + 1)]) (rest := []) d_State_begin_25 rfl mo_State_43 ms_Main_wipe (by decide) rfl rfl (Nat.le_of_ble_eq_true rfl) ?_
  obtain ⟨M6, hq5, h⟩ := bnd h
  refine f_Main_wipe hld (shSt_1 hX0) (ltSt_1 hX0) (by decide) hq5 ?_
  dsimp only [psh]
  refine g_aload_n (pc1 := 29) d_State_begin_28 rfl 0 rfl ?_
  refine g_getr (pc1 := 32) d_State_begin_29 rfl ⟨_, fo_State_22⟩ (shSt_0 hX0) (ltSt_0 hX0) (rfSt_6 ld hX0) ?_
  refine g_callS0 (pc1 := 35) (As := [.ref (X0 + 3)]) (rest := []) d_State_begin_32 rfl mo_State_43 ms_Main_wipe (by decide) rfl rfl (Nat.le_of_ble_eq_true rfl) ?_
  obtain ⟨M8, hq7, h⟩ := bnd h
  refine f_Main_wipe hld (shSt_3 hX0) (ltSt_3 hX0) (by decide) hq7 ?_
  dsimp only [psh]
  refine g_aload_n (pc1 := 36) d_State_begin_35 rfl 0 rfl ?_
  refine g_getr (pc1 := 39) d_State_begin_36 rfl ⟨_, fo_State_25⟩ (shSt_0 hX0) (ltSt_0 hX0) (rfSt_7 ld hX0) ?_
  refine g_callS0 (pc1 := 42) (As := [.ref (X0 + 4)]) (rest := []) d_State_begin_39 rfl mo_State_43 ms_Main_wipe (by decide) rfl rfl (Nat.le_of_ble_eq_true rfl) ?_
  obtain ⟨M10, hq9, h⟩ := bnd h
  refine f_Main_wipe hld (shSt_4 hX0) (ltSt_4 hX0) (by decide) hq9 ?_
  dsimp only [psh]
  refine g_aload_n (pc1 := 43) d_State_begin_42 rfl 0 rfl ?_
  refine g_getr (pc1 := 46) d_State_begin_43 rfl ⟨_, fo_State_28⟩ (shSt_0 hX0) (ltSt_0 hX0) (rfSt_8 ld hX0) ?_
  refine g_callS0 (pc1 := 49) (As := [.ref (X0 + 5)]) (rest := []) d_State_begin_46 rfl mo_State_43 ms_Main_wipe (by decide) rfl rfl (Nat.le_of_ble_eq_true rfl) ?_
  obtain ⟨M12, hq11, h⟩ := bnd h
  refine f_Main_wipe hld (shSt_5 hX0) (ltSt_5 hX0) (by decide) hq11 ?_
  dsimp only [psh]
  refine g_aload_n (pc1 := 50) d_State_begin_49 rfl 0 rfl ?_
  refine g_getr (pc1 := 53) d_State_begin_50 rfl ⟨_, fo_State_31⟩ (shSt_0 hX0) (ltSt_0 hX0) (rfSt_9 ld hX0) ?_
  refine g_callS0 (pc1 := 56) (As := [.ref (X0 + 6)]) (rest := []) d_State_begin_53 rfl mo_State_43 ms_Main_wipe (by decide) rfl rfl (Nat.le_of_ble_eq_true rfl) ?_
  obtain ⟨M14, hq13, h⟩ := bnd h
  refine f_Main_wipe hld (shSt_6 hX0) (ltSt_6 hX0) (by decide) hq13 ?_
  dsimp only [psh]
  refine g_iconst (pc1 := 57) (v := 0) d_State_begin_56 rfl (by decide) ?_
  refine g_istore_n (pc1 := 58) (lv' := [(0, .ref X0), (1, .ref Ld1), (2, .int 0)]) d_State_begin_57 rfl rfl (by decide) [1, 2, 0] rfl ?_
  exact h_State_begin_58 hld hX0 hLd1 hQ  _ 0 M14 h

def F_State_copyFrom (X0 : Nat) (X1 : Nat) (M : gM) : Option (gM) :=
  nmM (uM M X0 0 (M X1 0)) (fun M1 => nmM (uM M1 X0 1 (M1 X1 1)) (fun M2 => nmM (uM M2 X0 2 (M2 X1 2)) (fun M3 => nmM (uM M3 X0 3 (M3 X1 3)) (fun M4 => bI (F_Main_copyRow (X1 + 1) 3 (X0 + 1) 3 M4) (fun M6 => bI (F_Main_copyRow (X1 + 2) 6 (X0 + 2) 6 M6) (fun M8 => bI (F_Main_copyRow (X1 + 3) 5 (X0 + 3) 5 M8) (fun M10 => bI (F_Main_copyRow (X1 + 4) 4 (X0 + 4) 4 M10) (fun M12 => bI (F_Main_copyRow (X1 + 5) 4 (X0 + 5) 4 M12) (fun M14 => bI (F_Main_copyRow (X1 + 6) 12 (X0 + 6) 12 M14) (fun M16 => some M16))))))))))
set_option maxHeartbeats 4000000 in
set_option maxRecDepth 20000 in
theorem f_State_copyFrom {l : Launch} {ld : Nat} {M : gM} {L : gL} {Q : Option Value → gM → gL → gR → Prop} (hld : isLa ld) {X0 : Nat} {X1 : Nat} (hX0 : isSt X0) (hX1 : isSt X1) {q : gM} (h : F_State_copyFrom X0 X1 M = some q) (hQ : Q none q L (rf ld)) : Tm l y_State_copyFrom (0, 0, 447) 447 [.ref X0, .ref X1] M L (rf ld) Q := by
  refine Tm.of (by decide) (Nat.le_of_ble_eq_true rfl) ?_
  show Wp l y_State_copyFrom (0, 0, 447) 447 0 0 0 [(0, .ref X0), (1, .ref X1)] [] M L (rf ld) Q
  unfold F_State_copyFrom at h
  refine g_aload_n (pc1 := 1) d_State_copyFrom_0 rfl 0 rfl ?_
  refine g_aload_n (pc1 := 2) d_State_copyFrom_1 rfl 1 rfl ?_
  refine g_geti (pc1 := 5) d_State_copyFrom_2 rfl ⟨_, fo_State_34⟩ (shSt_0 hX1) (ltSt_0 hX1) ?_
  refine g_puti (pc1 := 8) d_State_copyFrom_5 rfl fo_State_34 (po_6_0 _) (shSt_0 hX0) (ltSt_0 hX0) ?_
  refine Wp.lM h (fun M1 h => ?_)
  refine g_aload_n (pc1 := 9) d_State_copyFrom_8 rfl 0 rfl ?_
  refine g_aload_n (pc1 := 10) d_State_copyFrom_9 rfl 1 rfl ?_
  refine g_geti (pc1 := 13) d_State_copyFrom_10 rfl ⟨_, fo_State_37⟩ (shSt_0 hX1) (ltSt_0 hX1) ?_
  refine g_puti (pc1 := 16) d_State_copyFrom_13 rfl fo_State_37 (po_6_1 _) (shSt_0 hX0) (ltSt_0 hX0) ?_
  refine Wp.lM h (fun M2 h => ?_)
  refine g_aload_n (pc1 := 17) d_State_copyFrom_16 rfl 0 rfl ?_
  refine g_aload_n (pc1 := 18) d_State_copyFrom_17 rfl 1 rfl ?_
  refine g_geti (pc1 := 21) d_State_copyFrom_18 rfl ⟨_, fo_State_40⟩ (shSt_0 hX1) (ltSt_0 hX1) ?_
  refine g_puti (pc1 := 24) d_State_copyFrom_21 rfl fo_State_40 (po_6_2 _) (shSt_0 hX0) (ltSt_0 hX0) ?_
  refine Wp.lM h (fun M3 h => ?_)
  refine g_aload_n (pc1 := 25) d_State_copyFrom_24 rfl 0 rfl ?_
  refine g_aload_n (pc1 := 26) d_State_copyFrom_25 rfl 1 rfl ?_
  refine g_geti (pc1 := 29) d_State_copyFrom_26 rfl ⟨_, fo_State_9⟩ (shSt_0 hX1) (ltSt_0 hX1) ?_
  refine g_puti (pc1 := 32) d_State_copyFrom_29 rfl fo_State_9 (po_6_3 _) (shSt_0 hX0) (ltSt_0 hX0) ?_
  refine Wp.lM h (fun M4 h => ?_)
  refine g_aload_n (pc1 := 33) d_State_copyFrom_32 rfl 1 rfl ?_
  refine g_getr (pc1 := 36) d_State_copyFrom_33 rfl ⟨_, fo_State_15⟩ (shSt_0 hX1) (ltSt_0 hX1) (rfSt_4 ld hX1) ?_
  refine g_aload_n (pc1 := 37) d_State_copyFrom_36 rfl 0 rfl ?_
  refine g_getr (pc1 := 40) d_State_copyFrom_37 rfl ⟨_, fo_State_15⟩ (shSt_0 hX0) (ltSt_0 hX0) (rfSt_4 ld hX0) ?_
  refine g_callS0 (pc1 := 43) (As := [.ref (X1 + 1), .ref (X0 + 1)]) (rest := []) d_State_copyFrom_40 rfl mo_State_61 ms_Main_copyRow (by decide) rfl rfl (Nat.le_of_ble_eq_true rfl) ?_
  obtain ⟨M6, hq5, h⟩ := bnd h
  refine f_Main_copyRow hld (shSt_1 hX1) (ltSt_1 hX1) (by decide) (shSt_1 hX0) (ltSt_1 hX0) (by decide) hq5 ?_
  dsimp only [psh]
  refine g_aload_n (pc1 := 44) d_State_copyFrom_43 rfl 1 rfl ?_
  refine g_getr (pc1 := 47) d_State_copyFrom_44 rfl ⟨_, fo_State_19⟩ (shSt_0 hX1) (ltSt_0 hX1) (rfSt_5 ld hX1) ?_
  refine g_aload_n (pc1 := 48) d_State_copyFrom_47 rfl 0 rfl ?_
  refine g_getr (pc1 := 51) d_State_copyFrom_48 rfl ⟨_, fo_State_19⟩ (shSt_0 hX0) (ltSt_0 hX0) (rfSt_5 ld hX0) ?_
  refine g_callS0 (pc1 := 54) (As := [.ref (X1 + 2), .ref (X0 + 2)]) (rest := []) d_State_copyFrom_51 rfl mo_State_61 ms_Main_copyRow (by decide) rfl rfl (Nat.le_of_ble_eq_true rfl) ?_
  obtain ⟨M8, hq7, h⟩ := bnd h
  refine f_Main_copyRow hld (shSt_2 hX1) (ltSt_2 hX1) (by decide) (shSt_2 hX0) (ltSt_2 hX0) (by decide) hq7 ?_
  dsimp only [psh]
  refine g_aload_n (pc1 := 55) d_State_copyFrom_54 rfl 1 rfl ?_
  refine g_getr (pc1 := 58) d_State_copyFrom_55 rfl ⟨_, fo_State_22⟩ (shSt_0 hX1) (ltSt_0 hX1) (rfSt_6 ld hX1) ?_
  refine g_aload_n (pc1 := 59) d_State_copyFrom_58 rfl 0 rfl ?_
  refine g_getr (pc1 := 62) d_State_copyFrom_59 rfl ⟨_, fo_State_22⟩ (shSt_0 hX0) (ltSt_0 hX0) (rfSt_6 ld hX0) ?_
  refine g_callS0 (pc1 := 65) (As := [.ref (X1 + 3), .ref (X0 + 3)]) (rest := []) d_State_copyFrom_62 rfl mo_State_61 ms_Main_copyRow (by decide) rfl rfl (Nat.le_of_ble_eq_true rfl) ?_
  obtain ⟨M10, hq9, h⟩ := bnd h
  refine f_Main_copyRow hld (shSt_3 hX1) (ltSt_3 hX1) (by decide) (shSt_3 hX0) (ltSt_3 hX0) (by decide) hq9 ?_
  dsimp only [psh]
  refine g_aload_n (pc1 := 66) d_State_copyFrom_65 rfl 1 rfl ?_
  refine g_getr (pc1 := 69) d_State_copyFrom_66 rfl ⟨_, fo_State_25⟩ (shSt_0 hX1) (ltSt_0 hX1) (rfSt_7 ld hX1) ?_
  refine g_aload_n (pc1 := 70) d_State_copyFrom_69 rfl 0 rfl ?_
  refine g_getr (pc1 := 73) d_State_copyFrom_70 rfl ⟨_, fo_State_25⟩ (shSt_0 hX0) (ltSt_0 hX0) (rfSt_7 ld hX0) ?_
  refine g_callS0 (pc1 := 76) (As := [.ref (X1 + 4), .ref (X0 + 4)]) (rest := []) d_State_copyFrom_73 rfl mo_State_61 ms_Main_copyRow (by decide) rfl rfl (Nat.le_of_ble_eq_true rfl) ?_
  obtain ⟨M12, hq11, h⟩ := bnd h
  refine f_Main_copyRow hld (shSt_4 hX1) (ltSt_4 hX1) (by decide) (shSt_4 hX0) (ltSt_4 hX0) (by decide) hq11 ?_
  dsimp only [psh]
  refine g_aload_n (pc1 := 77) d_State_copyFrom_76 rfl 1 rfl ?_
  refine g_getr (pc1 := 80) d_State_copyFrom_77 rfl ⟨_, fo_State_28⟩ (shSt_0 hX1) (ltSt_0 hX1) (rfSt_8 ld hX1) ?_
  refine g_aload_n (pc1 := 81) d_State_copyFrom_80 rfl 0 rfl ?_
  refine g_getr (pc1 := 84) d_State_copyFrom_81 rfl ⟨_, fo_State_28⟩ (shSt_0 hX0) (ltSt_0 hX0) (rfSt_8 ld hX0) ?_
  refine g_callS0 (pc1 := 87) (As := [.ref (X1 + 5), .ref (X0 + 5)]) (rest := []) d_State_copyFrom_84 rfl mo_State_61 ms_Main_copyRow (by decide) rfl rfl (Nat.le_of_ble_eq_true rfl) ?_
  obtain ⟨M14, hq13, h⟩ := bnd h
  refine f_Main_copyRow hld (shSt_5 hX1) (ltSt_5 hX1) (by decide) (shSt_5 hX0) (ltSt_5 hX0) (by decide) hq13 ?_
  dsimp only [psh]
  refine g_aload_n (pc1 := 88) d_State_copyFrom_87 rfl 1 rfl ?_
  refine g_getr (pc1 := 91) d_State_copyFrom_88 rfl ⟨_, fo_State_31⟩ (shSt_0 hX1) (ltSt_0 hX1) (rfSt_9 ld hX1) ?_
  refine g_aload_n (pc1 := 92) d_State_copyFrom_91 rfl 0 rfl ?_
  refine g_getr (pc1 := 95) d_State_copyFrom_92 rfl ⟨_, fo_State_31⟩ (shSt_0 hX0) (ltSt_0 hX0) (rfSt_9 ld hX0) ?_
  refine g_callS0 (pc1 := 98) (As := [.ref (X1 + 6), .ref (X0 + 6)]) (rest := []) d_State_copyFrom_95 rfl mo_State_61 ms_Main_copyRow (by decide) rfl rfl (Nat.le_of_ble_eq_true rfl) ?_
  obtain ⟨M16, hq15, h⟩ := bnd h
  refine f_Main_copyRow hld (shSt_6 hX1) (ltSt_6 hX1) (by decide) (shSt_6 hX0) (ltSt_6 hX0) (by decide) hq15 ?_
  dsimp only [psh]
  refine g_return rfl d_State_copyFrom_98 rfl ?_
  cases h; exact hQ

def J_State_eatServed_33 (X0 : Nat) (v1 : Int32) (M : gM) : Option (gM) :=
  bI (F_Main_put (X0 + 5) 4 v1 (M X0 0) M) (fun M3 => bI (F_Main_at (X0 + 4) 4 v1 M3) (fun r5 => bI (F_Main_put (X0 + 4) 4 v1 (r5 + 1) M3) (fun M7 => some M7)))
set_option maxHeartbeats 4000000 in
set_option maxRecDepth 20000 in
theorem j_State_eatServed_33 {l : Launch} {ld : Nat} {Q : Option Value → gM → gL → gR → Prop} (hld : isLa ld) {X0 : Nat} (hX0 : isSt X0) {q : gM} {M : gM} {L : gL} (hQ : Q none q L (rf ld))  {v1 : Int32}  (h : J_State_eatServed_33 X0 v1 M = some q) : Wp l y_State_eatServed (0, 0, 447) 447 0 0 33 [(0, .ref X0), (1, .int v1)] [] M L (rf ld) Q := by
  unfold J_State_eatServed_33 at h
  refine g_aload_n (pc1 := 34) d_State_eatServed_33 rfl 0 rfl ?_
  refine g_getr (pc1 := 37) d_State_eatServed_34 rfl ⟨_, fo_State_28⟩ (shSt_0 hX0) (ltSt_0 hX0) (rfSt_8 ld hX0) ?_
  refine g_iload_n (pc1 := 38) d_State_eatServed_37 rfl 1 rfl ?_
  refine g_aload_n (pc1 := 39) d_State_eatServed_38 rfl 0 rfl ?_
  refine g_geti (pc1 := 42) d_State_eatServed_39 rfl ⟨_, fo_State_34⟩ (shSt_0 hX0) (ltSt_0 hX0) ?_
  refine g_callS0 (pc1 := 45) (As := [.ref (X0 + 5), .int v1, .int (M X0 0)]) (rest := []) d_State_eatServed_42 rfl mo_State_57 ms_Main_put (by decide) rfl rfl (Nat.le_of_ble_eq_true rfl) ?_
  obtain ⟨M3, hq2, h⟩ := bnd h
  refine f_Main_put hld (shSt_5 hX0) (ltSt_5 hX0) (by decide) hq2 ?_
  dsimp only [psh]
  refine g_aload_n (pc1 := 46) d_State_eatServed_45 rfl 0 rfl ?_
  refine g_getr (pc1 := 49) d_State_eatServed_46 rfl ⟨_, fo_State_25⟩ (shSt_0 hX0) (ltSt_0 hX0) (rfSt_7 ld hX0) ?_
  refine g_iload_n (pc1 := 50) d_State_eatServed_49 rfl 1 rfl ?_
  refine g_aload_n (pc1 := 51) d_State_eatServed_50 rfl 0 rfl ?_
  refine g_getr (pc1 := 54) d_State_eatServed_51 rfl ⟨_, fo_State_25⟩ (shSt_0 hX0) (ltSt_0 hX0) (rfSt_7 ld hX0) ?_
  refine g_iload_n (pc1 := 55) d_State_eatServed_54 rfl 1 rfl ?_
  refine g_callS0 (pc1 := 58) (As := [.ref (X0 + 4), .int v1]) (rest := [.int v1, .ref (X0 + 4)]) d_State_eatServed_55 rfl mo_State_53 ms_Main_at (by decide) rfl rfl (Nat.le_of_ble_eq_true rfl) ?_
  obtain ⟨r5, hq4, h⟩ := bnd h
  refine f_Main_at hld (shSt_4 hX0) (ltSt_4 hX0) (by decide) hq4 ?_
  dsimp only [psh]
  refine g_iconst (pc1 := 59) (v := 1) d_State_eatServed_58 rfl (by decide) ?_
  refine g_iadd (pc1 := 60) d_State_eatServed_59 rfl ?_
  refine g_callS0 (pc1 := 63) (As := [.ref (X0 + 4), .int v1, .int (r5 + 1)]) (rest := []) d_State_eatServed_60 rfl mo_State_57 ms_Main_put (by decide) rfl rfl (Nat.le_of_ble_eq_true rfl) ?_
  obtain ⟨M7, hq6, h⟩ := bnd h
  refine f_Main_put hld (shSt_4 hX0) (ltSt_4 hX0) (by decide) hq6 ?_
  dsimp only [psh]
  refine g_return rfl d_State_eatServed_63 rfl ?_
  cases h; exact hQ
def B_State_eatServed_2 (X0 : Nat) (v1 : Int32) (K2 : Int32 → gM → Option (gM)) : Int32 → gM → Option (gM) := fun v2 M =>
  (if 3 ≤ v2 then J_State_eatServed_33 X0 v1 M else bI (F_Main_at (X0 + 1) 3 v2 M) (fun r9 => bI (F_Main_put (X0 + 6) 12 ((v1 * 3) + v2) r9 M) (fun M11 => nmI (v2 + 1) (fun x12 => K2 x12 M11))))
def H_State_eatServed_2 (X0 : Nat) (v1 : Int32) : Nat → Int32 → gM → Option (gM) := lpK (B_State_eatServed_2 X0 v1) (fun _ _ => none)
set_option maxHeartbeats 4000000 in
set_option maxRecDepth 20000 in
theorem h_State_eatServed_2 {l : Launch} {ld : Nat} {Q : Option Value → gM → gL → gR → Prop} (hld : isLa ld) {X0 : Nat} (hX0 : isSt X0) {q : gM} {L : gL} (hQ : Q none q L (rf ld))  {v1 : Int32}  : ∀ (f : Nat) (v2 : Int32) (M : gM), H_State_eatServed_2 X0 v1 f v2 M = some q → Wp l y_State_eatServed (0, 0, 447) 447 0 0 2 [(0, .ref X0), (1, .int v1), (2, .int v2)] [] M L (rf ld) Q := by
  intro f
  induction f with
  | zero => intro v2 M h; cases h
  | succ f hK2 =>
    intro v2 M h
    replace h : B_State_eatServed_2 X0 v1 (H_State_eatServed_2 X0 v1 f) v2 M = some q := h
    unfold B_State_eatServed_2 at h
    refine g_iload_n (pc1 := 3) d_State_eatServed_2 rfl 2 rfl ?_
    refine g_iconst (pc1 := 4) (v := 3) d_State_eatServed_3 rfl (by decide) ?_
    refine g_icmp_ge (pc1 := 7) (tgt := 33) d_State_eatServed_4 (by decide) rfl (fun c1 => ?_) (fun c1 => ?_)
    · replace h := itp h c1
      refine Wp.loc (lv' := [(0, .ref X0), (1, .int v1)]) [0, 1] rfl ?_
      exact j_State_eatServed_33 hld hX0 hQ  h
    · replace h := itn h c1
      refine g_aload_n (pc1 := 8) d_State_eatServed_7 rfl 0 rfl ?_
      refine g_getr (pc1 := 11) d_State_eatServed_8 rfl ⟨_, fo_State_31⟩ (shSt_0 hX0) (ltSt_0 hX0) (rfSt_9 ld hX0) ?_
      refine g_iload_n (pc1 := 12) d_State_eatServed_11 rfl 1 rfl ?_
      refine g_iconst (pc1 := 13) (v := 3) d_State_eatServed_12 rfl (by decide) ?_
      refine g_imul (pc1 := 14) d_State_eatServed_13 rfl ?_
      refine g_iload_n (pc1 := 15) d_State_eatServed_14 rfl 2 rfl ?_
      refine g_iadd (pc1 := 16) d_State_eatServed_15 rfl ?_
      refine g_aload_n (pc1 := 17) d_State_eatServed_16 rfl 0 rfl ?_
      refine g_getr (pc1 := 20) d_State_eatServed_17 rfl ⟨_, fo_State_15⟩ (shSt_0 hX0) (ltSt_0 hX0) (rfSt_4 ld hX0) ?_
      refine g_iload_n (pc1 := 21) d_State_eatServed_20 rfl 2 rfl ?_
      refine g_callS0 (pc1 := 24) (As := [.ref (X0 + 1), .int v2]) (rest := [.int ((v1 * 3) + v2), .ref (X0 + 6)]) d_State_eatServed_21 rfl mo_State_53 ms_Main_at (by decide) rfl rfl (Nat.le_of_ble_eq_true rfl) ?_
      obtain ⟨r9, hq8, h⟩ := bnd h
      refine f_Main_at hld (shSt_1 hX0) (ltSt_1 hX0) (by decide) hq8 ?_
      dsimp only [psh]
      refine g_callS0 (pc1 := 27) (As := [.ref (X0 + 6), .int ((v1 * 3) + v2), .int r9]) (rest := []) d_State_eatServed_24 rfl mo_State_57 ms_Main_put (by decide) rfl rfl (Nat.le_of_ble_eq_true rfl) ?_
      obtain ⟨M11, hq10, h⟩ := bnd h
      refine f_Main_put hld (shSt_6 hX0) (ltSt_6 hX0) (by decide) hq10 ?_
      dsimp only [psh]
      obtain ⟨x12, ex12, h⟩ := ltI h
      refine g_iinc (pc1 := 30) (v := x12) (lv' := [(0, .ref X0), (1, .int v1), (2, .int x12)]) d_State_eatServed_27 rfl 2 rfl (by rw [ex12]; rfl) (by decide) [1, 2, 0] rfl ?_
      refine g_goto (tgt := 2) d_State_eatServed_30 (by decide) ?_
      exact hK2 x12 M11 h
def F_State_eatServed (X0 : Nat) (p1 : Int32) (M : gM) : Option (gM) :=
  H_State_eatServed_2 X0 p1 FU 0 M
set_option maxHeartbeats 4000000 in
set_option maxRecDepth 20000 in
theorem f_State_eatServed {l : Launch} {ld : Nat} {M : gM} {L : gL} {Q : Option Value → gM → gL → gR → Prop} (hld : isLa ld) {X0 : Nat} {p1 : Int32} (hX0 : isSt X0) {q : gM} (h : F_State_eatServed X0 p1 M = some q) (hQ : Q none q L (rf ld)) : Tm l y_State_eatServed (0, 0, 447) 447 [.ref X0, .int p1] M L (rf ld) Q := by
  refine Tm.of (by decide) (Nat.le_of_ble_eq_true rfl) ?_
  show Wp l y_State_eatServed (0, 0, 447) 447 0 0 0 [(0, .ref X0), (1, .int p1)] [] M L (rf ld) Q
  unfold F_State_eatServed at h
  refine g_iconst (pc1 := 1) (v := 0) d_State_eatServed_0 rfl (by decide) ?_
  refine g_istore_n (pc1 := 2) (lv' := [(0, .ref X0), (1, .int p1), (2, .int 0)]) d_State_eatServed_1 rfl rfl (by decide) [1, 2, 0] rfl ?_
  exact h_State_eatServed_2 hld hX0 hQ  _ 0 M h

